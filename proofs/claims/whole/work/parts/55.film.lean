/-! two, film -/
def allE (d e f : Nat → Nat) : Nat → Nat
  | 0 => 1
  | k + 1 => if d k = e k ∨ d k = f k then allE d e f k else 0
theorem allE_lt (d e f : Nat → Nat) : ∀ k, allE d e f k < 2
  | 0 => Nat.one_lt_two
  | k + 1 => by have := allE_lt d e f k; unfold allE; split <;> omega
theorem allE_1 {d e f : Nat → Nat} : ∀ {k}, allE d e f k = 1 ↔ ∀ j, j < k → d j = e j ∨ d j = f j
  | 0 => ⟨fun _ _ h => absurd h (by omega), fun _ => rfl⟩
  | k + 1 => by
    unfold allE
    by_cases h : d k = e k ∨ d k = f k
    · rw [if_pos h, allE_1]
      constructor
      · intro q j hj
        by_cases e : j = k
        · subst e; exact h
        · exact q j (by omega)
      · intro q j hj; exact q j (by omega)
    · rw [if_neg h]
      exact ⟨fun q => absurd q (by omega), fun q => absurd (q k (by omega)) h⟩
/-- two by whom a paper is, each needed -/
def nbN (d e f : Nat → Nat) : Nat := if rw6 d = rw6 e ∨ rw6 d = rw6 f then 0 else allE d e f 6
theorem nbN_lt (d e f : Nat → Nat) : nbN d e f < 2 := by
  have := allE_lt d e f 6
  unfold nbN; split <;> omega
def oiN (d e : Nat → Nat) : Nat → Nat
  | 0 => 0
  | k + 1 => oiN d e k ||| eqB (d k) (e k) * 2 ^ k
theorem eqB_1 {a b : Nat} : eqB a b = 1 ↔ a = b := by
  unfold eqB
  by_cases h : a = b
  · rw [if_pos h]; exact ⟨fun _ => h, fun _ => rfl⟩
  · rw [if_neg h]; exact ⟨fun q => absurd q (by omega), fun q => absurd q h⟩
theorem rw6_all {d e : Nat → Nat} (hd : dgo d) (he : dgo e) : rw6 d = rw6 e ↔ (d 0 = e 0 ∧ d 1 = e 1 ∧ d 2 = e 2 ∧ d 3 = e 3 ∧ d 4 = e 4 ∧ d 5 = e 5) := by
  constructor
  · intro q
    have h := rw6_inj hd he q
    exact ⟨h 0 (by omega), h 1 (by omega), h 2 (by omega), h 3 (by omega), h 4 (by omega), h 5 (by omega)⟩
  · rintro ⟨h0, h1, h2, h3, h4, h5⟩
    unfold rw6; rw [h0, h1, h2, h3, h4, h5]
theorem oi_lt (d e : Nat → Nat) : ∀ k, oiN d e k < 2 ^ k
  | 0 => by unfold oiN; omega
  | k + 1 => by
    have h1 := oi_lt d e k
    have h2 := eqB_lt (d k) (e k)
    unfold oiN
    refine Nat.or_lt_two_pow (Nat.lt_of_lt_of_le h1 (Nat.pow_le_pow_right (by omega) (by omega))) ?_
    rw [Nat.pow_succ]
    have : 0 < 2 ^ k := Nat.two_pow_pos k
    obtain e | e : eqB (d k) (e k) = 0 ∨ eqB (d k) (e k) = 1 := by omega
    · rw [e, Nat.zero_mul]; omega
    · rw [e, Nat.one_mul]; omega
theorem oi_bit (d e : Nat → Nat) (j : Nat) : ∀ k, (oiN d e k).testBit j = (decide (j < k) && decide (d j = e j))
  | 0 => by
    show (0 : Nat).testBit j = _
    rw [Nat.zero_testBit, decide_eq_false (Nat.not_lt_zero j), Bool.false_and]
  | k + 1 => by
    show (oiN d e k ||| eqB (d k) (e k) * 2 ^ k).testBit j = _
    rw [Nat.testBit_or, oi_bit d e j k]
    have hb : (eqB (d k) (e k) * 2 ^ k).testBit j = (decide (k = j) && decide (d k = e k)) := by
      unfold eqB
      by_cases h : d k = e k
      · rw [if_pos h, Nat.one_mul, Nat.testBit_two_pow, decide_eq_true h, Bool.and_true]
      · rw [if_neg h, Nat.zero_mul, Nat.zero_testBit, decide_eq_false h, Bool.and_false]
    rw [hb]
    by_cases h : k = j
    · subst h
      rw [decide_eq_false (Nat.lt_irrefl k), Bool.false_and, Bool.false_or, decide_eq_true (show k = k from rfl), decide_eq_true (show k < k + 1 by omega)]
    · rw [decide_eq_false h, Bool.false_and, Bool.or_false]
      by_cases h2 : j < k
      · rw [decide_eq_true h2, decide_eq_true (show j < k + 1 by omega)]
      · rw [decide_eq_false h2, decide_eq_false (show ¬ j < k + 1 by omega)]
theorem full63 {X : Nat} (h : X < 64) : X = 63 ↔ ∀ j, j < 6 → X.testBit j = true := by
  have e63 : ∀ j, j < 6 → (63 : Nat).testBit j = true := by decide
  constructor
  · rintro rfl j hj
    exact e63 j hj
  · intro q
    apply Nat.eq_of_testBit_eq
    intro i
    by_cases hi : i < 6
    · rw [q i hi, e63 i hi]
    · have : (2 : Nat) ^ 6 ≤ 2 ^ i := Nat.pow_le_pow_right (by omega) (by omega)
      rw [Nat.testBit_lt_two_pow (show X < 2 ^ i by omega), Nat.testBit_lt_two_pow (show 63 < 2 ^ i by omega)]
theorem oi_63 {d e : Nat → Nat} (hd : dgo d) (he : dgo e) : oiN d e 6 = 63 ↔ rw6 d = rw6 e := by
  rw [rw6_all hd he, full63 (oi_lt d e 6)]
  have hb : ∀ j, j < 6 → ((oiN d e 6).testBit j = true ↔ d j = e j) := fun j hj => by
    rw [oi_bit, decide_eq_true hj, Bool.true_and, decide_eq_true_iff]
  constructor
  · intro q
    exact ⟨(hb 0 (by omega)).mp (q 0 (by omega)), (hb 1 (by omega)).mp (q 1 (by omega)), (hb 2 (by omega)).mp (q 2 (by omega)), (hb 3 (by omega)).mp (q 3 (by omega)), (hb 4 (by omega)).mp (q 4 (by omega)), (hb 5 (by omega)).mp (q 5 (by omega))⟩
  · rintro ⟨h0, h1, h2, h3, h4, h5⟩ j hj
    rw [hb j hj]
    rcases lt6 hj with rfl | rfl | rfl | rfl | rfl | rfl
    · exact h0
    · exact h1
    · exact h2
    · exact h3
    · exact h4
    · exact h5
theorem oi_or {d e f : Nat → Nat} : (oiN d e 6 ||| oiN d f 6 = 63) ↔ allE d e f 6 = 1 := by
  rw [allE_1, full63 (Nat.or_lt_two_pow (n := 6) (oi_lt d e 6) (oi_lt d f 6))]
  have hb : ∀ j, j < 6 → ((oiN d e 6 ||| oiN d f 6).testBit j = true ↔ d j = e j ∨ d j = f j) := fun j hj => by
    rw [Nat.testBit_or, oi_bit, oi_bit, decide_eq_true hj, Bool.true_and, Bool.true_and, Bool.or_eq_true, decide_eq_true_iff, decide_eq_true_iff]
  exact ⟨fun q j hj => (hb j hj).mp (q j hj), fun q j hj => (hb j hj).mpr (q j hj)⟩
/-- pairs counted, and the first (0 none, else one more) -/
def twI (g : Nat → Nat → Nat) (a : Nat) (s : Nat × Nat) : Nat → Nat × Nat
  | 0 => s
  | k + 1 => if g a (a + 1 + k) = 1 then ((twI g a s k).1 + 1, if (twI g a s k).1 = 0 then 8 * a + (a + 1 + k) + 1 else (twI g a s k).2) else twI g a s k
def twO (g : Nat → Nat → Nat) (n : Nat) : Nat → Nat × Nat
  | 0 => (0, 0)
  | a + 1 => twI g a (twO g n a) (n - (a + 1))
theorem twI_le (g : Nat → Nat → Nat) (a : Nat) (s : Nat × Nat) : ∀ k, (twI g a s k).1 ≤ s.1 + k
  | 0 => Nat.le_refl _
  | k + 1 => by
    have h := twI_le g a s k
    unfold twI; split
    · show (twI g a s k).1 + 1 ≤ _; omega
    · omega
theorem twO_le (g : Nat → Nat → Nat) (n : Nat) : ∀ a, (twO g n a).1 ≤ n * a
  | 0 => Nat.le_refl _
  | a + 1 => by
    have h := twO_le g n a
    have h2 := twI_le g a (twO g n a) (n - (a + 1))
    show (twI g a (twO g n a) (n - (a + 1))).1 ≤ _
    rw [Nat.mul_succ]; omega
section TW
variable {I I' : Nat → Nat → Int32} {J : Nat → Nat → Int64} {K : List (Nat × Nat)} {G : Nat → Nat → Option Nat} {S : Sta} {o : Nat} {O : Off} {P : Nat → Prop}
theorem c_needsBoth {d e f : Nat → Nat} (hd : dgo d) (he : dgo e) (hf : dgo f) : mj_Ev 60 [.int (nI (rw6 d)), .int (nI (rw6 e)), .int (nI (rw6 f))] (K, I, J, G) (K, I, J, G) (some (.int (nI (nbN d e f)))) := by
  refine mj_ev_of ?_
  have hdl := rw6_lt hd
  have hel := rw6_lt he
  have hfl := rw6_lt hf
  unfold nbN
  refine mjT_go 3 (pc' := if nI (rw6 d) = nI (rw6 e) then 10 else 5) (L' := [some (.int (nI (rw6 d))), some (.int (nI (rw6 e))), some (.int (nI (rw6 f))), none, none]) (st' := []) (w1 := (K, I, J, G)) rfl ?_
  refine mjT_if_eq (u := rw6 d) (v := rw6 e) rfl rfl (by omega) (by omega) (fun h1 => ?_) (fun h1 => ?_)
  · refine mjT_go 1 (pc' := 11) (L' := [some (.int (nI (rw6 d))), some (.int (nI (rw6 e))), some (.int (nI (rw6 f))), none, none]) (st' := [.int (nI 0)]) (w1 := (K, I, J, G)) rfl ?_
    refine mjT_retb rfl rfl (by decide) ?_
    exact ⟨rfl, by rw [if_pos (Or.inl h1)]⟩
  refine mjT_go 3 (pc' := if ¬ nI (rw6 d) = nI (rw6 f) then 12 else 10) (L' := [some (.int (nI (rw6 d))), some (.int (nI (rw6 e))), some (.int (nI (rw6 f))), none, none]) (st' := []) (w1 := (K, I, J, G)) rfl ?_
  refine mjT_if_ne (u := rw6 d) (v := rw6 f) rfl rfl (by omega) (by omega) (fun h2 => ?_) (fun h2 => ?_)
  rotate_left
  · refine mjT_go 1 (pc' := 11) (L' := [some (.int (nI (rw6 d))), some (.int (nI (rw6 e))), some (.int (nI (rw6 f))), none, none]) (st' := [.int (nI 0)]) (w1 := (K, I, J, G)) rfl ?_
    refine mjT_retb rfl rfl (by decide) ?_
    exact ⟨rfl, by rw [if_pos (Or.inr h2)]⟩
  rw [if_neg (show ¬ (rw6 d = rw6 e ∨ rw6 d = rw6 f) by omega)]
  refine mjT_go 2 (pc' := 14) (L' := [some (.int (nI (rw6 d))), some (.int (nI (rw6 e))), some (.int (nI (rw6 f))), some (.int (nI 0)), none]) (st' := []) (w1 := (K, I, J, G)) rfl ?_
  refine mj_loop (fun k L w => ∃ t : Option Value, L = [some (.int (nI (rw6 d))), some (.int (nI (rw6 e))), some (.int (nI (rw6 f))), some (.int (nI k)), t] ∧ w = (K, I, J, G) ∧ allE d e f k = 1) 6 (k0 := 0) (Nat.zero_le _) ?_ ?_ ?_
  · exact ⟨_, rfl, rfl, rfl⟩
  · rintro k _ _ hk ⟨t, rfl, rfl, hb⟩ hc
    have b1 := hd k hk
    have b2 := he k hk
    have b3 := hf k hk
    refine mjT_go 3 (pc' := if nI 6 ≤ nI k then 55 else 20) (L' := [some (.int (nI (rw6 d))), some (.int (nI (rw6 e))), some (.int (nI (rw6 f))), some (.int (nI k)), t]) (st' := []) (w1 := (K, I, J, G)) rfl ?_
    refine mjT_ifF (nI_ge (by omega) (by omega)) ?_
    refine mjT_go 2 (pc' := 22) (L' := [some (.int (nI (rw6 d))), some (.int (nI (rw6 e))), some (.int (nI (rw6 f))), some (.int (nI k)), t]) (st' := [.int (nI k), .int (nI (rw6 d))]) (w1 := (K, I, J, G)) rfl ?_
    refine mjT_callE (as := [.int (nI (rw6 d)), .int (nI k)]) (rest := []) (r1 := some (.int (nI (d k)))) rfl rfl rfl rfl rfl ⟨rfl, rfl⟩ (e_stroke hd hk _) ?_
    refine mjT_go 4 (pc' := 31) (L' := [some (.int (nI (rw6 d))), some (.int (nI (rw6 e))), some (.int (nI (rw6 f))), some (.int (nI k)), some (.int (nI (d k)))]) (st' := [.int (nI k), .int (nI (rw6 e)), .int (nI (d k))]) (w1 := (K, I, J, G)) rfl ?_
    refine mjT_callE (as := [.int (nI (rw6 e)), .int (nI k)]) (rest := [.int (nI (d k))]) (r1 := some (.int (nI (e k)))) rfl rfl rfl rfl rfl ⟨rfl, rfl⟩ (e_stroke he hk _) ?_
    refine mjT_go 1 (pc' := if nI (d k) = nI (e k) then 49 else 37) (L' := [some (.int (nI (rw6 d))), some (.int (nI (rw6 e))), some (.int (nI (rw6 f))), some (.int (nI k)), some (.int (nI (d k)))]) (st' := []) (w1 := (K, I, J, G)) rfl ?_
    refine mjT_cut (P := fun _ => d k = e k ∨ d k = f k) (pc1 := 49) (L1 := fun _ => [some (.int (nI (rw6 d))), some (.int (nI (rw6 e))), some (.int (nI (rw6 f))), some (.int (nI k)), some (.int (nI (d k)))]) (st1 := fun _ => []) (w1 := fun _ => (K, I, J, G)) (fun b hbb => ?_) (fun cut => ?_)
    · refine mjT_go 2 (pc' := 14) (L' := [some (.int (nI (rw6 d))), some (.int (nI (rw6 e))), some (.int (nI (rw6 f))), some (.int ((nI k) + (nI 1))), some (.int (nI (d k)))]) (st' := []) (w1 := (K, I, J, G)) rfl ?_
      rw [nI_add]
      exact hc _ _ ⟨_, rfl, rfl, by unfold allE; rw [if_pos hbb]; exact hb⟩
    refine mjT_if_eq (u := d k) (v := e k) rfl rfl (by omega) (by omega) (fun h3 => ?_) (fun h3 => ?_)
    · exact cut 0 (Or.inl h3)
    refine mjT_go 3 (pc' := 41) (L' := [some (.int (nI (rw6 d))), some (.int (nI (rw6 e))), some (.int (nI (rw6 f))), some (.int (nI k)), some (.int (nI (d k)))]) (st' := [.int (nI k), .int (nI (rw6 f)), .int (nI (d k))]) (w1 := (K, I, J, G)) rfl ?_
    refine mjT_callE (as := [.int (nI (rw6 f)), .int (nI k)]) (rest := [.int (nI (d k))]) (r1 := some (.int (nI (f k)))) rfl rfl rfl rfl rfl ⟨rfl, rfl⟩ (e_stroke hf hk _) ?_
    refine mjT_go 1 (pc' := if nI (d k) = nI (f k) then 49 else 47) (L' := [some (.int (nI (rw6 d))), some (.int (nI (rw6 e))), some (.int (nI (rw6 f))), some (.int (nI k)), some (.int (nI (d k)))]) (st' := []) (w1 := (K, I, J, G)) rfl ?_
    refine mjT_if_eq (u := d k) (v := f k) rfl rfl (by omega) (by omega) (fun h4 => ?_) (fun h4 => ?_)
    · exact cut 0 (Or.inr h4)
    refine mjT_go 1 (pc' := 48) (L' := [some (.int (nI (rw6 d))), some (.int (nI (rw6 e))), some (.int (nI (rw6 f))), some (.int (nI k)), some (.int (nI (d k)))]) (st' := [.int (nI 0)]) (w1 := (K, I, J, G)) rfl ?_
    refine mjT_retb rfl rfl (by decide) ?_
    have hn1 : ¬ allE d e f 6 = 1 := fun q => by
      have := allE_1.mp q k hk
      omega
    have := allE_lt d e f 6
    exact ⟨rfl, by rw [show allE d e f 6 = 0 by omega]⟩
  · rintro _ _ ⟨t, rfl, rfl, hb⟩
    refine mjT_go 3 (pc' := if nI 6 ≤ nI 6 then 55 else 20) (L' := [some (.int (nI (rw6 d))), some (.int (nI (rw6 e))), some (.int (nI (rw6 f))), some (.int (nI 6)), t]) (st' := []) (w1 := (K, I, J, G)) rfl ?_
    refine mjT_ifT (Int32.le_refl _) ?_
    refine mjT_go 1 (pc' := 56) (L' := [some (.int (nI (rw6 d))), some (.int (nI (rw6 e))), some (.int (nI (rw6 f))), some (.int (nI 6)), t]) (st' := [.int (nI 1)]) (w1 := (K, I, J, G)) rfl ?_
    refine mjT_retb rfl rfl (by decide) ?_
    exact ⟨rfl, by rw [hb]⟩
theorem m_ownIn (hV : VO O) (hO : MO I 0 O) {m p : Nat} (hm : m ≤ 777777) (hp : p < O.n) : mj_Ev 194 [.ref 0, .int (nI m), .int (nI p)] (KM, I, J, GM) (KM, I, J, GM) (some (.int (nI (oiN (dig m) (O.own p) 6)))) := by
  refine mj_ev_of ?_
  have hn := hV.n
  refine mjT_go 4 (pc' := 5) (L' := [some (.ref 0), some (.int (nI m)), some (.int (nI p)), some (.int (nI 0)), some (.int (nI 0))]) (st' := []) (w1 := (KM, I, J, GM)) rfl ?_
  refine mj_loop (fun k L w => L = [some (.ref 0), some (.int (nI m)), some (.int (nI p)), some (.int (nI (oiN (dig m) (O.own p) k))), some (.int (nI k))] ∧ w = (KM, I, J, GM)) 6 (k0 := 0) (Nat.zero_le _) ?_ ?_ ?_
  · exact ⟨rfl, rfl⟩
  · rintro k _ _ hk ⟨rfl, rfl⟩ hc
    have hdg : dig m k < 10 := Nat.mod_lt _ (by omega)
    have ho8 := hV.own p hp k hk
    have nxt : ∀ b, b < 2 → b = eqB (dig m k) (O.own p k) → nI (oiN (dig m) (O.own p) k) ||| nI b <<< (nI k &&& 31) = nI (oiN (dig m) (O.own p) (k + 1)) := fun b hb e => by rw [shb b hb k (by omega), nI_or, e]; rfl
    refine mjT_go 3 (pc' := if nI 6 ≤ nI k then 55 else 12) (L' := [some (.ref 0), some (.int (nI m)), some (.int (nI p)), some (.int (nI (oiN (dig m) (O.own p) k))), some (.int (nI k))]) (st' := []) (w1 := (KM, I, J, GM)) rfl ?_
    refine mjT_ifF (nI_ge (by omega) (by omega)) ?_
    refine mjT_go 3 (pc' := 16) (L' := [some (.ref 0), some (.int (nI m)), some (.int (nI p)), some (.int (nI (oiN (dig m) (O.own p) k))), some (.int (nI k))]) (st' := [.int (nI k), .int (nI m), .int (nI (oiN (dig m) (O.own p) k))]) (w1 := (KM, I, J, GM)) rfl ?_
    refine mjT_callE (as := [.int (nI m), .int (nI k)]) (rest := [.int (nI (oiN (dig m) (O.own p) k))]) (r1 := some (.int (nI (dig m k)))) rfl rfl rfl rfl rfl ⟨rfl, rfl⟩ (m_figure (by omega) hk) ?_
    refine mjT_go 9 (pc' := 32) (L' := [some (.ref 0), some (.int (nI m)), some (.int (nI p)), some (.int (nI (oiN (dig m) (O.own p) k))), some (.int (nI k))]) (st' := [.int ((((nI 21) * (nI p)) + (nI 3)) + (nI k)), .ref 1, .int (nI (dig m k)), .int (nI (oiN (dig m) (O.own p) k))]) (w1 := (KM, I, J, GM)) rfl ?_
    refine mjT_ial (v := nI (O.own p k)) (((21 * p) + 3) + k) 1840 rfl (pc' := 33) rfl rfl (by simp only [nI_add, pk_mul]) (by omega) (by omega) (mo_at (show I 1 (21 * p + 3 + k) = nI (O.own p k) from (mo_at (hO.own p hp k hk) rfl (by omega))) (by omega) (by omega)) ?_
    refine mjT_go 1 (pc' := if ¬ nI (dig m k) = nI (O.own p k) then 40 else 36) (L' := [some (.ref 0), some (.int (nI m)), some (.int (nI p)), some (.int (nI (oiN (dig m) (O.own p) k))), some (.int (nI k))]) (st' := [.int (nI (oiN (dig m) (O.own p) k))]) (w1 := (KM, I, J, GM)) rfl ?_
    refine mjT_if_ne (u := dig m k) (v := O.own p k) rfl rfl (by omega) (by omega) (fun h3 => ?_) (fun h3 => ?_)
    · refine mjT_go 1 (pc' := 41) (L' := [some (.ref 0), some (.int (nI m)), some (.int (nI p)), some (.int (nI (oiN (dig m) (O.own p) k))), some (.int (nI k))]) (st' := [.int (nI 0), .int (nI (oiN (dig m) (O.own p) k))]) (w1 := (KM, I, J, GM)) rfl ?_
      refine mjT_callE (as := [.int (nI 0)]) (rest := [.int (nI (oiN (dig m) (O.own p) k))]) (r1 := some (.int (nI 0))) rfl rfl rfl rfl rfl ⟨rfl, rfl⟩ (m_one (by omega) _) ?_
      refine mjT_go 2 (pc' := 47) (L' := [some (.ref 0), some (.int (nI m)), some (.int (nI p)), some (.int (nI (oiN (dig m) (O.own p) k))), some (.int (nI k))]) (st' := [.int ((nI 0) <<< ((nI k) &&& 31)), .int (nI (oiN (dig m) (O.own p) k))]) (w1 := (KM, I, J, GM)) rfl ?_
      refine mjT_go 1 (pc' := 48) (L' := [some (.ref 0), some (.int (nI m)), some (.int (nI p)), some (.int (nI (oiN (dig m) (O.own p) k))), some (.int (nI k))]) (st' := [.int ((nI (oiN (dig m) (O.own p) k)) ||| ((nI 0) <<< ((nI k) &&& 31)))]) (w1 := (KM, I, J, GM)) rfl ?_
      rw [nxt 0 (by omega) (by unfold eqB; rw [if_neg h3])]
      refine mjT_go 3 (pc' := 5) (L' := [some (.ref 0), some (.int (nI m)), some (.int (nI p)), some (.int (nI (oiN (dig m) (O.own p) (k + 1)))), some (.int ((nI k) + (nI 1)))]) (st' := []) (w1 := (KM, I, J, GM)) rfl ?_
      rw [nI_add]
      exact hc _ _ ⟨rfl, rfl⟩
    · refine mjT_go 2 (pc' := 41) (L' := [some (.ref 0), some (.int (nI m)), some (.int (nI p)), some (.int (nI (oiN (dig m) (O.own p) k))), some (.int (nI k))]) (st' := [.int (nI 1), .int (nI (oiN (dig m) (O.own p) k))]) (w1 := (KM, I, J, GM)) rfl ?_
      refine mjT_callE (as := [.int (nI 1)]) (rest := [.int (nI (oiN (dig m) (O.own p) k))]) (r1 := some (.int (nI 1))) rfl rfl rfl rfl rfl ⟨rfl, rfl⟩ (m_one (by omega) _) ?_
      refine mjT_go 2 (pc' := 47) (L' := [some (.ref 0), some (.int (nI m)), some (.int (nI p)), some (.int (nI (oiN (dig m) (O.own p) k))), some (.int (nI k))]) (st' := [.int ((nI 1) <<< ((nI k) &&& 31)), .int (nI (oiN (dig m) (O.own p) k))]) (w1 := (KM, I, J, GM)) rfl ?_
      refine mjT_go 1 (pc' := 48) (L' := [some (.ref 0), some (.int (nI m)), some (.int (nI p)), some (.int (nI (oiN (dig m) (O.own p) k))), some (.int (nI k))]) (st' := [.int ((nI (oiN (dig m) (O.own p) k)) ||| ((nI 1) <<< ((nI k) &&& 31)))]) (w1 := (KM, I, J, GM)) rfl ?_
      rw [nxt 1 (by omega) (by unfold eqB; rw [if_pos h3])]
      refine mjT_go 3 (pc' := 5) (L' := [some (.ref 0), some (.int (nI m)), some (.int (nI p)), some (.int (nI (oiN (dig m) (O.own p) (k + 1)))), some (.int ((nI k) + (nI 1)))]) (st' := []) (w1 := (KM, I, J, GM)) rfl ?_
      rw [nI_add]
      exact hc _ _ ⟨rfl, rfl⟩
  · rintro _ _ ⟨rfl, rfl⟩
    refine mjT_go 3 (pc' := if nI 6 ≤ nI 6 then 55 else 12) (L' := [some (.ref 0), some (.int (nI m)), some (.int (nI p)), some (.int (nI (oiN (dig m) (O.own p) 6))), some (.int (nI 6))]) (st' := []) (w1 := (KM, I, J, GM)) rfl ?_
    refine mjT_ifT (Int32.le_refl _) ?_
    refine mjT_go 1 (pc' := 56) (L' := [some (.ref 0), some (.int (nI m)), some (.int (nI p)), some (.int (nI (oiN (dig m) (O.own p) 6))), some (.int (nI 6))]) (st' := [.int (nI (oiN (dig m) (O.own p) 6))]) (w1 := (KM, I, J, GM)) rfl ?_
    refine mjT_ret rfl rfl rfl ?_
    exact ⟨rfl, rfl⟩
def g2N (O : Off) (d : Nat → Nat) (a b : Nat) : Nat := nbN d (O.own a) (O.own b)
noncomputable def aTwo (S : Sta) (x y : Int32) : Int32 := if papN x = 1 ∧ iR y 0 1 = 1 then (if nn y = 0 then nI (twO (g2N S.o (dig (nn x))) S.o.n S.o.n).1 else tI (twO (g2N S.o (dig (nn x))) S.o.n S.o.n).2) else -1
theorem cc_two (hV : VS S) (hC : CW I J S) {x y : Int32} : mj_E 97 [.ref 0, .int x, .int y] (KC, I, J, GC) (fun w' r => r = some (.int (aTwo S x y)) ∧ ∃ I' J', w' = (KC, I', J', GC) ∧ CW I' J' S) := by
  have hn := hV.o.n
  have hp01 := papN_lt x
  have hr01 := ir01 y 0 1
  have hoL := hC.o
  unfold aTwo
  refine mjT_go 1 (pc' := 1) (L' := [some (.ref 0), some (.int x), some (.int y), none, none, none, none, none]) (st' := [.int x]) (w1 := (KC, I, J, GC)) rfl ?_
  refine mjT_callE (as := [.int x]) (rest := []) (r1 := some (.int (pckI x))) rfl rfl rfl rfl rfl ⟨rfl, rfl⟩ c_packedP ?_
  refine mjT_go 3 (pc' := if pckI x < 0 then 18 else 9) (L' := [some (.ref 0), some (.int x), some (.int y), some (.int (pckI x)), none, none, none, none]) (st' := []) (w1 := (KC, I, J, GC)) rfl ?_
  refine mjT_if (fun h1 => ?_) (fun h1 => ?_)
  · rw [pck_neg] at h1
    rw [if_neg (show ¬ (papN x = 1 ∧ iR y 0 1 = 1) by omega)]
    refine mjT_go 1 (pc' := 19) (L' := [some (.ref 0), some (.int x), some (.int y), some (.int (pckI x)), none, none, none, none]) (st' := [.int (-1)]) (w1 := (KC, I, J, GC)) rfl ?_
    refine mjT_ret rfl rfl rfl ?_
    exact ⟨rfl, _, _, rfl, hC⟩
  rw [pck_neg] at h1
  refine mjT_go 3 (pc' := 12) (L' := [some (.ref 0), some (.int x), some (.int y), some (.int (pckI x)), none, none, none, none]) (st' := [.int (nI 1), .int (nI 0), .int y]) (w1 := (KC, I, J, GC)) rfl ?_
  refine mjT_callE (as := [.int y, .int (nI 0), .int (nI 1)]) (rest := []) (r1 := some (.int (nI (iR y 0 1)))) rfl rfl rfl rfl rfl ⟨rfl, rfl⟩ c_within ?_
  refine mjT_go 1 (pc' := if ¬ nI (iR y 0 1) = 0 then 20 else 18) (L' := [some (.ref 0), some (.int x), some (.int y), some (.int (pckI x)), none, none, none, none]) (st' := []) (w1 := (KC, I, J, GC)) rfl ?_
  refine mjT_if_ne (u := iR y 0 1) (v := 0) rfl nI_0.symm (by omega) (by omega) (fun h2 => ?_) (fun h2 => ?_)
  rotate_left
  · rw [if_neg (by omega)]
    refine mjT_go 1 (pc' := 19) (L' := [some (.ref 0), some (.int x), some (.int y), some (.int (pckI x)), none, none, none, none]) (st' := [.int (-1)]) (w1 := (KC, I, J, GC)) rfl ?_
    refine mjT_ret rfl rfl rfl ?_
    exact ⟨rfl, _, _, rfl, hC⟩
  rw [if_pos (show papN x = 1 ∧ iR y 0 1 = 1 by omega)]
  obtain ⟨m, hm, rfl, _, hdg, e⟩ := papN_1 (x := x) (by omega)
  obtain ⟨wh, _, hwh, rfl⟩ := iR_1 (x := y) (a := 0) (b := 1) (by omega) (by omega) (by omega)
  rw [show pckI (nI m) = nI (rw6 (dig m)) by unfold pckI; rw [if_pos (by omega), e]]
  rw [nn_N (n := m) (by omega), nn_N (by omega)]
  obtain ⟨g, hg⟩ : ∃ g, g2N S.o (dig m) = g := ⟨_, rfl⟩
  have hgv : ∀ a b, nbN (dig m) (S.o.own a) (S.o.own b) = g a b := fun a b => by rw [← hg]; rfl
  have hgl : ∀ a b, g a b < 2 := fun a b => by rw [← hgv]; exact nbN_lt _ _ _
  rw [hg]
  refine mjT_go 6 (pc' := 30) (L' := [some (.ref 0), some (.int (nI m)), some (.int (nI wh)), some (.int (nI (rw6 (dig m)))), some (.int (nI 0)), some (.int (-4)), some (.int (nI 0)), none]) (st' := []) (w1 := (KC, I, J, GC)) rfl ?_
  refine mj_loop (fun k L w => ∃ d : Option Value, L = [some (.ref 0), some (.int (nI m)), some (.int (nI wh)), some (.int (nI (rw6 (dig m)))), some (.int (nI (twO g S.o.n k).1)), some (.int (tI (twO g S.o.n k).2)), some (.int (nI k)), d] ∧ w = (KC, I, J, GC)) S.o.n (k0 := 0) (Nat.zero_le _) ?_ ?_ ?_
  · exact ⟨_, rfl, rfl⟩
  · rintro a _ _ ha ⟨d, rfl, rfl⟩ hc
    refine mjT_go 3 (pc' := 36) (L' := [some (.ref 0), some (.int (nI m)), some (.int (nI wh)), some (.int (nI (rw6 (dig m)))), some (.int (nI ((twO g S.o.n a).1))), some (.int (tI (twO g S.o.n a).2)), some (.int (nI a)), d]) (st' := [.ref 1, .int (nI a)]) (w1 := (KC, I, J, GC)) rfl ?_
    refine mjT_gfi (v := nI S.o.n) rfl (Or.inl rfl) (pc' := 39) rfl rfl (mo_at (hoL.n) (by omega) (by omega)) ?_
    refine mjT_go 1 (pc' := if nI S.o.n ≤ nI a then 118 else 42) (L' := [some (.ref 0), some (.int (nI m)), some (.int (nI wh)), some (.int (nI (rw6 (dig m)))), some (.int (nI ((twO g S.o.n a).1))), some (.int (tI (twO g S.o.n a).2)), some (.int (nI a)), d]) (st' := []) (w1 := (KC, I, J, GC)) rfl ?_
    refine mjT_ifF (nI_ge (by omega) (by omega)) ?_
    refine mjT_go 4 (pc' := 48) (L' := [some (.ref 0), some (.int (nI m)), some (.int (nI wh)), some (.int (nI (rw6 (dig m)))), some (.int (nI ((twO g S.o.n a).1))), some (.int (tI (twO g S.o.n a).2)), some (.int (nI a)), some (.int ((nI a) + (nI 1)))]) (st' := []) (w1 := (KC, I, J, GC)) rfl ?_
    rw [nI_add]
    have htl := twO_le g S.o.n a
    have htl2 : S.o.n * a ≤ 7 * 7 := Nat.mul_le_mul hn (by omega)
    refine mj_loop (fun k L w => L = [some (.ref 0), some (.int (nI m)), some (.int (nI wh)), some (.int (nI (rw6 (dig m)))), some (.int (nI (twI g a (twO g S.o.n a) k).1)), some (.int (tI (twI g a (twO g S.o.n a) k).2)), some (.int (nI a)), some (.int (nI (a + 1 + k)))] ∧ w = (KC, I, J, GC)) (S.o.n - (a + 1)) (k0 := 0) (Nat.zero_le _) ?_ ?_ ?_
    · exact ⟨rfl, rfl⟩
    · rintro k _ _ hk ⟨rfl, rfl⟩ hcq
      have hil := twI_le g a (twO g S.o.n a) k
      have hg2 := hgl a (a + 1 + k)
      refine mjT_go 3 (pc' := 54) (L' := [some (.ref 0), some (.int (nI m)), some (.int (nI wh)), some (.int (nI (rw6 (dig m)))), some (.int (nI ((twI g a (twO g S.o.n a) k).1))), some (.int (tI (twI g a (twO g S.o.n a) k).2)), some (.int (nI a)), some (.int (nI (a + 1 + k)))]) (st' := [.ref 1, .int (nI (a + 1 + k))]) (w1 := (KC, I, J, GC)) rfl ?_
      refine mjT_gfi (v := nI S.o.n) rfl (Or.inl rfl) (pc' := 57) rfl rfl (mo_at (hoL.n) (by omega) (by omega)) ?_
      refine mjT_go 1 (pc' := if nI S.o.n ≤ nI (a + 1 + k) then 112 else 60) (L' := [some (.ref 0), some (.int (nI m)), some (.int (nI wh)), some (.int (nI (rw6 (dig m)))), some (.int (nI ((twI g a (twO g S.o.n a) k).1))), some (.int (tI (twI g a (twO g S.o.n a) k).2)), some (.int (nI a)), some (.int (nI (a + 1 + k)))]) (st' := []) (w1 := (KC, I, J, GC)) rfl ?_
      refine mjT_ifF (nI_ge (by omega) (by omega)) ?_
      refine mjT_go 4 (pc' := 67) (L' := [some (.ref 0), some (.int (nI m)), some (.int (nI wh)), some (.int (nI (rw6 (dig m)))), some (.int (nI ((twI g a (twO g S.o.n a) k).1))), some (.int (tI (twI g a (twO g S.o.n a) k).2)), some (.int (nI a)), some (.int (nI (a + 1 + k)))]) (st' := [.int (nI a), .ref 1, .int (nI (rw6 (dig m)))]) (w1 := (KC, I, J, GC)) rfl ?_
      refine mjT_callE (as := [.ref 1, .int (nI a)]) (rest := [.int (nI (rw6 (dig m)))]) (r1 := some (.int (nI (rw6 (S.o.own a))))) rfl rfl rfl rfl rfl ⟨rfl, rfl⟩ (c_ownOf hn og_1 hoL ha) ?_
      refine mjT_go 3 (pc' := 76) (L' := [some (.ref 0), some (.int (nI m)), some (.int (nI wh)), some (.int (nI (rw6 (dig m)))), some (.int (nI ((twI g a (twO g S.o.n a) k).1))), some (.int (tI (twI g a (twO g S.o.n a) k).2)), some (.int (nI a)), some (.int (nI (a + 1 + k)))]) (st' := [.int (nI (a + 1 + k)), .ref 1, .int (nI (rw6 (S.o.own a))), .int (nI (rw6 (dig m)))]) (w1 := (KC, I, J, GC)) rfl ?_
      refine mjT_callE (as := [.ref 1, .int (nI (a + 1 + k))]) (rest := [.int (nI (rw6 (S.o.own a))), .int (nI (rw6 (dig m)))]) (r1 := some (.int (nI (rw6 (S.o.own (a + 1 + k)))))) rfl rfl rfl rfl rfl ⟨rfl, rfl⟩ (c_ownOf hn og_1 hoL (by omega)) ?_
      refine mjT_callE (as := [.int (nI (rw6 (dig m))), .int (nI (rw6 (S.o.own a))), .int (nI (rw6 (S.o.own (a + 1 + k))))]) (rest := []) (r1 := some (.int (nI (g a (a + 1 + k))))) rfl rfl rfl rfl rfl ⟨rfl, rfl⟩ (hgv a (a + 1 + k) ▸ c_needsBoth hdg (hV.o.own a ha) (hV.o.own (a + 1 + k) (by omega))) ?_
      refine mjT_go 1 (pc' := if ¬ nI (g a (a + 1 + k)) = 0 then 88 else 85) (L' := [some (.ref 0), some (.int (nI m)), some (.int (nI wh)), some (.int (nI (rw6 (dig m)))), some (.int (nI ((twI g a (twO g S.o.n a) k).1))), some (.int (tI (twI g a (twO g S.o.n a) k).2)), some (.int (nI a)), some (.int (nI (a + 1 + k)))]) (st' := []) (w1 := (KC, I, J, GC)) rfl ?_
      refine mjT_if_ne (u := g a (a + 1 + k)) (v := 0) rfl nI_0.symm (by omega) (by omega) (fun h3 => ?_) (fun h3 => ?_)
      rotate_left
      · refine mjT_go 3 (pc' := 48) (L' := [some (.ref 0), some (.int (nI m)), some (.int (nI wh)), some (.int (nI (rw6 (dig m)))), some (.int (nI ((twI g a (twO g S.o.n a) k).1))), some (.int (tI (twI g a (twO g S.o.n a) k).2)), some (.int (nI a)), some (.int ((nI (a + 1 + k)) + (nI 1)))]) (st' := []) (w1 := (KC, I, J, GC)) rfl ?_
        rw [nI_add, ← show twI g a (twO g S.o.n a) (k + 1) = twI g a (twO g S.o.n a) k from if_neg (by omega)]
        exact hcq _ _ ⟨rfl, rfl⟩
      have e1 : twI g a (twO g S.o.n a) (k + 1) = ((twI g a (twO g S.o.n a) k).1 + 1, if (twI g a (twO g S.o.n a) k).1 = 0 then 8 * a + (a + 1 + k) + 1 else (twI g a (twO g S.o.n a) k).2) := if_pos (by omega)
      refine mjT_go 2 (pc' := if ¬ nI ((twI g a (twO g S.o.n a) k).1) = 0 then 103 else 93) (L' := [some (.ref 0), some (.int (nI m)), some (.int (nI wh)), some (.int (nI (rw6 (dig m)))), some (.int (nI ((twI g a (twO g S.o.n a) k).1))), some (.int (tI (twI g a (twO g S.o.n a) k).2)), some (.int (nI a)), some (.int (nI (a + 1 + k)))]) (st' := []) (w1 := (KC, I, J, GC)) rfl ?_
      refine mjT_if_ne (u := (twI g a (twO g S.o.n a) k).1) (v := 0) rfl nI_0.symm (by omega) (by omega) (fun h4 => ?_) (fun h4 => ?_)
      · rw [if_neg h4] at e1
        refine mjT_go 3 (pc' := 48) (L' := [some (.ref 0), some (.int (nI m)), some (.int (nI wh)), some (.int (nI (rw6 (dig m)))), some (.int ((nI ((twI g a (twO g S.o.n a) k).1)) + (nI 1))), some (.int (tI (twI g a (twO g S.o.n a) k).2)), some (.int (nI a)), some (.int ((nI (a + 1 + k)) + (nI 1)))]) (st' := []) (w1 := (KC, I, J, GC)) rfl ?_
        rw [nI_add, nI_add]
        exact hcq _ _ ⟨by rw [e1]; rfl, rfl⟩
      · rw [if_pos h4] at e1
        refine mjT_go 9 (pc' := 48) (L' := [some (.ref 0), some (.int (nI m)), some (.int (nI wh)), some (.int (nI (rw6 (dig m)))), some (.int ((nI ((twI g a (twO g S.o.n a) k).1)) + (nI 1))), some (.int (((nI 8) * (nI a)) + (nI (a + 1 + k)))), some (.int (nI a)), some (.int ((nI (a + 1 + k)) + (nI 1)))]) (st' := []) (w1 := (KC, I, J, GC)) rfl ?_
        rw [pk_mul, nI_add, nI_add, nI_add]
        exact hcq _ _ ⟨by rw [e1]; rfl, rfl⟩
    · rintro _ _ ⟨rfl, rfl⟩
      refine mjT_go 3 (pc' := 54) (L' := [some (.ref 0), some (.int (nI m)), some (.int (nI wh)), some (.int (nI (rw6 (dig m)))), some (.int (nI ((twI g a (twO g S.o.n a) (S.o.n - (a + 1))).1))), some (.int (tI (twI g a (twO g S.o.n a) (S.o.n - (a + 1))).2)), some (.int (nI a)), some (.int (nI (a + 1 + (S.o.n - (a + 1)))))]) (st' := [.ref 1, .int (nI (a + 1 + (S.o.n - (a + 1))))]) (w1 := (KC, I, J, GC)) rfl ?_
      refine mjT_gfi (v := nI S.o.n) rfl (Or.inl rfl) (pc' := 57) rfl rfl (mo_at (hoL.n) (by omega) (by omega)) ?_
      refine mjT_go 1 (pc' := if nI S.o.n ≤ nI (a + 1 + (S.o.n - (a + 1))) then 112 else 60) (L' := [some (.ref 0), some (.int (nI m)), some (.int (nI wh)), some (.int (nI (rw6 (dig m)))), some (.int (nI ((twI g a (twO g S.o.n a) (S.o.n - (a + 1))).1))), some (.int (tI (twI g a (twO g S.o.n a) (S.o.n - (a + 1))).2)), some (.int (nI a)), some (.int (nI (a + 1 + (S.o.n - (a + 1)))))]) (st' := []) (w1 := (KC, I, J, GC)) rfl ?_
      refine mjT_ifT (nI_le (by omega) (by omega)) ?_
      refine mjT_go 2 (pc' := 30) (L' := [some (.ref 0), some (.int (nI m)), some (.int (nI wh)), some (.int (nI (rw6 (dig m)))), some (.int (nI ((twI g a (twO g S.o.n a) (S.o.n - (a + 1))).1))), some (.int (tI (twI g a (twO g S.o.n a) (S.o.n - (a + 1))).2)), some (.int ((nI a) + (nI 1))), some (.int (nI (a + 1 + (S.o.n - (a + 1)))))]) (st' := []) (w1 := (KC, I, J, GC)) rfl ?_
      rw [nI_add]
      exact hc _ _ ⟨_, rfl, rfl⟩
  · rintro _ _ ⟨d, rfl, rfl⟩
    refine mjT_go 3 (pc' := 36) (L' := [some (.ref 0), some (.int (nI m)), some (.int (nI wh)), some (.int (nI (rw6 (dig m)))), some (.int (nI ((twO g S.o.n S.o.n).1))), some (.int (tI (twO g S.o.n S.o.n).2)), some (.int (nI S.o.n)), d]) (st' := [.ref 1, .int (nI S.o.n)]) (w1 := (KC, I, J, GC)) rfl ?_
    refine mjT_gfi (v := nI S.o.n) rfl (Or.inl rfl) (pc' := 39) rfl rfl (mo_at (hoL.n) (by omega) (by omega)) ?_
    refine mjT_go 1 (pc' := if nI S.o.n ≤ nI S.o.n then 118 else 42) (L' := [some (.ref 0), some (.int (nI m)), some (.int (nI wh)), some (.int (nI (rw6 (dig m)))), some (.int (nI ((twO g S.o.n S.o.n).1))), some (.int (tI (twO g S.o.n S.o.n).2)), some (.int (nI S.o.n)), d]) (st' := []) (w1 := (KC, I, J, GC)) rfl ?_
    refine mjT_ifT (Int32.le_refl _) ?_
    refine mjT_go 2 (pc' := if ¬ nI wh = 0 then 127 else 122) (L' := [some (.ref 0), some (.int (nI m)), some (.int (nI wh)), some (.int (nI (rw6 (dig m)))), some (.int (nI ((twO g S.o.n S.o.n).1))), some (.int (tI (twO g S.o.n S.o.n).2)), some (.int (nI S.o.n)), d]) (st' := []) (w1 := (KC, I, J, GC)) rfl ?_
    refine mjT_if_ne (u := wh) (v := 0) rfl nI_0.symm (by omega) (by omega) (fun h4 => ?_) (fun h4 => ?_)
    · refine mjT_go 1 (pc' := 129) (L' := [some (.ref 0), some (.int (nI m)), some (.int (nI wh)), some (.int (nI (rw6 (dig m)))), some (.int (nI ((twO g S.o.n S.o.n).1))), some (.int (tI (twO g S.o.n S.o.n).2)), some (.int (nI S.o.n)), d]) (st' := [.int (tI (twO g S.o.n S.o.n).2)]) (w1 := (KC, I, J, GC)) rfl ?_
      refine mjT_ret rfl rfl rfl ?_
      exact ⟨by rw [if_neg h4], _, _, rfl, hC⟩
    · refine mjT_go 2 (pc' := 129) (L' := [some (.ref 0), some (.int (nI m)), some (.int (nI wh)), some (.int (nI (rw6 (dig m)))), some (.int (nI ((twO g S.o.n S.o.n).1))), some (.int (tI (twO g S.o.n S.o.n).2)), some (.int (nI S.o.n)), d]) (st' := [.int (nI ((twO g S.o.n S.o.n).1))]) (w1 := (KC, I, J, GC)) rfl ?_
      refine mjT_ret rfl rfl rfl ?_
      exact ⟨by rw [if_pos h4], _, _, rfl, hC⟩
theorem mm_two (hV : VS S) (hM : MW I J S) {x y : Int32} : mj_E 195 [.ref 0, .int x, .int y] (KM, I, J, GM) (fun w' r => r = some (.int (aTwo S x y)) ∧ ∃ I' J', w' = (KM, I', J', GM) ∧ MW I' J' S) := by
  have hn := hV.o.n
  have hp01 := papN_lt x
  have hr01 := ir01 y 0 1
  have hoL := hM.o
  unfold aTwo
  refine mjT_go 2 (pc' := 2) (L' := [some (.ref 0), some (.int x), some (.int y), none, none, none, none, none, none]) (st' := [.long x.toInt64]) (w1 := (KM, I, J, GM)) rfl ?_
  refine mjT_callE (as := [.long x.toInt64]) (rest := []) (r1 := some (.int (nI (papN x)))) rfl rfl rfl rfl rfl ⟨rfl, rfl⟩ m_isPaperI ?_
  refine mjT_go 1 (pc' := if nI (papN x) = 0 then 18 else 8) (L' := [some (.ref 0), some (.int x), some (.int y), none, none, none, none, none, none]) (st' := []) (w1 := (KM, I, J, GM)) rfl ?_
  refine mjT_if_eq (u := papN x) (v := 0) rfl nI_0.symm (by omega) (by omega) (fun h1 => ?_) (fun h1 => ?_)
  · rw [if_neg (by omega)]
    refine mjT_go 1 (pc' := 19) (L' := [some (.ref 0), some (.int x), some (.int y), none, none, none, none, none, none]) (st' := [.int (-1)]) (w1 := (KM, I, J, GM)) rfl ?_
    refine mjT_ret rfl rfl rfl ?_
    exact ⟨rfl, _, _, rfl, hM⟩
  refine mjT_go 4 (pc' := 12) (L' := [some (.ref 0), some (.int x), some (.int y), none, none, none, none, none, none]) (st' := [.long (lN 1), .long (lN 0), .long y.toInt64]) (w1 := (KM, I, J, GM)) rfl ?_
  refine mjT_callE (as := [.long y.toInt64, .long (lN 0), .long (lN 1)]) (rest := []) (r1 := some (.int (nI (iR y 0 1)))) rfl rfl rfl rfl rfl ⟨rfl, rfl⟩ (m_inR (by decide) (by decide)) ?_
  refine mjT_go 1 (pc' := if ¬ nI (iR y 0 1) = 0 then 20 else 18) (L' := [some (.ref 0), some (.int x), some (.int y), none, none, none, none, none, none]) (st' := []) (w1 := (KM, I, J, GM)) rfl ?_
  refine mjT_if_ne (u := iR y 0 1) (v := 0) rfl nI_0.symm (by omega) (by omega) (fun h2 => ?_) (fun h2 => ?_)
  rotate_left
  · rw [if_neg (by omega)]
    refine mjT_go 1 (pc' := 19) (L' := [some (.ref 0), some (.int x), some (.int y), none, none, none, none, none, none]) (st' := [.int (-1)]) (w1 := (KM, I, J, GM)) rfl ?_
    refine mjT_ret rfl rfl rfl ?_
    exact ⟨rfl, _, _, rfl, hM⟩
  rw [if_pos (show papN x = 1 ∧ iR y 0 1 = 1 by omega)]
  obtain ⟨m, hm, rfl, _, hdg, e⟩ := papN_1 (x := x) (by omega)
  obtain ⟨wh, _, hwh, rfl⟩ := iR_1 (x := y) (a := 0) (b := 1) (by omega) (by omega) (by omega)
  rw [nn_N (n := m) (by omega), nn_N (by omega)]
  obtain ⟨g, hg⟩ : ∃ g, g2N S.o (dig m) = g := ⟨_, rfl⟩
  have hgv : ∀ a b, nbN (dig m) (S.o.own a) (S.o.own b) = g a b := fun a b => by rw [← hg]; rfl
  rw [hg]
  refine mjT_go 6 (pc' := 29) (L' := [some (.ref 0), some (.int (nI m)), some (.int (nI wh)), some (.int (nI 0)), some (.int (-4)), some (.int (nI 0)), none, none, none]) (st' := []) (w1 := (KM, I, J, GM)) rfl ?_
  refine mj_loop (fun k L w => ∃ d e f : Option Value, L = [some (.ref 0), some (.int (nI m)), some (.int (nI wh)), some (.int (nI (twO g S.o.n k).1)), some (.int (tI (twO g S.o.n k).2)), some (.int (nI k)), d, e, f] ∧ w = (KM, I, J, GM)) S.o.n (k0 := 0) (Nat.zero_le _) ?_ ?_ ?_
  · exact ⟨_, _, _, rfl, rfl⟩
  · rintro a _ _ ha ⟨d, e, f, rfl, rfl⟩ hc
    refine mjT_go 4 (pc' := 38) (L' := [some (.ref 0), some (.int (nI m)), some (.int (nI wh)), some (.int (nI ((twO g S.o.n a).1))), some (.int (tI (twO g S.o.n a).2)), some (.int (nI a)), d, e, f]) (st' := [.int (nI 147), .ref 1, .int (nI a)]) (w1 := (KM, I, J, GM)) rfl ?_
    refine mjT_ial (v := nI S.o.n) 147 1840 rfl (pc' := 39) rfl rfl rfl (by omega) (by omega) (mo_at hoL.n rfl (by omega)) ?_
    refine mjT_go 1 (pc' := if nI S.o.n ≤ nI a then 137 else 42) (L' := [some (.ref 0), some (.int (nI m)), some (.int (nI wh)), some (.int (nI ((twO g S.o.n a).1))), some (.int (tI (twO g S.o.n a).2)), some (.int (nI a)), d, e, f]) (st' := []) (w1 := (KM, I, J, GM)) rfl ?_
    refine mjT_ifF (nI_ge (by omega) (by omega)) ?_
    refine mjT_go 4 (pc' := 48) (L' := [some (.ref 0), some (.int (nI m)), some (.int (nI wh)), some (.int (nI ((twO g S.o.n a).1))), some (.int (tI (twO g S.o.n a).2)), some (.int (nI a)), some (.int ((nI a) + (nI 1))), e, f]) (st' := []) (w1 := (KM, I, J, GM)) rfl ?_
    rw [nI_add]
    have htl := twO_le g S.o.n a
    have htl2 : S.o.n * a ≤ 7 * 7 := Nat.mul_le_mul hn (by omega)
    refine mj_loop (fun k L w => ∃ e f : Option Value, L = [some (.ref 0), some (.int (nI m)), some (.int (nI wh)), some (.int (nI (twI g a (twO g S.o.n a) k).1)), some (.int (tI (twI g a (twO g S.o.n a) k).2)), some (.int (nI a)), some (.int (nI (a + 1 + k))), e, f] ∧ w = (KM, I, J, GM)) (S.o.n - (a + 1)) (k0 := 0) (Nat.zero_le _) ?_ ?_ ?_
    · exact ⟨_, _, rfl, rfl⟩
    · rintro k _ _ hk ⟨e, f, rfl, rfl⟩ hcq
      have hil := twI_le g a (twO g S.o.n a) k
      obtain ⟨X, hX⟩ : ∃ X, oiN (dig m) (S.o.own a) 6 = X := ⟨_, rfl⟩
      obtain ⟨Y, hY⟩ : ∃ Y, oiN (dig m) (S.o.own (a + 1 + k)) 6 = Y := ⟨_, rfl⟩
      have hXl := oi_lt (dig m) (S.o.own a) 6
      have hYl := oi_lt (dig m) (S.o.own (a + 1 + k)) 6
      have hX6 := oi_63 hdg (hV.o.own a ha)
      have hY6 := oi_63 hdg (hV.o.own (a + 1 + k) (by omega))
      have hXY : oiN (dig m) (S.o.own a) 6 ||| oiN (dig m) (S.o.own (a + 1 + k)) 6 = 63 ↔ _ := oi_or
      have hXYl : oiN (dig m) (S.o.own a) 6 ||| oiN (dig m) (S.o.own (a + 1 + k)) 6 < 2 ^ 6 := Nat.or_lt_two_pow hXl hYl
      rw [hX] at hX6 hXY hXl hXYl
      rw [hY] at hY6 hXY hYl hXYl
      have hgg : g a (a + 1 + k) = 1 ↔ (X ||| Y = 63 ∧ X ≠ 63 ∧ Y ≠ 63) := by
        rw [← hgv, Ne, Ne, hX6, hY6, hXY]
        unfold nbN
        by_cases h : rw6 (dig m) = rw6 (S.o.own a) ∨ rw6 (dig m) = rw6 (S.o.own (a + 1 + k))
        · rw [if_pos h]; omega
        · rw [if_neg h]; omega
      have no : ¬ g a (a + 1 + k) = 1 → twI g a (twO g S.o.n a) (k + 1) = twI g a (twO g S.o.n a) k := fun h => if_neg h
      refine mjT_go 4 (pc' := 57) (L' := [some (.ref 0), some (.int (nI m)), some (.int (nI wh)), some (.int (nI ((twI g a (twO g S.o.n a) k).1))), some (.int (tI (twI g a (twO g S.o.n a) k).2)), some (.int (nI a)), some (.int (nI (a + 1 + k))), e, f]) (st' := [.int (nI 147), .ref 1, .int (nI (a + 1 + k))]) (w1 := (KM, I, J, GM)) rfl ?_
      refine mjT_ial (v := nI S.o.n) 147 1840 rfl (pc' := 58) rfl rfl rfl (by omega) (by omega) (mo_at hoL.n rfl (by omega)) ?_
      refine mjT_go 1 (pc' := if nI S.o.n ≤ nI (a + 1 + k) then 131 else 61) (L' := [some (.ref 0), some (.int (nI m)), some (.int (nI wh)), some (.int (nI ((twI g a (twO g S.o.n a) k).1))), some (.int (tI (twI g a (twO g S.o.n a) k).2)), some (.int (nI a)), some (.int (nI (a + 1 + k))), e, f]) (st' := []) (w1 := (KM, I, J, GM)) rfl ?_
      refine mjT_ifF (nI_ge (by omega) (by omega)) ?_
      refine mjT_go 3 (pc' := 65) (L' := [some (.ref 0), some (.int (nI m)), some (.int (nI wh)), some (.int (nI ((twI g a (twO g S.o.n a) k).1))), some (.int (tI (twI g a (twO g S.o.n a) k).2)), some (.int (nI a)), some (.int (nI (a + 1 + k))), e, f]) (st' := [.int (nI a), .int (nI m), .ref 0]) (w1 := (KM, I, J, GM)) rfl ?_
      refine mjT_callE (as := [.ref 0, .int (nI m), .int (nI a)]) (rest := []) (r1 := some (.int (nI X))) rfl rfl rfl rfl rfl ⟨rfl, rfl⟩ (hX ▸ m_ownIn hV.o hoL hm ha) ?_
      refine mjT_go 4 (pc' := 74) (L' := [some (.ref 0), some (.int (nI m)), some (.int (nI wh)), some (.int (nI ((twI g a (twO g S.o.n a) k).1))), some (.int (tI (twI g a (twO g S.o.n a) k).2)), some (.int (nI a)), some (.int (nI (a + 1 + k))), some (.int (nI X)), f]) (st' := [.int (nI (a + 1 + k)), .int (nI m), .ref 0]) (w1 := (KM, I, J, GM)) rfl ?_
      refine mjT_callE (as := [.ref 0, .int (nI m), .int (nI (a + 1 + k))]) (rest := []) (r1 := some (.int (nI Y))) rfl rfl rfl rfl rfl ⟨rfl, rfl⟩ (hY ▸ m_ownIn hV.o hoL hm (by omega)) ?_
      refine mjT_go 3 (pc' := 83) (L' := [some (.ref 0), some (.int (nI m)), some (.int (nI wh)), some (.int (nI ((twI g a (twO g S.o.n a) k).1))), some (.int (tI (twI g a (twO g S.o.n a) k).2)), some (.int (nI a)), some (.int (nI (a + 1 + k))), some (.int (nI X)), some (.int (nI Y))]) (st' := [.int (nI Y), .int (nI X)]) (w1 := (KM, I, J, GM)) rfl ?_
      refine mjT_go 1 (pc' := 84) (L' := [some (.ref 0), some (.int (nI m)), some (.int (nI wh)), some (.int (nI ((twI g a (twO g S.o.n a) k).1))), some (.int (tI (twI g a (twO g S.o.n a) k).2)), some (.int (nI a)), some (.int (nI (a + 1 + k))), some (.int (nI X)), some (.int (nI Y))]) (st' := [.int ((nI X) ||| (nI Y))]) (w1 := (KM, I, J, GM)) rfl ?_
      rw [nI_or]
      generalize X ||| Y = Z at *
      refine mjT_go 2 (pc' := if ¬ nI Z = nI 63 then 125 else 89) (L' := [some (.ref 0), some (.int (nI m)), some (.int (nI wh)), some (.int (nI ((twI g a (twO g S.o.n a) k).1))), some (.int (tI (twI g a (twO g S.o.n a) k).2)), some (.int (nI a)), some (.int (nI (a + 1 + k))), some (.int (nI X)), some (.int (nI Y))]) (st' := []) (w1 := (KM, I, J, GM)) rfl ?_
      refine mjT_if_ne (u := Z) (v := 63) rfl rfl (by omega) (by omega) (fun h3 => ?_) (fun h3 => ?_)
      · refine mjT_go 2 (pc' := 48) (L' := [some (.ref 0), some (.int (nI m)), some (.int (nI wh)), some (.int (nI ((twI g a (twO g S.o.n a) k).1))), some (.int (tI (twI g a (twO g S.o.n a) k).2)), some (.int (nI a)), some (.int ((nI (a + 1 + k)) + (nI 1))), some (.int (nI X)), some (.int (nI Y))]) (st' := []) (w1 := (KM, I, J, GM)) rfl ?_
        rw [nI_add, ← no (fun q => h3 (hgg.mp q).1)]
        exact hcq _ _ ⟨_, _, rfl, rfl⟩
      refine mjT_go 3 (pc' := if nI X = nI 63 then 125 else 96) (L' := [some (.ref 0), some (.int (nI m)), some (.int (nI wh)), some (.int (nI ((twI g a (twO g S.o.n a) k).1))), some (.int (tI (twI g a (twO g S.o.n a) k).2)), some (.int (nI a)), some (.int (nI (a + 1 + k))), some (.int (nI X)), some (.int (nI Y))]) (st' := []) (w1 := (KM, I, J, GM)) rfl ?_
      refine mjT_if_eq (u := X) (v := 63) rfl rfl (by omega) (by omega) (fun h5 => ?_) (fun h5 => ?_)
      · refine mjT_go 2 (pc' := 48) (L' := [some (.ref 0), some (.int (nI m)), some (.int (nI wh)), some (.int (nI ((twI g a (twO g S.o.n a) k).1))), some (.int (tI (twI g a (twO g S.o.n a) k).2)), some (.int (nI a)), some (.int ((nI (a + 1 + k)) + (nI 1))), some (.int (nI X)), some (.int (nI Y))]) (st' := []) (w1 := (KM, I, J, GM)) rfl ?_
        rw [nI_add, ← no (fun q => (hgg.mp q).2.1 h5)]
        exact hcq _ _ ⟨_, _, rfl, rfl⟩
      refine mjT_go 3 (pc' := if nI Y = nI 63 then 125 else 103) (L' := [some (.ref 0), some (.int (nI m)), some (.int (nI wh)), some (.int (nI ((twI g a (twO g S.o.n a) k).1))), some (.int (tI (twI g a (twO g S.o.n a) k).2)), some (.int (nI a)), some (.int (nI (a + 1 + k))), some (.int (nI X)), some (.int (nI Y))]) (st' := []) (w1 := (KM, I, J, GM)) rfl ?_
      refine mjT_if_eq (u := Y) (v := 63) rfl rfl (by omega) (by omega) (fun h6 => ?_) (fun h6 => ?_)
      · refine mjT_go 2 (pc' := 48) (L' := [some (.ref 0), some (.int (nI m)), some (.int (nI wh)), some (.int (nI ((twI g a (twO g S.o.n a) k).1))), some (.int (tI (twI g a (twO g S.o.n a) k).2)), some (.int (nI a)), some (.int ((nI (a + 1 + k)) + (nI 1))), some (.int (nI X)), some (.int (nI Y))]) (st' := []) (w1 := (KM, I, J, GM)) rfl ?_
        rw [nI_add, ← no (fun q => (hgg.mp q).2.2 h6)]
        exact hcq _ _ ⟨_, _, rfl, rfl⟩
      have e1 : twI g a (twO g S.o.n a) (k + 1) = ((twI g a (twO g S.o.n a) k).1 + 1, if (twI g a (twO g S.o.n a) k).1 = 0 then 8 * a + (a + 1 + k) + 1 else (twI g a (twO g S.o.n a) k).2) := if_pos (hgg.mpr ⟨h3, h5, h6⟩)
      refine mjT_go 2 (pc' := if ¬ nI ((twI g a (twO g S.o.n a) k).1) = 0 then 118 else 107) (L' := [some (.ref 0), some (.int (nI m)), some (.int (nI wh)), some (.int (nI ((twI g a (twO g S.o.n a) k).1))), some (.int (tI (twI g a (twO g S.o.n a) k).2)), some (.int (nI a)), some (.int (nI (a + 1 + k))), some (.int (nI X)), some (.int (nI Y))]) (st' := []) (w1 := (KM, I, J, GM)) rfl ?_
      refine mjT_if_ne (u := (twI g a (twO g S.o.n a) k).1) (v := 0) rfl nI_0.symm (by omega) (by omega) (fun h4 => ?_) (fun h4 => ?_)
      · rw [if_neg h4] at e1
        refine mjT_go 5 (pc' := 48) (L' := [some (.ref 0), some (.int (nI m)), some (.int (nI wh)), some (.int ((nI ((twI g a (twO g S.o.n a) k).1)) + (nI 1))), some (.int (tI (twI g a (twO g S.o.n a) k).2)), some (.int (nI a)), some (.int ((nI (a + 1 + k)) + (nI 1))), some (.int (nI X)), some (.int (nI Y))]) (st' := []) (w1 := (KM, I, J, GM)) rfl ?_
        rw [nI_add, nI_add]
        exact hcq _ _ ⟨_, _, by rw [e1]; rfl, rfl⟩
      · rw [if_pos h4] at e1
        refine mjT_go 10 (pc' := 48) (L' := [some (.ref 0), some (.int (nI m)), some (.int (nI wh)), some (.int ((nI ((twI g a (twO g S.o.n a) k).1)) + (nI 1))), some (.int (((nI 8) * (nI a)) + (nI (a + 1 + k)))), some (.int (nI a)), some (.int ((nI (a + 1 + k)) + (nI 1))), some (.int (nI X)), some (.int (nI Y))]) (st' := []) (w1 := (KM, I, J, GM)) rfl ?_
        rw [pk_mul, nI_add, nI_add, nI_add]
        exact hcq _ _ ⟨_, _, by rw [e1]; rfl, rfl⟩
    · rintro _ _ ⟨e, f, rfl, rfl⟩
      refine mjT_go 4 (pc' := 57) (L' := [some (.ref 0), some (.int (nI m)), some (.int (nI wh)), some (.int (nI ((twI g a (twO g S.o.n a) (S.o.n - (a + 1))).1))), some (.int (tI (twI g a (twO g S.o.n a) (S.o.n - (a + 1))).2)), some (.int (nI a)), some (.int (nI (a + 1 + (S.o.n - (a + 1))))), e, f]) (st' := [.int (nI 147), .ref 1, .int (nI (a + 1 + (S.o.n - (a + 1))))]) (w1 := (KM, I, J, GM)) rfl ?_
      refine mjT_ial (v := nI S.o.n) 147 1840 rfl (pc' := 58) rfl rfl rfl (by omega) (by omega) (mo_at hoL.n rfl (by omega)) ?_
      refine mjT_go 1 (pc' := if nI S.o.n ≤ nI (a + 1 + (S.o.n - (a + 1))) then 131 else 61) (L' := [some (.ref 0), some (.int (nI m)), some (.int (nI wh)), some (.int (nI ((twI g a (twO g S.o.n a) (S.o.n - (a + 1))).1))), some (.int (tI (twI g a (twO g S.o.n a) (S.o.n - (a + 1))).2)), some (.int (nI a)), some (.int (nI (a + 1 + (S.o.n - (a + 1))))), e, f]) (st' := []) (w1 := (KM, I, J, GM)) rfl ?_
      refine mjT_ifT (nI_le (by omega) (by omega)) ?_
      refine mjT_go 2 (pc' := 29) (L' := [some (.ref 0), some (.int (nI m)), some (.int (nI wh)), some (.int (nI ((twI g a (twO g S.o.n a) (S.o.n - (a + 1))).1))), some (.int (tI (twI g a (twO g S.o.n a) (S.o.n - (a + 1))).2)), some (.int ((nI a) + (nI 1))), some (.int (nI (a + 1 + (S.o.n - (a + 1))))), e, f]) (st' := []) (w1 := (KM, I, J, GM)) rfl ?_
      rw [nI_add]
      exact hc _ _ ⟨_, _, _, rfl, rfl⟩
  · rintro _ _ ⟨d, e, f, rfl, rfl⟩
    refine mjT_go 4 (pc' := 38) (L' := [some (.ref 0), some (.int (nI m)), some (.int (nI wh)), some (.int (nI ((twO g S.o.n S.o.n).1))), some (.int (tI (twO g S.o.n S.o.n).2)), some (.int (nI S.o.n)), d, e, f]) (st' := [.int (nI 147), .ref 1, .int (nI S.o.n)]) (w1 := (KM, I, J, GM)) rfl ?_
    refine mjT_ial (v := nI S.o.n) 147 1840 rfl (pc' := 39) rfl rfl rfl (by omega) (by omega) (mo_at hoL.n rfl (by omega)) ?_
    refine mjT_go 1 (pc' := if nI S.o.n ≤ nI S.o.n then 137 else 42) (L' := [some (.ref 0), some (.int (nI m)), some (.int (nI wh)), some (.int (nI ((twO g S.o.n S.o.n).1))), some (.int (tI (twO g S.o.n S.o.n).2)), some (.int (nI S.o.n)), d, e, f]) (st' := []) (w1 := (KM, I, J, GM)) rfl ?_
    refine mjT_ifT (Int32.le_refl _) ?_
    refine mjT_go 2 (pc' := if ¬ nI wh = 0 then 145 else 141) (L' := [some (.ref 0), some (.int (nI m)), some (.int (nI wh)), some (.int (nI ((twO g S.o.n S.o.n).1))), some (.int (tI (twO g S.o.n S.o.n).2)), some (.int (nI S.o.n)), d, e, f]) (st' := []) (w1 := (KM, I, J, GM)) rfl ?_
    refine mjT_if_ne (u := wh) (v := 0) rfl nI_0.symm (by omega) (by omega) (fun h4 => ?_) (fun h4 => ?_)
    · refine mjT_go 1 (pc' := 147) (L' := [some (.ref 0), some (.int (nI m)), some (.int (nI wh)), some (.int (nI ((twO g S.o.n S.o.n).1))), some (.int (tI (twO g S.o.n S.o.n).2)), some (.int (nI S.o.n)), d, e, f]) (st' := [.int (tI (twO g S.o.n S.o.n).2)]) (w1 := (KM, I, J, GM)) rfl ?_
      refine mjT_ret rfl rfl rfl ?_
      exact ⟨by rw [if_neg h4], _, _, rfl, hM⟩
    · refine mjT_go 2 (pc' := 147) (L' := [some (.ref 0), some (.int (nI m)), some (.int (nI wh)), some (.int (nI ((twO g S.o.n S.o.n).1))), some (.int (tI (twO g S.o.n S.o.n).2)), some (.int (nI S.o.n)), d, e, f]) (st' := [.int (nI ((twO g S.o.n S.o.n).1))]) (w1 := (KM, I, J, GM)) rfl ?_
      refine mjT_ret rfl rfl rfl ?_
      exact ⟨by rw [if_pos h4], _, _, rfl, hM⟩
theorem sim_two {x y : Int32} : SimO 97 195 [.int x, .int y] := fun S _ _ _ _ hV hC hM => ⟨S, _, hV, cc_two hV hC, mm_two hV hM⟩
/-! film -/
noncomputable def filS (S : Sta) (s i p : Nat) : Nat → Sta
  | 0 => S
  | k + 1 => putS (filS S s i p k) s (i + k) (cutN (S.ln s) (lN (fg ((goO S.o (k + 1)).wr p) 6)))
theorem fil_e (S : Sta) (s i p : Nat) : ∀ k, (filS S s i p k).sz = S.sz ∧ (filS S s i p k).ln = S.ln ∧ (filS S s i p k).o = S.o
  | 0 => ⟨rfl, rfl, rfl⟩
  | k + 1 => by
    obtain ⟨h1, h2, h3⟩ := fil_e S s i p k
    exact ⟨h1, h2, h3⟩
theorem vs_fil (hV : VS S) (s i p : Nat) : ∀ k, VS (filS S s i p k)
  | 0 => hV
  | k + 1 => vs_put (vs_fil hV s i p k)
noncomputable def aFilm (S : Sta) (x y z u v : Int32) : Int32 := if iP x S.o.n = 1 ∧ iR y 1 24 = 1 ∧ iR z 0 3 = 1 ∧ iR u 0 3 = 1 then (if refN S (nn z) (nn u) v y < 0 then refN S (nn z) (nn u) v y else y) else -1
noncomputable def sFilm (S : Sta) (x y z u v : Int32) : Sta := if iP x S.o.n = 1 ∧ iR y 1 24 = 1 ∧ iR z 0 3 = 1 ∧ iR u 0 3 = 1 then (if refN S (nn z) (nn u) v y < 0 then S else filS S (nn z) (nn v) (nn x) (nn y)) else S
theorem vs_film (hV : VS S) {x y z u v : Int32} : VS (sFilm S x y z u v) := by
  unfold sFilm
  split
  · split
    · exact hV
    · exact vs_fil hV _ _ _ _
  · exact hV
theorem cc_film (hV : VS S) (hC : CW I J S) {x y z u v : Int32} : mj_E 103 [.ref 0, .int x, .int y, .int z, .int u, .int v] (KC, I, J, GC) (fun w' r => r = some (.int (aFilm S x y z u v)) ∧ ∃ I' J', w' = (KC, I', J', GC) ∧ CW I' J' (sFilm S x y z u v)) := by
  have hn := hV.o.n
  have hd := hV.day
  have hr1 := ip01 x S.o.n
  have hr2 := ir01 y 1 24
  have hr3 := ir01 z 0 3
  have hr4 := ir01 u 0 3
  obtain ⟨la, hla⟩ := nI_surj (I 75 3)
  obtain ⟨dr, hdr⟩ := nI_surj (I 75 4)
  unfold aFilm sFilm
  refine mjT_go 3 (pc' := 5) (L' := [some (.ref 0), some (.int x), some (.int y), some (.int z), some (.int u), some (.int v), none, none]) (st' := [.int x, .ref 1]) (w1 := (KC, I, J, GC)) rfl ?_
  refine mjT_callE (as := [.ref 1, .int x]) (rest := []) (r1 := some (.int (nI (iP x S.o.n)))) rfl rfl rfl rfl rfl ⟨rfl, rfl⟩ (c_has hV.o og_1 hC.o) ?_
  refine mjT_go 1 (pc' := if nI (iP x S.o.n) = 0 then 36 else 11) (L' := [some (.ref 0), some (.int x), some (.int y), some (.int z), some (.int u), some (.int v), none, none]) (st' := []) (w1 := (KC, I, J, GC)) rfl ?_
  refine mjT_if_eq (u := iP x S.o.n) (v := 0) rfl nI_0.symm (by omega) (by omega) (fun h1 => ?_) (fun h1 => ?_)
  · rw [if_neg (by omega), if_neg (by omega)]
    refine mjT_go 1 (pc' := 37) (L' := [some (.ref 0), some (.int x), some (.int y), some (.int z), some (.int u), some (.int v), none, none]) (st' := [.int (-1)]) (w1 := (KC, I, J, GC)) rfl ?_
    refine mjT_ret rfl rfl rfl ?_
    exact ⟨rfl, _, _, rfl, hC⟩
  refine mjT_go 3 (pc' := 15) (L' := [some (.ref 0), some (.int x), some (.int y), some (.int z), some (.int u), some (.int v), none, none]) (st' := [.int (nI 24), .int (nI 1), .int y]) (w1 := (KC, I, J, GC)) rfl ?_
  refine mjT_callE (as := [.int y, .int (nI 1), .int (nI 24)]) (rest := []) (r1 := some (.int (nI (iR y 1 24)))) rfl rfl rfl rfl rfl ⟨rfl, rfl⟩ c_within ?_
  refine mjT_go 1 (pc' := if nI (iR y 1 24) = 0 then 36 else 21) (L' := [some (.ref 0), some (.int x), some (.int y), some (.int z), some (.int u), some (.int v), none, none]) (st' := []) (w1 := (KC, I, J, GC)) rfl ?_
  refine mjT_if_eq (u := iR y 1 24) (v := 0) rfl nI_0.symm (by omega) (by omega) (fun h2 => ?_) (fun h2 => ?_)
  · rw [if_neg (by omega), if_neg (by omega)]
    refine mjT_go 1 (pc' := 37) (L' := [some (.ref 0), some (.int x), some (.int y), some (.int z), some (.int u), some (.int v), none, none]) (st' := [.int (-1)]) (w1 := (KC, I, J, GC)) rfl ?_
    refine mjT_ret rfl rfl rfl ?_
    exact ⟨rfl, _, _, rfl, hC⟩
  refine mjT_go 1 (pc' := 22) (L' := [some (.ref 0), some (.int x), some (.int y), some (.int z), some (.int u), some (.int v), none, none]) (st' := [.int z]) (w1 := (KC, I, J, GC)) rfl ?_
  refine mjT_callE (as := [.int z]) (rest := []) (r1 := some (.int (nI (iR z 0 3)))) rfl rfl rfl rfl rfl ⟨rfl, rfl⟩ c_isSheet ?_
  refine mjT_go 1 (pc' := if nI (iR z 0 3) = 0 then 36 else 28) (L' := [some (.ref 0), some (.int x), some (.int y), some (.int z), some (.int u), some (.int v), none, none]) (st' := []) (w1 := (KC, I, J, GC)) rfl ?_
  refine mjT_if_eq (u := iR z 0 3) (v := 0) rfl nI_0.symm (by omega) (by omega) (fun h3 => ?_) (fun h3 => ?_)
  · rw [if_neg (by omega), if_neg (by omega)]
    refine mjT_go 1 (pc' := 37) (L' := [some (.ref 0), some (.int x), some (.int y), some (.int z), some (.int u), some (.int v), none, none]) (st' := [.int (-1)]) (w1 := (KC, I, J, GC)) rfl ?_
    refine mjT_ret rfl rfl rfl ?_
    exact ⟨rfl, _, _, rfl, hC⟩
  refine mjT_go 1 (pc' := 30) (L' := [some (.ref 0), some (.int x), some (.int y), some (.int z), some (.int u), some (.int v), none, none]) (st' := [.int u]) (w1 := (KC, I, J, GC)) rfl ?_
  refine mjT_callE (as := [.int u]) (rest := []) (r1 := some (.int (nI (iR u 0 3)))) rfl rfl rfl rfl rfl ⟨rfl, rfl⟩ c_isLane ?_
  refine mjT_go 1 (pc' := if ¬ nI (iR u 0 3) = 0 then 38 else 36) (L' := [some (.ref 0), some (.int x), some (.int y), some (.int z), some (.int u), some (.int v), none, none]) (st' := []) (w1 := (KC, I, J, GC)) rfl ?_
  refine mjT_if_ne (u := iR u 0 3) (v := 0) rfl nI_0.symm (by omega) (by omega) (fun h4 => ?_) (fun h4 => ?_)
  rotate_left
  · rw [if_neg (by omega), if_neg (by omega)]
    refine mjT_go 1 (pc' := 37) (L' := [some (.ref 0), some (.int x), some (.int y), some (.int z), some (.int u), some (.int v), none, none]) (st' := [.int (-1)]) (w1 := (KC, I, J, GC)) rfl ?_
    refine mjT_ret rfl rfl rfl ?_
    exact ⟨rfl, _, _, rfl, hC⟩
  rw [if_pos (show iP x S.o.n = 1 ∧ iR y 1 24 = 1 ∧ iR z 0 3 = 1 ∧ iR u 0 3 = 1 by omega), if_pos (show iP x S.o.n = 1 ∧ iR y 1 24 = 1 ∧ iR z 0 3 = 1 ∧ iR u 0 3 = 1 by omega)]
  obtain ⟨p, hp, rfl⟩ := iP_1 (x := x) (n := S.o.n) (by omega) (by omega)
  obtain ⟨n, hn1, hn24, rfl⟩ := iR_1 (x := y) (a := 1) (b := 24) (by omega) (by omega) (by omega)
  obtain ⟨s, _, hs, rfl⟩ := iR_1 (x := z) (a := 0) (b := 3) (by omega) (by omega) (by omega)
  obtain ⟨l, _, hl, rfl⟩ := iR_1 (x := u) (a := 0) (b := 3) (by omega) (by omega) (by omega)
  rw [nn_N (n := s) (by omega), nn_N (n := l) (by omega), nn_N (n := p) (by omega), nn_N (n := n) (by omega)]
  refine mjT_go 6 (pc' := 48) (L' := [some (.ref 0), some (.int (nI p)), some (.int (nI n)), some (.int (nI s)), some (.int (nI l)), some (.int v), none, none]) (st' := [.int (nI n), .int v, .int (nI l), .int (nI s), .ref 88]) (w1 := (KC, I, J, GC)) rfl ?_
  refine mjT_callE (as := [.ref 88, .int (nI s), .int (nI l), .int v, .int (nI n)]) (rest := []) (r1 := some (.int (refN S s l v (nI n)))) rfl rfl rfl rfl rfl ⟨rfl, rfl⟩ (c_refusal hV hC (by omega) (by omega)) ?_
  refine mjT_go 3 (pc' := if 0 ≤ refN S s l v (nI n) then 61 else 58) (L' := [some (.ref 0), some (.int (nI p)), some (.int (nI n)), some (.int (nI s)), some (.int (nI l)), some (.int v), some (.int (refN S s l v (nI n))), none]) (st' := []) (w1 := (KC, I, J, GC)) rfl ?_
  rcases refN_cases S s l v (nI n) with ⟨hneg, _⟩ | ⟨h0, hsz, hln, hh⟩
  · rw [if_pos hneg, if_pos hneg]
    refine mjT_ifF (fun q => i32_nlt.mpr q hneg) ?_
    refine mjT_go 1 (pc' := 60) (L' := [some (.ref 0), some (.int (nI p)), some (.int (nI n)), some (.int (nI s)), some (.int (nI l)), some (.int v), some (.int (refN S s l v (nI n))), none]) (st' := [.int (refN S s l v (nI n))]) (w1 := (KC, I, J, GC)) rfl ?_
    refine mjT_ret rfl rfl rfl ?_
    exact ⟨rfl, _, _, rfl, hC⟩
  rw [h0, if_neg (show ¬ nI 0 < 0 by decide), if_neg (show ¬ nI 0 < 0 by decide)]
  refine mjT_ifT (by decide) ?_
  have hzz := hV.sz s (by omega)
  have hz1 : S.sz s = (S.sz s - 1) + 1 := by omega
  have hlt := hV.ln s (by omega)
  obtain ⟨i, n2, rfl, hn2, hin, hi31, hn231⟩ := hN_1 hh
  obtain rfl : n = n2 := (nI_eq (by omega) hn231).mp hn2
  rw [nn_N hi31]
  refine mjT_go 4 (pc' := 69) (L' := [some (.ref 0), some (.int (nI p)), some (.int (nI n)), some (.int (nI s)), some (.int (nI l)), some (.int (nI i)), some (.int (nI 0)), none]) (st' := [.ref 1, .ref 75]) (w1 := (KC, I, J, GC)) rfl ?_
  refine mjT_call (as := [.ref 75, .ref 1]) (rest := []) rfl rfl rfl rfl rfl ⟨rfl, rfl⟩ (c_become hV.o.n og_75 og_1 (by omega) hC.o hla hdr) ?_
  rintro _ _ ⟨rfl, I2, rfl, hO2, hf2⟩
  refine mjT_go 3 (pc' := 77) (L' := [some (.ref 0), some (.int (nI p)), some (.int (nI n)), some (.int (nI s)), some (.int (nI l)), some (.int (nI i)), some (.int (nI 0)), none]) (st' := [.int (nI p), .ref 75]) (w1 := (KC, I2, J, GC)) rfl ?_
  refine mjT_call (as := [.ref 75, .int (nI p)]) (rest := []) rfl rfl rfl rfl rfl ⟨rfl, rfl⟩ (c_watchOnly hV.o og_75 hO2 hp) ?_
  rintro _ _ ⟨rfl, I3, mm, rfl, hf3, hW3, _, _⟩
  have hO3 := ro_P (ro_watch hO2 hf3) (fun q (_ : PcN S.o p q) => trivial)
  refine mjT_go 6 (pc' := 90) (L' := [some (.ref 0), some (.int (nI p)), some (.int (nI n)), some (.int (nI s)), some (.int (nI l)), some (.int (nI i)), some (.int (nI 0)), none]) (st' := [.ref 96, .int (nI n), .int (nI p), .ref 75]) (w1 := (KC, I3, J, GC)) rfl ?_
  refine mjT_call (as := [.ref 75, .int (nI p), .int (nI n), .ref 96]) (rest := []) rfl rfl rfl rfl rfl ⟨rfl, rfl⟩ (c_follow hV.o og_75 (by omega) hO3 hW3 (show n ≤ 60 by omega) (by omega) hp (pc_self _ _)) ?_
  rintro _ _ ⟨rfl, I4, rfl, ht4, hf4⟩
  have hC4 : CW I4 J S := cw_tr hC hV (fun h a b => by rw [hf4 h (by omega) (by omega) (by omega) (by omega) b, hf3.1 h (by omega) (by omega) (by omega), hf2 h (by omega)])
  refine mjT_go 2 (pc' := 96) (L' := [some (.ref 0), some (.int (nI p)), some (.int (nI n)), some (.int (nI s)), some (.int (nI l)), some (.int (nI i)), some (.int (nI 0)), some (.int (nI 1))]) (st' := []) (w1 := (KC, I4, J, GC)) rfl ?_
  refine mj_loop (fun k L w => ∃ J', L = [some (.ref 0), some (.int (nI p)), some (.int (nI n)), some (.int (nI s)), some (.int (nI l)), some (.int (nI i)), some (.int (nI 0)), some (.int (nI (k + 1)))] ∧ w = (KC, I4, J', GC) ∧ CW I4 J' (filS S s i p k)) n (k0 := 0) (Nat.zero_le _) ?_ ?_ ?_
  · exact ⟨_, rfl, rfl, hC4⟩
  · rintro k _ _ hk ⟨J5, rfl, rfl, hC5⟩ hc
    obtain ⟨f1, f2, f3⟩ := fil_e S s i p k
    have hdk := go_dgo hV.o (k := k + 1) (by omega) hp
    have hfb := fg_lt hdk 6 (by omega)
    have hik : i + k < S.sz s - 1 := by omega
    refine mjT_go 3 (pc' := if nI n < nI (k + 1) then 134 else 102) (L' := [some (.ref 0), some (.int (nI p)), some (.int (nI n)), some (.int (nI s)), some (.int (nI l)), some (.int (nI i)), some (.int (nI 0)), some (.int (nI (k + 1)))]) (st' := []) (w1 := (KC, I4, J5, GC)) rfl ?_
    refine mjT_ifF (nI_nlt (by omega) (by omega)) ?_
    refine mjT_go 7 (pc' := 113) (L' := [some (.ref 0), some (.int (nI p)), some (.int (nI n)), some (.int (nI s)), some (.int (nI l)), some (.int (nI i)), some (.int (nI 0)), some (.int (nI (k + 1)))]) (st' := [.int (nI 1), .int ((nI i) + (nI (k + 1))), .int (nI s), .ref 88]) (w1 := (KC, I4, J5, GC)) rfl ?_
    refine mjT_go 1 (pc' := 114) (L' := [some (.ref 0), some (.int (nI p)), some (.int (nI n)), some (.int (nI s)), some (.int (nI l)), some (.int (nI i)), some (.int (nI 0)), some (.int (nI (k + 1)))]) (st' := [.int (((nI i) + (nI (k + 1))) - (nI 1)), .int (nI s), .ref 88]) (w1 := (KC, I4, J5, GC)) rfl ?_
    rw [nI_add, show nI (i + (k + 1)) - nI 1 = nI (i + k) from nI_sub1 (i + k)]
    refine mjT_go 3 (pc' := 120) (L' := [some (.ref 0), some (.int (nI p)), some (.int (nI n)), some (.int (nI s)), some (.int (nI l)), some (.int (nI i)), some (.int (nI 0)), some (.int (nI (k + 1)))]) (st' := [.int (nI (k + 1)), .ref 96, .int (nI (i + k)), .int (nI s), .ref 88]) (w1 := (KC, I4, J5, GC)) rfl ?_
    refine mjT_ial (v := nI (rw6 ((goO S.o (k + 1)).wr p))) (k + 1) 61 rfl (pc' := 121) rfl rfl rfl (by omega) (by omega) (show I4 96 (k + 1) = nI (rw6 ((goO S.o (k + 1)).wr p)) from (ht4 (k + 1) (by omega))) ?_
    refine mjT_callE (as := [.int (nI (rw6 ((goO S.o (k + 1)).wr p)))]) (rest := [.int (nI (i + k)), .int (nI s), .ref 88]) (r1 := some (.int (nI (fg ((goO S.o (k + 1)).wr p) 6)))) rfl rfl rfl rfl rfl ⟨rfl, rfl⟩ (e_figures hdk) ?_
    refine mjT_go 1 (pc' := 125) (L' := [some (.ref 0), some (.int (nI p)), some (.int (nI n)), some (.int (nI s)), some (.int (nI l)), some (.int (nI i)), some (.int (nI 0)), some (.int (nI (k + 1)))]) (st' := [.long ((nI (fg ((goO S.o (k + 1)).wr p) 6)).toInt64), .int (nI (i + k)), .int (nI s), .ref 88]) (w1 := (KC, I4, J5, GC)) rfl ?_
    rw [nI_l (by omega)]
    refine mjT_call (as := [.ref 88, .int (nI s), .int (nI (i + k)), .long (lN (fg ((goO S.o (k + 1)).wr p) 6))]) (rest := []) rfl rfl rfl rfl rfl ⟨rfl, rfl⟩ (c_put (m := S.sz s - 1) (vs_fil hV s i p k) hC5 (show s < 4 by omega) (show (filS S s i p k).sz s = (S.sz s - 1) + 1 by rw [f1]; exact hz1) hik) ?_
    rintro _ _ ⟨rfl, J6, rfl, hC6⟩
    refine mjT_go 2 (pc' := 96) (L' := [some (.ref 0), some (.int (nI p)), some (.int (nI n)), some (.int (nI s)), some (.int (nI l)), some (.int (nI i)), some (.int (nI 0)), some (.int ((nI (k + 1)) + (nI 1)))]) (st' := []) (w1 := (KC, I4, J6, GC)) rfl ?_
    rw [nI_add]
    exact hc _ _ ⟨_, rfl, rfl, by rw [f2] at hC6; exact hC6⟩
  · rintro _ _ ⟨J5, rfl, rfl, hC5⟩
    refine mjT_go 3 (pc' := if nI n < nI (n + 1) then 134 else 102) (L' := [some (.ref 0), some (.int (nI p)), some (.int (nI n)), some (.int (nI s)), some (.int (nI l)), some (.int (nI i)), some (.int (nI 0)), some (.int (nI (n + 1)))]) (st' := []) (w1 := (KC, I4, J5, GC)) rfl ?_
    refine mjT_ifT (nI_lt (by omega) (by omega)) ?_
    refine mjT_go 1 (pc' := 135) (L' := [some (.ref 0), some (.int (nI p)), some (.int (nI n)), some (.int (nI s)), some (.int (nI l)), some (.int (nI i)), some (.int (nI 0)), some (.int (nI (n + 1)))]) (st' := [.int (nI n)]) (w1 := (KC, I4, J5, GC)) rfl ?_
    refine mjT_ret rfl rfl rfl ?_
    exact ⟨rfl, _, _, rfl, hC5⟩
theorem mm_film (hV : VS S) (hM : MW I J S) {x y z u v : Int32} : mj_E 208 [.ref 0, .int x, .int y, .int z, .int u, .int v] (KM, I, J, GM) (fun w' r => r = some (.int (aFilm S x y z u v)) ∧ ∃ I' J', w' = (KM, I', J', GM) ∧ MW I' J' (sFilm S x y z u v)) := by
  have hn := hV.o.n
  have hd := hV.day
  have hr1 := ip01 x S.o.n
  have hr2 := ir01 y 1 24
  have hr3 := ir01 z 0 3
  have hr4 := ir01 u 0 3
  unfold aFilm sFilm
  refine mjT_go 2 (pc' := 2) (L' := [some (.ref 0), some (.int x), some (.int y), some (.int z), some (.int u), some (.int v), none]) (st' := [.int x, .ref 0]) (w1 := (KM, I, J, GM)) rfl ?_
  refine mjT_callE (as := [.ref 0, .int x]) (rest := []) (r1 := some (.int (nI (iP x S.o.n)))) rfl rfl rfl rfl rfl ⟨rfl, rfl⟩ (m_isPerson hV.o hM.o) ?_
  refine mjT_go 1 (pc' := if nI (iP x S.o.n) = 0 then 40 else 8) (L' := [some (.ref 0), some (.int x), some (.int y), some (.int z), some (.int u), some (.int v), none]) (st' := []) (w1 := (KM, I, J, GM)) rfl ?_
  refine mjT_if_eq (u := iP x S.o.n) (v := 0) rfl nI_0.symm (by omega) (by omega) (fun h1 => ?_) (fun h1 => ?_)
  · rw [if_neg (by omega), if_neg (by omega)]
    refine mjT_go 1 (pc' := 41) (L' := [some (.ref 0), some (.int x), some (.int y), some (.int z), some (.int u), some (.int v), none]) (st' := [.int (-1)]) (w1 := (KM, I, J, GM)) rfl ?_
    refine mjT_ret rfl rfl rfl ?_
    exact ⟨rfl, _, _, rfl, hM⟩
  refine mjT_go 4 (pc' := 14) (L' := [some (.ref 0), some (.int x), some (.int y), some (.int z), some (.int u), some (.int v), none]) (st' := [.long (lN 24), .long (lN 1), .long y.toInt64]) (w1 := (KM, I, J, GM)) rfl ?_
  refine mjT_callE (as := [.long y.toInt64, .long (lN 1), .long (lN 24)]) (rest := []) (r1 := some (.int (nI (iR y 1 24)))) rfl rfl rfl rfl rfl ⟨rfl, rfl⟩ (m_inR (by decide) (by decide)) ?_
  refine mjT_go 1 (pc' := if nI (iR y 1 24) = 0 then 40 else 20) (L' := [some (.ref 0), some (.int x), some (.int y), some (.int z), some (.int u), some (.int v), none]) (st' := []) (w1 := (KM, I, J, GM)) rfl ?_
  refine mjT_if_eq (u := iR y 1 24) (v := 0) rfl nI_0.symm (by omega) (by omega) (fun h2 => ?_) (fun h2 => ?_)
  · rw [if_neg (by omega), if_neg (by omega)]
    refine mjT_go 1 (pc' := 41) (L' := [some (.ref 0), some (.int x), some (.int y), some (.int z), some (.int u), some (.int v), none]) (st' := [.int (-1)]) (w1 := (KM, I, J, GM)) rfl ?_
    refine mjT_ret rfl rfl rfl ?_
    exact ⟨rfl, _, _, rfl, hM⟩
  refine mjT_go 1 (pc' := 21) (L' := [some (.ref 0), some (.int x), some (.int y), some (.int z), some (.int u), some (.int v), none]) (st' := [.int z]) (w1 := (KM, I, J, GM)) rfl ?_
  refine mjT_callE (as := [.int z]) (rest := []) (r1 := some (.int (nI (iR z 0 3)))) rfl rfl rfl rfl rfl ⟨rfl, rfl⟩ m_isSheet ?_
  refine mjT_go 1 (pc' := if nI (iR z 0 3) = 0 then 40 else 27) (L' := [some (.ref 0), some (.int x), some (.int y), some (.int z), some (.int u), some (.int v), none]) (st' := []) (w1 := (KM, I, J, GM)) rfl ?_
  refine mjT_if_eq (u := iR z 0 3) (v := 0) rfl nI_0.symm (by omega) (by omega) (fun h3 => ?_) (fun h3 => ?_)
  · rw [if_neg (by omega), if_neg (by omega)]
    refine mjT_go 1 (pc' := 41) (L' := [some (.ref 0), some (.int x), some (.int y), some (.int z), some (.int u), some (.int v), none]) (st' := [.int (-1)]) (w1 := (KM, I, J, GM)) rfl ?_
    refine mjT_ret rfl rfl rfl ?_
    exact ⟨rfl, _, _, rfl, hM⟩
  refine mjT_go 4 (pc' := 34) (L' := [some (.ref 0), some (.int x), some (.int y), some (.int z), some (.int u), some (.int v), none]) (st' := [.long (lN 3), .long (lN 0), .long u.toInt64]) (w1 := (KM, I, J, GM)) rfl ?_
  refine mjT_callE (as := [.long u.toInt64, .long (lN 0), .long (lN 3)]) (rest := []) (r1 := some (.int (nI (iR u 0 3)))) rfl rfl rfl rfl rfl ⟨rfl, rfl⟩ (m_inR (by decide) (by decide)) ?_
  refine mjT_go 1 (pc' := if ¬ nI (iR u 0 3) = 0 then 42 else 40) (L' := [some (.ref 0), some (.int x), some (.int y), some (.int z), some (.int u), some (.int v), none]) (st' := []) (w1 := (KM, I, J, GM)) rfl ?_
  refine mjT_if_ne (u := iR u 0 3) (v := 0) rfl nI_0.symm (by omega) (by omega) (fun h4 => ?_) (fun h4 => ?_)
  rotate_left
  · rw [if_neg (by omega), if_neg (by omega)]
    refine mjT_go 1 (pc' := 41) (L' := [some (.ref 0), some (.int x), some (.int y), some (.int z), some (.int u), some (.int v), none]) (st' := [.int (-1)]) (w1 := (KM, I, J, GM)) rfl ?_
    refine mjT_ret rfl rfl rfl ?_
    exact ⟨rfl, _, _, rfl, hM⟩
  rw [if_pos (show iP x S.o.n = 1 ∧ iR y 1 24 = 1 ∧ iR z 0 3 = 1 ∧ iR u 0 3 = 1 by omega), if_pos (show iP x S.o.n = 1 ∧ iR y 1 24 = 1 ∧ iR z 0 3 = 1 ∧ iR u 0 3 = 1 by omega)]
  obtain ⟨p, hp, rfl⟩ := iP_1 (x := x) (n := S.o.n) (by omega) (by omega)
  obtain ⟨n, hn1, hn24, rfl⟩ := iR_1 (x := y) (a := 1) (b := 24) (by omega) (by omega) (by omega)
  obtain ⟨s, _, hs, rfl⟩ := iR_1 (x := z) (a := 0) (b := 3) (by omega) (by omega) (by omega)
  obtain ⟨l, _, hl, rfl⟩ := iR_1 (x := u) (a := 0) (b := 3) (by omega) (by omega) (by omega)
  rw [nn_N (n := s) (by omega), nn_N (n := l) (by omega), nn_N (n := p) (by omega), nn_N (n := n) (by omega)]
  refine mjT_go 5 (pc' := 49) (L' := [some (.ref 0), some (.int (nI p)), some (.int (nI n)), some (.int (nI s)), some (.int (nI l)), some (.int v), none]) (st' := [.int (nI n), .int v, .int (nI l), .int (nI s), .ref 0]) (w1 := (KM, I, J, GM)) rfl ?_
  refine mjT_callE (as := [.ref 0, .int (nI s), .int (nI l), .int v, .int (nI n)]) (rest := []) (r1 := some (.int (refN S s l v (nI n)))) rfl rfl rfl rfl rfl ⟨rfl, rfl⟩ (m_refusedRow hV hM (by omega) (by omega)) ?_
  refine mjT_go 1 (pc' := if 0 ≤ refN S s l v (nI n) then 66 else 55) (L' := [some (.ref 0), some (.int (nI p)), some (.int (nI n)), some (.int (nI s)), some (.int (nI l)), some (.int v), none]) (st' := []) (w1 := (KM, I, J, GM)) rfl ?_
  rcases refN_cases S s l v (nI n) with ⟨hneg, _⟩ | ⟨h0, hsz, hln, hh⟩
  · rw [if_pos hneg, if_pos hneg]
    refine mjT_ifF (fun q => i32_nlt.mpr q hneg) ?_
    refine mjT_go 5 (pc' := 62) (L' := [some (.ref 0), some (.int (nI p)), some (.int (nI n)), some (.int (nI s)), some (.int (nI l)), some (.int v), none]) (st' := [.int (nI n), .int v, .int (nI l), .int (nI s), .ref 0]) (w1 := (KM, I, J, GM)) rfl ?_
    refine mjT_callE (as := [.ref 0, .int (nI s), .int (nI l), .int v, .int (nI n)]) (rest := []) (r1 := some (.int (refN S s l v (nI n)))) rfl rfl rfl rfl rfl ⟨rfl, rfl⟩ (m_refusedRow hV hM (by omega) (by omega)) ?_
    refine mjT_ret rfl rfl rfl ?_
    exact ⟨rfl, _, _, rfl, hM⟩
  rw [h0, if_neg (show ¬ nI 0 < 0 by decide), if_neg (show ¬ nI 0 < 0 by decide)]
  refine mjT_ifT (by decide) ?_
  have hzz := hV.sz s (by omega)
  have hlt := hV.ln s (by omega)
  obtain ⟨i, n2, rfl, hn2, hin, hi31, hn231⟩ := hN_1 hh
  obtain rfl : n = n2 := (nI_eq (by omega) hn231).mp hn2
  rw [nn_N hi31]
  refine mjT_go 1 (pc' := 67) (L' := [some (.ref 0), some (.int (nI p)), some (.int (nI n)), some (.int (nI s)), some (.int (nI l)), some (.int (nI i)), none]) (st' := [.ref 0]) (w1 := (KM, I, J, GM)) rfl ?_
  refine mjT_call (as := [.ref 0]) (rest := []) rfl rfl rfl rfl rfl ⟨rfl, rfl⟩ (m_begin hV.o hM.o) ?_
  rintro _ _ ⟨rfl, I2, rfl, hO2, hf2⟩
  refine mjT_go 2 (pc' := 73) (L' := [some (.ref 0), some (.int (nI p)), some (.int (nI n)), some (.int (nI s)), some (.int (nI l)), some (.int (nI i)), some (.int (nI 0))]) (st' := []) (w1 := (KM, I2, J, GM)) rfl ?_
  refine mj_loop (fun k L w => ∃ I' J', L = [some (.ref 0), some (.int (nI p)), some (.int (nI n)), some (.int (nI s)), some (.int (nI l)), some (.int (nI i)), some (.int (nI k))] ∧ w = (KM, I', J', GM) ∧ MO I' 1680 (goO S.o k) ∧ MW I' J' (filS S s i p k)) n (k0 := 0) (Nat.zero_le _) ?_ ?_ ?_
  · exact ⟨_, _, rfl, rfl, hO2, mw_ft hM hV hf2⟩
  · rintro k _ _ hk ⟨I5, J5, rfl, rfl, hO5, hM5⟩ hc
    obtain ⟨f1, f2, f3⟩ := fil_e S s i p k
    have hVk := v_go hV.o k (by omega)
    have hgd := goO_day S.o k
    have hgn := go_n S.o (k + 1)
    have hdk := go_dgo hV.o (k := k + 1) (by omega) hp
    have hfb := fg_lt hdk 6 (by omega)
    refine mjT_go 3 (pc' := if nI n ≤ nI k then 116 else 79) (L' := [some (.ref 0), some (.int (nI p)), some (.int (nI n)), some (.int (nI s)), some (.int (nI l)), some (.int (nI i)), some (.int (nI k))]) (st' := []) (w1 := (KM, I5, J5, GM)) rfl ?_
    refine mjT_ifF (nI_ge (by omega) (by omega)) ?_
    refine mjT_go 2 (pc' := 81) (L' := [some (.ref 0), some (.int (nI p)), some (.int (nI n)), some (.int (nI s)), some (.int (nI l)), some (.int (nI i)), some (.int (nI k))]) (st' := [.int (nI 1), .ref 0]) (w1 := (KM, I5, J5, GM)) rfl ?_
    refine mjT_call (as := [.ref 0, .int (nI 1)]) (rest := []) rfl rfl rfl rfl rfl ⟨rfl, rfl⟩ (m_goOn hVk hO5 (n := 1) (by omega)) ?_
    rintro _ _ ⟨rfl, I6, rfl, hO6, hf6⟩
    have hO7 : MO I6 1680 (goO S.o (k + 1)) := hO6
    have hM6 := mw_ft hM5 (vs_fil hV s i p k) (ft_of hf6)
    refine mjT_go 12 (pc' := 102) (L' := [some (.ref 0), some (.int (nI p)), some (.int (nI n)), some (.int (nI s)), some (.int (nI l)), some (.int (nI i)), some (.int (nI k))]) (st' := [.int (nI p), .ref 0, .int (nI l), .int ((((nI 24) * (nI s)) + (nI i)) + (nI k)), .ref 5]) (w1 := (KM, I6, J5, GM)) rfl ?_
    refine mjT_callE (as := [.ref 0, .int (nI p)]) (rest := [.int (nI l), .int ((((nI 24) * (nI s)) + (nI i)) + (nI k)), .ref 5]) (r1 := some (.int (nI (fg ((goO S.o (k + 1)).wr p) 6)))) rfl rfl rfl rfl rfl ⟨rfl, rfl⟩ (m_writesNow (by omega) hO7 (by omega)) ?_
    refine mjT_go 1 (pc' := 106) (L' := [some (.ref 0), some (.int (nI p)), some (.int (nI n)), some (.int (nI s)), some (.int (nI l)), some (.int (nI i)), some (.int (nI k))]) (st' := [.long ((nI (fg ((goO S.o (k + 1)).wr p) 6)).toInt64), .int (nI l), .int ((((nI 24) * (nI s)) + (nI i)) + (nI k)), .ref 5]) (w1 := (KM, I6, J5, GM)) rfl ?_
    rw [nI_l (by omega)]
    refine mjT_callE (as := [.int (nI l), .long (lN (fg ((goO S.o (k + 1)).wr p) 6))]) (rest := [.int ((((nI 24) * (nI s)) + (nI i)) + (nI k)), .ref 5]) (r1 := some (.long (cutN l (lN (fg ((goO S.o (k + 1)).wr p) 6))))) rfl rfl rfl rfl rfl ⟨rfl, rfl⟩ (m_cut (by omega)) ?_
    obtain ⟨V1, eV1⟩ : ∃ z, z = mj_row J5 5 (va_up (J5 5) (((24 * s) + i) + k) (cutN l (lN (fg ((goO S.o (k + 1)).wr p) 6)))) := ⟨_, rfl⟩
    refine mjT_las (J' := V1) (((24 * s) + i) + k) 96 rfl (pc' := 110) rfl rfl (by simp only [nI_add, pk_mul]) (by omega) (by omega) eV1.symm ?_
    refine mjT_go 2 (pc' := 73) (L' := [some (.ref 0), some (.int (nI p)), some (.int (nI n)), some (.int (nI s)), some (.int (nI l)), some (.int (nI i)), some (.int ((nI k) + (nI 1)))]) (st' := []) (w1 := (KM, I6, V1, GM)) rfl ?_
    rw [nI_add]
    refine hc _ _ ⟨_, _, rfl, rfl, hO7, ?_⟩
    have := mw_put (J' := V1) (v := cutN l (lN (fg ((goO S.o (k + 1)).wr p) 6))) (s := s) (i := i + k) hM6 (by omega) (by omega) (by rw [← Nat.add_assoc]; exact eV1)
    rw [← hln] at this
    exact this
  · rintro _ _ ⟨I5, J5, rfl, rfl, hO5, hM5⟩
    refine mjT_go 3 (pc' := if nI n ≤ nI n then 116 else 79) (L' := [some (.ref 0), some (.int (nI p)), some (.int (nI n)), some (.int (nI s)), some (.int (nI l)), some (.int (nI i)), some (.int (nI n))]) (st' := []) (w1 := (KM, I5, J5, GM)) rfl ?_
    refine mjT_ifT (Int32.le_refl _) ?_
    refine mjT_go 1 (pc' := 117) (L' := [some (.ref 0), some (.int (nI p)), some (.int (nI n)), some (.int (nI s)), some (.int (nI l)), some (.int (nI i)), some (.int (nI n))]) (st' := [.int (nI n)]) (w1 := (KM, I5, J5, GM)) rfl ?_
    refine mjT_ret rfl rfl rfl ?_
    exact ⟨rfl, _, _, rfl, hM5⟩
theorem sim_film {x y z u v : Int32} : SimO 103 208 [.int x, .int y, .int z, .int u, .int v] := fun S _ _ _ _ hV hC hM => ⟨_, _, vs_film hV, cc_film hV hC, mm_film hV hM⟩
end TW
