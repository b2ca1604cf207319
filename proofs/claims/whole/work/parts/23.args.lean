/-! what is asked of arguments -/
def iR (x : Int32) (a b : Nat) : Nat := if nI a ≤ x ∧ x ≤ nI b then 1 else 0
def iP (x : Int32) (n : Nat) : Nat := if 0 ≤ x ∧ x < nI n then 1 else 0
theorem iR_lt (x : Int32) (a b : Nat) : iR x a b < 2 := by unfold iR; split <;> omega
theorem iP_lt (x : Int32) (n : Nat) : iP x n < 2 := by unfold iP; split <;> omega
theorem i32_nlt {x y : Int32} : ¬ x < y ↔ y ≤ x := by rw [Int32.lt_iff_toInt_lt, Int32.le_iff_toInt_le]; omega
theorem i32_nle {x y : Int32} : ¬ x ≤ y ↔ y < x := by rw [Int32.lt_iff_toInt_lt, Int32.le_iff_toInt_le]; omega
theorem i64_nlt {x y : Int64} : ¬ x < y ↔ y ≤ x := by rw [Int64.lt_iff_toInt_lt, Int64.le_iff_toInt_le]; omega
theorem iR_1 {x : Int32} {a b : Nat} (h : iR x a b = 1) (ha : a < 2 ^ 31) (hb : b < 2 ^ 31) : ∃ k, a ≤ k ∧ k ≤ b ∧ x = nI k := by
  by_cases q : nI a ≤ x ∧ x ≤ nI b
  · have h0 : ¬ x < 0 := by
      have := nI_pos ha
      rw [Int32.lt_iff_toInt_lt] at this ⊢
      have h1 := q.1
      rw [Int32.le_iff_toInt_le] at h1
      omega
    obtain ⟨k, hk, rfl⟩ := nI_of h0
    exact ⟨k, (nI_leI ha hk).mp q.1, (nI_leI hk hb).mp q.2, rfl⟩
  · unfold iR at h; rw [if_neg q] at h; omega
theorem iP_1 {x : Int32} {n : Nat} (h : iP x n = 1) (hn : n < 2 ^ 31) : ∃ k, k < n ∧ x = nI k := by
  by_cases q : 0 ≤ x ∧ x < nI n
  · obtain ⟨k, hk, rfl⟩ := nI_of (i32_nlt.mpr q.1)
    exact ⟨k, (nI_ltI hk hn).mp q.2, rfl⟩
  · unfold iP at h; rw [if_neg q] at h; omega
theorem iR_N {k a b : Nat} (hk : k < 2 ^ 31) (ha : a < 2 ^ 31) (hb : b < 2 ^ 31) : iR (nI k) a b = if a ≤ k ∧ k ≤ b then 1 else 0 := by
  unfold iR
  by_cases h : a ≤ k ∧ k ≤ b
  · rw [if_pos h, if_pos ⟨(nI_leI ha hk).mpr h.1, (nI_leI hk hb).mpr h.2⟩]
  · rw [if_neg h, if_neg (fun q => h ⟨(nI_leI ha hk).mp q.1, (nI_leI hk hb).mp q.2⟩)]
theorem l_leN {x : Int32} {a : Nat} (ha : a < 2 ^ 31) : lN a ≤ x.toInt64 ↔ nI a ≤ x := by
  rw [Int64.le_iff_toInt_le, Int32.le_iff_toInt_le, Int32.toInt_toInt64, lN_toInt ha, nI_toInt ha]
theorem l_Nle {x : Int32} {a : Nat} (ha : a < 2 ^ 31) : x.toInt64 ≤ lN a ↔ x ≤ nI a := by
  rw [Int64.le_iff_toInt_le, Int32.le_iff_toInt_le, Int32.toInt_toInt64, lN_toInt ha, nI_toInt ha]
/-- six figures of a number -/
def dig (m k : Nat) : Nat := m / 10 ^ (5 - k) % 10
def okD (m : Nat) : Nat → Nat
  | 0 => 1
  | k + 1 => if dig m k < 8 then okD m k else 0
theorem okD_lt (m : Nat) : ∀ k, okD m k < 2
  | 0 => Nat.one_lt_two
  | k + 1 => by have := okD_lt m k; unfold okD; split <;> omega
theorem okD_1 {m : Nat} : ∀ {k : Nat}, okD m k = 1 ↔ ∀ j, j < k → dig m j < 8
  | 0 => ⟨fun _ _ h => absurd h (by omega), fun _ => rfl⟩
  | k + 1 => by
    unfold okD
    by_cases h : dig m k < 8
    · rw [if_pos h, okD_1]
      constructor
      · intro q j hj
        by_cases e : j = k
        · subst e; exact h
        · exact q j (by omega)
      · intro q j hj; exact q j (by omega)
    · rw [if_neg h]
      constructor
      · intro q; omega
      · intro q; exact absurd (q k (by omega)) h
theorem fg_dig {m : Nat} (hm : m < 1000000) : fg (dig m) 6 = m := by
  simp only [fg, dig, Nat.reduceSub, Nat.reducePow]; omega
theorem fg_inj {d e : Nat → Nat} (hd : dgo d) (he : dgo e) : fg d 6 = fg e 6 ↔ rw6 d = rw6 e := by
  obtain ⟨h0, h1, h2, h3, h4, h5⟩ := dgo_all hd
  obtain ⟨g0, g1, g2, g3, g4, g5⟩ := dgo_all he
  simp only [fg, rw6]; omega
theorem nI_m1 (d : Nat) : nI (d + 1) + (-1) = nI d := by
  rw [nI_succ, Int32.add_assoc, show (1 : Int32) + -1 = 0 by decide, Int32.add_zero]
theorem nI_or (a b : Nat) : nI a ||| nI b = nI (a ||| b) := by
  apply Int32.toBitVec_inj.mp
  rw [Int32.toBitVec_or]
  exact BitVec.ofNat_or.symm
/-- the lower strokes as a number -/
def lowN (m : Nat) : Nat → Nat
  | 0 => 0
  | i + 1 => lowN m i + dig m (5 - i) * 8 ^ i
theorem lowN_lt {m i : Nat} (h : ∀ j, j < i → dig m (5 - j) < 8) : lowN m i < 8 ^ i := by
  induction i with
  | zero => exact Nat.one_pos
  | succ i ih =>
    have h1 := ih (fun j hj => h j (by omega))
    have h2 := h i (by omega)
    have h3 : dig m (5 - i) * 8 ^ i ≤ 7 * 8 ^ i := Nat.mul_le_mul_right _ (by omega)
    rw [Nat.pow_succ]; unfold lowN; omega
theorem low_rw (m : Nat) : lowN m 6 = rw6 (dig m) := by
  simp only [lowN, rw6, Nat.reducePow, Nat.reduceSub]; omega
section A1
variable {I : Nat → Nat → Int32} {J : Nat → Nat → Int64} {K : List (Nat × Nat)} {G : Nat → Nat → Option Nat} {O : Off}
theorem m_in {v a b : Int64} : mj_Ev 129 [.long v, .long a, .long b] (K, I, J, G) (K, I, J, G) (some (.int (nI (if a ≤ v ∧ v ≤ b then 1 else 0)))) := by
  refine mj_ev_of ?_
  refine mjT_go 4 (pc' := if lg_cmp v a < 0 then 17 else 6) (L' := [some (.long v), none, some (.long a), none, some (.long b), none]) (st' := []) (w1 := (K, I, J, G)) rfl ?_
  refine mjT_if (fun h1 => ?_) (fun h1 => ?_)
  · rw [lg_cmp_lt] at h1
    rw [if_neg (fun q => i64_nlt.mpr q.1 h1)]
    refine mjT_go 1 (pc' := 18) (L' := [some (.long v), none, some (.long a), none, some (.long b), none]) (st' := [.int (nI 0)]) (w1 := (K, I, J, G)) rfl ?_
    refine mjT_retb rfl rfl (by decide) ?_
    exact ⟨rfl, rfl⟩
  · rw [lg_cmp_lt, i64_nlt] at h1
    refine mjT_go 4 (pc' := if 0 < lg_cmp v b then 17 else 13) (L' := [some (.long v), none, some (.long a), none, some (.long b), none]) (st' := []) (w1 := (K, I, J, G)) rfl ?_
    refine mjT_if (fun h2 => ?_) (fun h2 => ?_)
    · rw [lg_cmp_gt] at h2
      rw [if_neg (fun q => i64_nlt.mpr q.2 h2)]
      refine mjT_go 1 (pc' := 18) (L' := [some (.long v), none, some (.long a), none, some (.long b), none]) (st' := [.int (nI 0)]) (w1 := (K, I, J, G)) rfl ?_
      refine mjT_retb rfl rfl (by decide) ?_
      exact ⟨rfl, rfl⟩
    · rw [lg_cmp_gt, i64_nlt] at h2
      rw [if_pos ⟨h1, h2⟩]
      refine mjT_go 2 (pc' := 18) (L' := [some (.long v), none, some (.long a), none, some (.long b), none]) (st' := [.int (nI 1)]) (w1 := (K, I, J, G)) rfl ?_
      refine mjT_retb rfl rfl (by decide) ?_
      exact ⟨rfl, rfl⟩
theorem m_inR {x : Int32} {a b : Nat} (ha : a < 2 ^ 31) (hb : b < 2 ^ 31) : mj_Ev 129 [.long x.toInt64, .long (lN a), .long (lN b)] (K, I, J, G) (K, I, J, G) (some (.int (nI (iR x a b)))) := by
  have h := m_in (I := I) (J := J) (K := K) (G := G) (v := x.toInt64) (a := lN a) (b := lN b)
  unfold iR
  simp only [l_leN ha, l_Nle hb] at h
  exact h
theorem c_within {x : Int32} {a b : Nat} : mj_Ev 108 [.int x, .int (nI a), .int (nI b)] (K, I, J, G) (K, I, J, G) (some (.int (nI (iR x a b)))) := by
  refine mj_ev_of ?_
  unfold iR
  refine mjT_go 3 (pc' := if x < nI a then 14 else 5) (L' := [some (.int x), some (.int (nI a)), some (.int (nI b))]) (st' := []) (w1 := (K, I, J, G)) rfl ?_
  refine mjT_if (fun h1 => ?_) (fun h1 => ?_)
  · rw [if_neg (fun q => i32_nlt.mpr q.1 h1)]
    refine mjT_go 1 (pc' := 15) (L' := [some (.int x), some (.int (nI a)), some (.int (nI b))]) (st' := [.int (nI 0)]) (w1 := (K, I, J, G)) rfl ?_
    refine mjT_retb rfl rfl (by decide) ?_
    exact ⟨rfl, rfl⟩
  · rw [i32_nlt] at h1
    refine mjT_go 3 (pc' := if nI b < x then 14 else 10) (L' := [some (.int x), some (.int (nI a)), some (.int (nI b))]) (st' := []) (w1 := (K, I, J, G)) rfl ?_
    refine mjT_if (fun h2 => ?_) (fun h2 => ?_)
    · rw [if_neg (fun q => i32_nlt.mpr q.2 h2)]
      refine mjT_go 1 (pc' := 15) (L' := [some (.int x), some (.int (nI a)), some (.int (nI b))]) (st' := [.int (nI 0)]) (w1 := (K, I, J, G)) rfl ?_
      refine mjT_retb rfl rfl (by decide) ?_
      exact ⟨rfl, rfl⟩
    · rw [i32_nlt] at h2
      rw [if_pos ⟨h1, h2⟩]
      refine mjT_go 2 (pc' := 15) (L' := [some (.int x), some (.int (nI a)), some (.int (nI b))]) (st' := [.int (nI 1)]) (w1 := (K, I, J, G)) rfl ?_
      refine mjT_retb rfl rfl (by decide) ?_
      exact ⟨rfl, rfl⟩
/-- a truth is handed on -/
theorem mjT_retN {y pc l a b d n : Nat} {k : Int} {w : mjW} {L : mjL} {Q : mjW → Option Value → Prop} (hn : n < 2) (hc : mj_code y pc = some (.ireturn, l, a, b, d, k)) (ht : mj_ret y = some .boolean) (q : Q w (some (.int (nI n)))) : mj_To y pc L [.int (nI n)] w Q := by
  obtain rfl | rfl : n = 0 ∨ n = 1 := by omega
  · exact mjT_retb hc ht (by decide) q
  · exact mjT_retb hc ht (by decide) q
theorem c_isChair {x : Int32} : mj_Ev 109 [.int x] (K, I, J, G) (K, I, J, G) (some (.int (nI (iR x 0 7)))) := by
  refine mj_ev_of ?_
  refine mjT_go 3 (pc' := 4) (L' := [some (.int x)]) (st' := [.int (nI 7), .int (nI 0), .int x]) (w1 := (K, I, J, G)) rfl ?_
  refine mjT_callE (as := [.int x, .int (nI 0), .int (nI 7)]) (rest := []) rfl rfl rfl rfl rfl ⟨rfl, rfl⟩ c_within ?_
  exact mjT_retN (iR_lt _ _ _) rfl rfl ⟨rfl, rfl⟩
theorem c_isPlace {x : Int32} : mj_Ev 110 [.int x] (K, I, J, G) (K, I, J, G) (some (.int (nI (iR x 0 5)))) := by
  refine mj_ev_of ?_
  refine mjT_go 3 (pc' := 3) (L' := [some (.int x)]) (st' := [.int (nI 5), .int (nI 0), .int x]) (w1 := (K, I, J, G)) rfl ?_
  refine mjT_callE (as := [.int x, .int (nI 0), .int (nI 5)]) (rest := []) rfl rfl rfl rfl rfl ⟨rfl, rfl⟩ c_within ?_
  exact mjT_retN (iR_lt _ _ _) rfl rfl ⟨rfl, rfl⟩
theorem c_isForetold {x : Int32} : mj_Ev 111 [.int x] (K, I, J, G) (K, I, J, G) (some (.int (nI (iR x 0 60)))) := by
  refine mj_ev_of ?_
  refine mjT_go 3 (pc' := 4) (L' := [some (.int x)]) (st' := [.int (nI 60), .int (nI 0), .int x]) (w1 := (K, I, J, G)) rfl ?_
  refine mjT_callE (as := [.int x, .int (nI 0), .int (nI 60)]) (rest := []) rfl rfl rfl rfl rfl ⟨rfl, rfl⟩ c_within ?_
  exact mjT_retN (iR_lt _ _ _) rfl rfl ⟨rfl, rfl⟩
theorem c_isSheet {x : Int32} : mj_Ev 112 [.int x] (K, I, J, G) (K, I, J, G) (some (.int (nI (iR x 0 3)))) := by
  refine mj_ev_of ?_
  refine mjT_go 3 (pc' := 3) (L' := [some (.int x)]) (st' := [.int (nI 3), .int (nI 0), .int x]) (w1 := (K, I, J, G)) rfl ?_
  refine mjT_callE (as := [.int x, .int (nI 0), .int (nI 3)]) (rest := []) rfl rfl rfl rfl rfl ⟨rfl, rfl⟩ c_within ?_
  exact mjT_retN (iR_lt _ _ _) rfl rfl ⟨rfl, rfl⟩
theorem c_isLane {x : Int32} : mj_Ev 113 [.int x] (K, I, J, G) (K, I, J, G) (some (.int (nI (iR x 0 3)))) := by
  refine mj_ev_of ?_
  refine mjT_go 3 (pc' := 3) (L' := [some (.int x)]) (st' := [.int (nI 3), .int (nI 0), .int x]) (w1 := (K, I, J, G)) rfl ?_
  refine mjT_callE (as := [.int x, .int (nI 0), .int (nI 3)]) (rest := []) rfl rfl rfl rfl rfl ⟨rfl, rfl⟩ c_within ?_
  exact mjT_retN (iR_lt _ _ _) rfl rfl ⟨rfl, rfl⟩
theorem m_isChair {x : Int32} : mj_Ev 135 [.int x] (K, I, J, G) (K, I, J, G) (some (.int (nI (iR x 0 7)))) := by
  refine mj_ev_of ?_
  refine mjT_go 4 (pc' := 6) (L' := [some (.int x)]) (st' := [.long (lN 7), .long (lN 0), .long x.toInt64]) (w1 := (K, I, J, G)) rfl ?_
  refine mjT_callE (as := [.long x.toInt64, .long (lN 0), .long (lN 7)]) (rest := []) rfl rfl rfl rfl rfl ⟨rfl, rfl⟩ (m_inR (by decide) (by decide)) ?_
  exact mjT_retN (iR_lt _ _ _) rfl rfl ⟨rfl, rfl⟩
theorem m_isLong {x : Int32} : mj_Ev 177 [.int x] (K, I, J, G) (K, I, J, G) (some (.int (nI (iR x 0 60)))) := by
  refine mj_ev_of ?_
  refine mjT_go 4 (pc' := 6) (L' := [some (.int x)]) (st' := [.long (lN 60), .long (lN 0), .long x.toInt64]) (w1 := (K, I, J, G)) rfl ?_
  refine mjT_callE (as := [.long x.toInt64, .long (lN 0), .long (lN 60)]) (rest := []) rfl rfl rfl rfl rfl ⟨rfl, rfl⟩ (m_inR (by decide) (by decide)) ?_
  exact mjT_retN (iR_lt _ _ _) rfl rfl ⟨rfl, rfl⟩
theorem m_isSheet {x : Int32} : mj_Ev 201 [.int x] (K, I, J, G) (K, I, J, G) (some (.int (nI (iR x 0 3)))) := by
  refine mj_ev_of ?_
  refine mjT_go 4 (pc' := 6) (L' := [some (.int x)]) (st' := [.long (lN 3), .long (lN 0), .long x.toInt64]) (w1 := (K, I, J, G)) rfl ?_
  refine mjT_callE (as := [.long x.toInt64, .long (lN 0), .long (lN 3)]) (rest := []) rfl rfl rfl rfl rfl ⟨rfl, rfl⟩ (m_inR (by decide) (by decide)) ?_
  exact mjT_retN (iR_lt _ _ _) rfl rfl ⟨rfl, rfl⟩
end A1
