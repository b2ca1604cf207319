/-! lasted -/
def inL (v : Int64) (b : Nat) : Nat := if lN 0 ≤ v ∧ v ≤ lN b then 1 else 0
def papL (v : Int64) : Nat := if lN 0 ≤ v ∧ v ≤ lN 777777 then okD (nn v.toInt32) 6 else 0
theorem lN_of {v : Int64} {b : Nat} (hb : b < 2 ^ 31) (h : lN 0 ≤ v ∧ v ≤ lN b) : ∃ t, t ≤ b ∧ v = lN t := by
  obtain ⟨t, ht, rfl⟩ := pk_lOf (x := v) (fun q => i64_nlt.mpr h.1 q)
  exact ⟨t, (pk_lLE ht (by omega)).mp h.2, rfl⟩
theorem inL_lt (v : Int64) (b : Nat) : inL v b < 2 := by unfold inL; split <;> omega
theorem papL_lt (v : Int64) : papL v < 2 := by
  unfold papL
  split
  · exact okD_lt _ _
  · omega
def arP (S : Sta) (s i : Nat) : Nat → Nat
  | 0 => 1
  | k + 1 => if inL (S.it s (i + 2 * k)) 60 = 1 ∧ papL (S.it s (i + 2 * k + 1)) = 1 then arP S s i k else 0
theorem arP_lt (S : Sta) (s i : Nat) : ∀ k, arP S s i k < 2
  | 0 => Nat.one_lt_two
  | k + 1 => by have := arP_lt S s i k; unfold arP; split <;> omega
theorem arP_all {S : Sta} {s i : Nat} : ∀ {n}, arP S s i n = 1 → ∀ k, k < n → inL (S.it s (i + 2 * k)) 60 = 1 ∧ papL (S.it s (i + 2 * k + 1)) = 1
  | 0, _, k, hk => absurd hk (by omega)
  | n + 1, h, k, hk => by
    unfold arP at h
    by_cases e : inL (S.it s (i + 2 * n)) 60 = 1 ∧ papL (S.it s (i + 2 * n + 1)) = 1
    · rw [if_pos e] at h
      by_cases ek : k = n
      · rw [ek]; exact e
      · exact arP_all h k (by omega)
    · rw [if_neg e] at h; exact absurd h (by omega)
theorem arP_0 {S : Sta} {s i k : Nat} (h : ¬ (inL (S.it s (i + 2 * k)) 60 = 1 ∧ papL (S.it s (i + 2 * k + 1)) = 1)) : ∀ {n}, k < n → arP S s i n = 0
  | 0, hk => absurd hk (by omega)
  | n + 1, hk => by
    by_cases e : k = n
    · subst e; exact if_neg h
    · unfold arP
      rw [arP_0 h (n := n) (by omega), ite_self]
/-- day and paper of the k-th -/
def ttN (S : Sta) (s i k : Nat) : Nat := nn (S.it s (i + 2 * k)).toInt32
def mmN (S : Sta) (s i k : Nat) : Nat := nn (S.it s (i + 2 * k + 1)).toInt32
theorem ar_k {S : Sta} {s i n k : Nat} (h : arP S s i n = 1) (hk : k < n) : ttN S s i k ≤ 60 ∧ mmN S s i k ≤ 777777 ∧ okD (mmN S s i k) 6 = 1 ∧ S.it s (i + 2 * k) = lN (ttN S s i k) ∧ S.it s (i + 2 * k + 1) = lN (mmN S s i k) := by
  obtain ⟨h1, h2⟩ := arP_all h k hk
  unfold inL at h1
  unfold papL at h2
  unfold ttN mmN
  by_cases q1 : lN 0 ≤ S.it s (i + 2 * k) ∧ S.it s (i + 2 * k) ≤ lN 60
  · by_cases q2 : lN 0 ≤ S.it s (i + 2 * k + 1) ∧ S.it s (i + 2 * k + 1) ≤ lN 777777
    · rw [if_pos q2] at h2
      obtain ⟨t, ht, et⟩ := lN_of (by omega) q1
      obtain ⟨m, hm, em⟩ := lN_of (by omega) q2
      rw [et, em, lN_i, lN_i, nn_N (by omega), nn_N (by omega)]
      rw [em, lN_i, nn_N (by omega)] at h2
      exact ⟨ht, hm, h2, rfl, rfl⟩
    · rw [if_neg q2] at h2; exact absurd h2 (by omega)
  · rw [if_neg q1] at h1; exact absurd h1 (by omega)
def matN (O : Off) (S : Sta) (s i p k : Nat) : Nat := eqB (rw6 ((goO O (ttN S s i k)).wr p)) (rw6 (dig (mmN S s i k)))
def lsoN (g : Nat → Nat) : Nat → Nat
  | 0 => 1
  | k + 1 => if g k = 1 then lsoN g k else 0
theorem lso_lt (g : Nat → Nat) : ∀ k, lsoN g k < 2
  | 0 => Nat.one_lt_two
  | k + 1 => by have := lso_lt g k; unfold lsoN; split <;> omega
theorem lso_1 {g : Nat → Nat} : ∀ {k}, lsoN g k = 1 ↔ ∀ j, j < k → g j = 1
  | 0 => ⟨fun _ _ h => absurd h (by omega), fun _ => rfl⟩
  | k + 1 => by
    unfold lsoN
    by_cases h : g k = 1
    · rw [if_pos h, lso_1]
      constructor
      · intro q j hj
        by_cases e : j = k
        · rw [e]; exact h
        · exact q j (by omega)
      · intro q j hj; exact q j (by omega)
    · rw [if_neg h]
      exact ⟨fun q => absurd q (by omega), fun q => absurd (q k (by omega)) h⟩
section LA
variable {I I' : Nat → Nat → Int32} {J : Nat → Nat → Int64} {K : List (Nat × Nat)} {G : Nat → Nat → Option Nat} {S : Sta} {o : Nat} {O : Off} {P : Nat → Prop}
theorem m_isPaperL {v : Int64} : mj_Ev 137 [.long v] (K, I, J, G) (K, I, J, G) (some (.int (nI (papL v)))) := by
  unfold papL
  by_cases h : lN 0 ≤ v ∧ v ≤ lN 777777
  · rw [if_pos h]
    obtain ⟨m, hm, rfl⟩ := lN_of (by omega) h
    rw [lN_i, nn_N (by omega)]
    exact m_isPaper_in hm
  · rw [if_neg h]; exact m_isPaper_out h
theorem c_arePapers (hV : VS S) (hC : CW I J S) {s i n m : Nat} (hs : s < 4) (hz : S.sz s = m + 1) (hi : i + 2 * n ≤ m) (hn8 : n ≤ 8) : mj_Ev 126 [.ref 0, .int (nI s), .int (nI i), .int (nI n)] (KC, I, J, GC) (KC, I, J, GC) (some (.int (nI (arP S s i n)))) := by
  refine mj_ev_of ?_
  have hzz := hV.sz s hs
  refine mjT_go 2 (pc' := 3) (L' := [some (.ref 0), some (.int (nI s)), some (.int (nI i)), some (.int (nI n)), some (.int (nI 0)), none, none, none, none]) (st' := []) (w1 := (KC, I, J, GC)) rfl ?_
  refine mj_loop (fun k L w => ∃ d e : Option Value, L = [some (.ref 0), some (.int (nI s)), some (.int (nI i)), some (.int (nI n)), some (.int (nI k)), d, none, e, none] ∧ w = (KC, I, J, GC) ∧ arP S s i k = 1) n (k0 := 0) (Nat.zero_le _) ?_ ?_ ?_
  · exact ⟨_, _, rfl, rfl, rfl⟩
  · rintro k _ _ hk ⟨d, e, rfl, rfl, hb⟩ hc
    have hik : i + 2 * k < m := by omega
    have hik1 : i + 2 * k + 1 < m := by omega
    have bad : ¬ (inL (S.it s (i + 2 * k)) 60 = 1 ∧ papL (S.it s (i + 2 * k + 1)) = 1) → arP S s i n = 0 := fun h => arP_0 h hk
    have good : inL (S.it s (i + 2 * k)) 60 = 1 ∧ papL (S.it s (i + 2 * k + 1)) = 1 → arP S s i (k + 1) = 1 := fun h => by unfold arP; rw [if_pos h]; exact hb
    have v1 := c_valueAt hV hC hs hz hik
    have v2 := c_valueAt hV hC hs hz hik1
    unfold inL papL at bad good
    generalize S.it s (i + 2 * k) = D at *
    generalize S.it s (i + 2 * k + 1) = E at *
    refine mjT_go 3 (pc' := if nI n ≤ nI k then 92 else 9) (L' := [some (.ref 0), some (.int (nI s)), some (.int (nI i)), some (.int (nI n)), some (.int (nI k)), d, none, e, none]) (st' := []) (w1 := (KC, I, J, GC)) rfl ?_
    refine mjT_ifF (nI_ge (by omega) (by omega)) ?_
    refine mjT_go 8 (pc' := 20) (L' := [some (.ref 0), some (.int (nI s)), some (.int (nI i)), some (.int (nI n)), some (.int (nI k)), d, none, e, none]) (st' := [.int ((nI i) + ((nI 2) * (nI k))), .int (nI s), .ref 88]) (w1 := (KC, I, J, GC)) rfl ?_
    rw [pk_mul, nI_add]
    refine mjT_callE (as := [.ref 88, .int (nI s), .int (nI (i + 2 * k))]) (rest := []) (r1 := some (.long D)) rfl rfl rfl rfl rfl ⟨rfl, rfl⟩ v1 ?_
    refine mjT_go 11 (pc' := 38) (L' := [some (.ref 0), some (.int (nI s)), some (.int (nI i)), some (.int (nI n)), some (.int (nI k)), some (.long D), none, e, none]) (st' := [.int (((nI i) + ((nI 2) * (nI k))) + (nI 1)), .int (nI s), .ref 88]) (w1 := (KC, I, J, GC)) rfl ?_
    rw [pk_mul, nI_add, nI_add]
    refine mjT_callE (as := [.ref 88, .int (nI s), .int (nI (i + 2 * k + 1))]) (rest := []) (r1 := some (.long E)) rfl rfl rfl rfl rfl ⟨rfl, rfl⟩ v2 ?_
    refine mjT_go 5 (pc' := if lg_cmp D (lN 0) < 0 then 84 else 50) (L' := [some (.ref 0), some (.int (nI s)), some (.int (nI i)), some (.int (nI n)), some (.int (nI k)), some (.long D), none, some (.long E), none]) (st' := []) (w1 := (KC, I, J, GC)) rfl ?_
    refine mjT_if (fun h1 => ?_) (fun h1 => ?_)
    · rw [lg_cmp_lt] at h1
      refine mjT_go 1 (pc' := 85) (L' := [some (.ref 0), some (.int (nI s)), some (.int (nI i)), some (.int (nI n)), some (.int (nI k)), some (.long D), none, some (.long E), none]) (st' := [.int (nI 0)]) (w1 := (KC, I, J, GC)) rfl ?_
      refine mjT_retb rfl rfl (by decide) ?_
      exact ⟨rfl, by rw [bad (fun q => by rw [if_neg (fun z => i64_nlt.mpr z.1 h1)] at q; exact absurd q.1 (by omega))]⟩
    rw [lg_cmp_lt, i64_nlt] at h1
    refine mjT_go 4 (pc' := if 0 < lg_cmp D (lN 60) then 84 else 59) (L' := [some (.ref 0), some (.int (nI s)), some (.int (nI i)), some (.int (nI n)), some (.int (nI k)), some (.long D), none, some (.long E), none]) (st' := []) (w1 := (KC, I, J, GC)) rfl ?_
    refine mjT_if (fun h2 => ?_) (fun h2 => ?_)
    · rw [lg_cmp_gt] at h2
      refine mjT_go 1 (pc' := 85) (L' := [some (.ref 0), some (.int (nI s)), some (.int (nI i)), some (.int (nI n)), some (.int (nI k)), some (.long D), none, some (.long E), none]) (st' := [.int (nI 0)]) (w1 := (KC, I, J, GC)) rfl ?_
      refine mjT_retb rfl rfl (by decide) ?_
      exact ⟨rfl, by rw [bad (fun q => by rw [if_neg (fun z => i64_nlt.mpr z.2 h2)] at q; exact absurd q.1 (by omega))]⟩
    rw [lg_cmp_gt, i64_nlt] at h2
    refine mjT_go 4 (pc' := if lg_cmp E (lN 0) < 0 then 84 else 66) (L' := [some (.ref 0), some (.int (nI s)), some (.int (nI i)), some (.int (nI n)), some (.int (nI k)), some (.long D), none, some (.long E), none]) (st' := []) (w1 := (KC, I, J, GC)) rfl ?_
    refine mjT_if (fun h3 => ?_) (fun h3 => ?_)
    · rw [lg_cmp_lt] at h3
      refine mjT_go 1 (pc' := 85) (L' := [some (.ref 0), some (.int (nI s)), some (.int (nI i)), some (.int (nI n)), some (.int (nI k)), some (.long D), none, some (.long E), none]) (st' := [.int (nI 0)]) (w1 := (KC, I, J, GC)) rfl ?_
      refine mjT_retb rfl rfl (by decide) ?_
      exact ⟨rfl, by rw [bad (fun q => by
        have q2 := q.2
        rw [if_neg (fun z => i64_nlt.mpr z.1 h3)] at q2; exact absurd q2 (by omega))]⟩
    rw [lg_cmp_lt, i64_nlt] at h3
    refine mjT_go 4 (pc' := if 0 < lg_cmp E (lN 777777) then 84 else 75) (L' := [some (.ref 0), some (.int (nI s)), some (.int (nI i)), some (.int (nI n)), some (.int (nI k)), some (.long D), none, some (.long E), none]) (st' := []) (w1 := (KC, I, J, GC)) rfl ?_
    refine mjT_if (fun h4 => ?_) (fun h4 => ?_)
    · rw [lg_cmp_gt] at h4
      refine mjT_go 1 (pc' := 85) (L' := [some (.ref 0), some (.int (nI s)), some (.int (nI i)), some (.int (nI n)), some (.int (nI k)), some (.long D), none, some (.long E), none]) (st' := [.int (nI 0)]) (w1 := (KC, I, J, GC)) rfl ?_
      refine mjT_retb rfl rfl (by decide) ?_
      exact ⟨rfl, by rw [bad (fun q => by
        have q2 := q.2
        rw [if_neg (fun z => i64_nlt.mpr z.2 h4)] at q2; exact absurd q2 (by omega))]⟩
    rw [lg_cmp_gt, i64_nlt] at h4
    rw [if_pos ⟨h1, h2⟩, if_pos ⟨h3, h4⟩] at bad good
    obtain ⟨t, ht, rfl⟩ := lN_of (by omega) (And.intro h1 h2)
    obtain ⟨mm, hmm, rfl⟩ := lN_of (by omega) (And.intro h3 h4)
    rw [lN_i, nn_N (by omega)] at bad good
    have hok := okD_lt mm 6
    refine mjT_go 1 (pc' := 77) (L' := [some (.ref 0), some (.int (nI s)), some (.int (nI i)), some (.int (nI n)), some (.int (nI k)), some (.long (lN t)), none, some (.long (lN mm)), none]) (st' := [.long (lN mm)]) (w1 := (KC, I, J, GC)) rfl ?_
    refine mjT_go 1 (pc' := 78) (L' := [some (.ref 0), some (.int (nI s)), some (.int (nI i)), some (.int (nI n)), some (.int (nI k)), some (.long (lN t)), none, some (.long (lN mm)), none]) (st' := [.int ((lN mm).toInt32)]) (w1 := (KC, I, J, GC)) rfl ?_
    rw [lN_i]
    refine mjT_callE (as := [.int (nI mm)]) (rest := []) (r1 := some (.int (if okD mm 6 = 1 then nI (rw6 (dig mm)) else -1))) rfl rfl rfl rfl rfl ⟨rfl, rfl⟩ (c_packed hmm) ?_
    by_cases hq : okD mm 6 = 1
    · have hrl := rw6_lt (fun k hk => okD_1.mp hq k hk : dgo (dig mm))
      rw [if_pos hq]
      refine mjT_go 1 (pc' := if 0 ≤ nI (rw6 (dig mm)) then 86 else 84) (L' := [some (.ref 0), some (.int (nI s)), some (.int (nI i)), some (.int (nI n)), some (.int (nI k)), some (.long (lN t)), none, some (.long (lN mm)), none]) (st' := []) (w1 := (KC, I, J, GC)) rfl ?_
      refine mjT_ifT (nI_pos' (by omega)) ?_
      refine mjT_go 2 (pc' := 3) (L' := [some (.ref 0), some (.int (nI s)), some (.int (nI i)), some (.int (nI n)), some (.int ((nI k) + (nI 1))), some (.long (lN t)), none, some (.long (lN mm)), none]) (st' := []) (w1 := (KC, I, J, GC)) rfl ?_
      rw [nI_add]
      exact hc _ _ ⟨_, _, rfl, rfl, good ⟨rfl, hq⟩⟩
    · rw [if_neg hq]
      refine mjT_go 1 (pc' := if 0 ≤ (-1) then 86 else 84) (L' := [some (.ref 0), some (.int (nI s)), some (.int (nI i)), some (.int (nI n)), some (.int (nI k)), some (.long (lN t)), none, some (.long (lN mm)), none]) (st' := []) (w1 := (KC, I, J, GC)) rfl ?_
      refine mjT_ifF (by decide) ?_
      refine mjT_go 1 (pc' := 85) (L' := [some (.ref 0), some (.int (nI s)), some (.int (nI i)), some (.int (nI n)), some (.int (nI k)), some (.long (lN t)), none, some (.long (lN mm)), none]) (st' := [.int (nI 0)]) (w1 := (KC, I, J, GC)) rfl ?_
      refine mjT_retb rfl rfl (by decide) ?_
      exact ⟨rfl, by rw [bad (fun q => hq q.2)]⟩
  · rintro _ _ ⟨d, e, rfl, rfl, hb⟩
    refine mjT_go 3 (pc' := if nI n ≤ nI n then 92 else 9) (L' := [some (.ref 0), some (.int (nI s)), some (.int (nI i)), some (.int (nI n)), some (.int (nI n)), d, none, e, none]) (st' := []) (w1 := (KC, I, J, GC)) rfl ?_
    refine mjT_ifT (Int32.le_refl _) ?_
    refine mjT_go 1 (pc' := 93) (L' := [some (.ref 0), some (.int (nI s)), some (.int (nI i)), some (.int (nI n)), some (.int (nI n)), d, none, e, none]) (st' := [.int (nI 1)]) (w1 := (KC, I, J, GC)) rfl ?_
    refine mjT_retb rfl rfl (by decide) ?_
    exact ⟨rfl, by rw [hb]⟩
theorem m_inL {v : Int64} {b : Nat} : mj_Ev 129 [.long v, .long (lN 0), .long (lN b)] (K, I, J, G) (K, I, J, G) (some (.int (nI (inL v b)))) := m_in
theorem m_arePapers (hM : MW I J S) {s i n m : Nat} (hs : s < 4) (hm : m ≤ 24) (hi : i + 2 * n ≤ m) (hn8 : n ≤ 8) : mj_Ev 205 [.ref 0, .int (nI s), .int (nI i), .int (nI n)] (KM, I, J, GM) (KM, I, J, GM) (some (.int (nI (arP S s i n)))) := by
  refine mj_ev_of ?_
  refine mjT_go 4 (pc' := 6) (L' := [some (.ref 0), some (.int (nI s)), some (.int (nI i)), some (.int (nI n)), some (.int (nI 1)), some (.int (nI 0))]) (st' := []) (w1 := (KM, I, J, GM)) rfl ?_
  refine mj_loop (fun k L w => L = [some (.ref 0), some (.int (nI s)), some (.int (nI i)), some (.int (nI n)), some (.int (nI (arP S s i k))), some (.int (nI k))] ∧ w = (KM, I, J, GM)) n (k0 := 0) (Nat.zero_le _) ?_ ?_ ?_
  · exact ⟨rfl, rfl⟩
  · rintro k _ _ hk ⟨rfl, rfl⟩ hc
    have ha := arP_lt S s i k
    have hb1 := inL_lt (S.it s (i + 2 * k)) 60
    have hb2 := papL_lt (S.it s (i + 2 * k + 1))
    have e0 : ∀ b, b = arP S s i (k + 1) → nI b = nI (arP S s i (k + 1)) := fun b h => by rw [h]
    refine mjT_go 3 (pc' := if nI n ≤ nI k then 80 else 12) (L' := [some (.ref 0), some (.int (nI s)), some (.int (nI i)), some (.int (nI n)), some (.int (nI (arP S s i k))), some (.int (nI k))]) (st' := []) (w1 := (KM, I, J, GM)) rfl ?_
    refine mjT_ifF (nI_ge (by omega) (by omega)) ?_
    refine mjT_go 2 (pc' := if nI (arP S s i k) = 0 then 71 else 17) (L' := [some (.ref 0), some (.int (nI s)), some (.int (nI i)), some (.int (nI n)), some (.int (nI (arP S s i k))), some (.int (nI k))]) (st' := []) (w1 := (KM, I, J, GM)) rfl ?_
    refine mjT_if_eq (u := arP S s i k) (v := 0) rfl nI_0.symm (by omega) (by omega) (fun h1 => ?_) (fun h1 => ?_)
    · refine mjT_go 4 (pc' := 6) (L' := [some (.ref 0), some (.int (nI s)), some (.int (nI i)), some (.int (nI n)), some (.int (nI 0)), some (.int ((nI k) + (nI 1)))]) (st' := []) (w1 := (KM, I, J, GM)) rfl ?_
      rw [nI_add, e0 0 (by unfold arP; rw [h1, ite_self])]
      exact hc _ _ ⟨rfl, rfl⟩
    refine mjT_go 11 (pc' := 32) (L' := [some (.ref 0), some (.int (nI s)), some (.int (nI i)), some (.int (nI n)), some (.int (nI (arP S s i k))), some (.int (nI k))]) (st' := [.int ((((nI 24) * (nI s)) + (nI i)) + ((nI 2) * (nI k))), .ref 5]) (w1 := (KM, I, J, GM)) rfl ?_
    refine mjT_lal (v := S.it s (i + 2 * k)) (((24 * s) + i) + (2 * k)) 96 rfl (pc' := 33) rfl rfl (by simp only [nI_add, pk_mul]) (by omega) (by omega) (mo_at (show J 5 (24 * s + i + 2 * k) = S.it s (i + 2 * k) from (mo_at (hM.it s hs (i + 2 * k) (by omega)) rfl (by omega))) (by omega) (by omega)) ?_
    refine mjT_go 2 (pc' := 37) (L' := [some (.ref 0), some (.int (nI s)), some (.int (nI i)), some (.int (nI n)), some (.int (nI (arP S s i k))), some (.int (nI k))]) (st' := [.long (lN 60), .long (lN 0), .long (S.it s (i + 2 * k))]) (w1 := (KM, I, J, GM)) rfl ?_
    refine mjT_callE (as := [.long (S.it s (i + 2 * k)), .long (lN 0), .long (lN 60)]) (rest := []) (r1 := some (.int (nI (inL (S.it s (i + 2 * k)) 60)))) rfl rfl rfl rfl rfl ⟨rfl, rfl⟩ m_inL ?_
    refine mjT_go 1 (pc' := if nI (inL (S.it s (i + 2 * k)) 60) = 0 then 71 else 43) (L' := [some (.ref 0), some (.int (nI s)), some (.int (nI i)), some (.int (nI n)), some (.int (nI (arP S s i k))), some (.int (nI k))]) (st' := []) (w1 := (KM, I, J, GM)) rfl ?_
    refine mjT_if_eq (u := inL (S.it s (i + 2 * k)) 60) (v := 0) rfl nI_0.symm (by omega) (by omega) (fun h2 => ?_) (fun h2 => ?_)
    · refine mjT_go 4 (pc' := 6) (L' := [some (.ref 0), some (.int (nI s)), some (.int (nI i)), some (.int (nI n)), some (.int (nI 0)), some (.int ((nI k) + (nI 1)))]) (st' := []) (w1 := (KM, I, J, GM)) rfl ?_
      rw [nI_add, e0 0 (by unfold arP; rw [if_neg (by omega)])]
      exact hc _ _ ⟨rfl, rfl⟩
    refine mjT_go 13 (pc' := 60) (L' := [some (.ref 0), some (.int (nI s)), some (.int (nI i)), some (.int (nI n)), some (.int (nI (arP S s i k))), some (.int (nI k))]) (st' := [.int (((((nI 24) * (nI s)) + (nI i)) + ((nI 2) * (nI k))) + (nI 1)), .ref 5]) (w1 := (KM, I, J, GM)) rfl ?_
    refine mjT_lal (v := S.it s (i + 2 * k + 1)) ((((24 * s) + i) + (2 * k)) + 1) 96 rfl (pc' := 61) rfl rfl (by simp only [nI_add, pk_mul]) (by omega) (by omega) (mo_at (show J 5 (24 * s + i + 2 * k + 1) = S.it s (i + 2 * k + 1) from (mo_at (hM.it s hs (i + 2 * k + 1) (by omega)) rfl (by omega))) (by omega) (by omega)) ?_
    refine mjT_callE (as := [.long (S.it s (i + 2 * k + 1))]) (rest := []) (r1 := some (.int (nI (papL (S.it s (i + 2 * k + 1)))))) rfl rfl rfl rfl rfl ⟨rfl, rfl⟩ m_isPaperL ?_
    refine mjT_go 1 (pc' := if nI (papL (S.it s (i + 2 * k + 1))) = 0 then 71 else 67) (L' := [some (.ref 0), some (.int (nI s)), some (.int (nI i)), some (.int (nI n)), some (.int (nI (arP S s i k))), some (.int (nI k))]) (st' := []) (w1 := (KM, I, J, GM)) rfl ?_
    refine mjT_if_eq (u := papL (S.it s (i + 2 * k + 1))) (v := 0) rfl nI_0.symm (by omega) (by omega) (fun h3 => ?_) (fun h3 => ?_)
    · refine mjT_go 4 (pc' := 6) (L' := [some (.ref 0), some (.int (nI s)), some (.int (nI i)), some (.int (nI n)), some (.int (nI 0)), some (.int ((nI k) + (nI 1)))]) (st' := []) (w1 := (KM, I, J, GM)) rfl ?_
      rw [nI_add, e0 0 (by unfold arP; rw [if_neg (by omega)])]
      exact hc _ _ ⟨rfl, rfl⟩
    refine mjT_go 5 (pc' := 6) (L' := [some (.ref 0), some (.int (nI s)), some (.int (nI i)), some (.int (nI n)), some (.int (nI 1)), some (.int ((nI k) + (nI 1)))]) (st' := []) (w1 := (KM, I, J, GM)) rfl ?_
    rw [nI_add, e0 1 (by unfold arP; rw [if_pos (by omega)]; omega)]
    exact hc _ _ ⟨rfl, rfl⟩
  · rintro _ _ ⟨rfl, rfl⟩
    have ha := arP_lt S s i n
    refine mjT_go 3 (pc' := if nI n ≤ nI n then 80 else 12) (L' := [some (.ref 0), some (.int (nI s)), some (.int (nI i)), some (.int (nI n)), some (.int (nI (arP S s i n))), some (.int (nI n))]) (st' := []) (w1 := (KM, I, J, GM)) rfl ?_
    refine mjT_ifT (Int32.le_refl _) ?_
    refine mjT_go 1 (pc' := 82) (L' := [some (.ref 0), some (.int (nI s)), some (.int (nI i)), some (.int (nI n)), some (.int (nI (arP S s i n))), some (.int (nI n))]) (st' := [.int (nI (arP S s i n))]) (w1 := (KM, I, J, GM)) rfl ?_
    refine mjT_retN ha rfl rfl ?_
    exact ⟨rfl, rfl⟩
theorem c_areOnTrail (hV : VS S) (hC : CW I J S) {s i n m p : Nat} (hs : s < 4) (hz : S.sz s = m + 1) (hi : i + 2 * n ≤ m) (hn8 : n ≤ 8) (hA : arP S s i n = 1) (hVO : VO O) (hp : p < O.n) (hd : O.day ≤ 9999) (hI : ∀ j, j ≤ 60 → I 96 j = nI (rw6 ((goO O j).wr p))) : mj_Ev 127 [.ref 0, .int (nI s), .int (nI i), .int (nI n)] (KC, I, J, GC) (KC, I, J, GC) (some (.int (nI (lsoN (matN O S s i p) n)))) := by
  refine mj_ev_of ?_
  have hzz := hV.sz s hs
  refine mjT_go 2 (pc' := 3) (L' := [some (.ref 0), some (.int (nI s)), some (.int (nI i)), some (.int (nI n)), some (.int (nI 0)), none, none]) (st' := []) (w1 := (KC, I, J, GC)) rfl ?_
  refine mj_loop (fun k L w => ∃ d e : Option Value, L = [some (.ref 0), some (.int (nI s)), some (.int (nI i)), some (.int (nI n)), some (.int (nI k)), d, e] ∧ w = (KC, I, J, GC) ∧ ∀ j, j < k → matN O S s i p j = 1) n (k0 := 0) (Nat.zero_le _) ?_ ?_ ?_
  · exact ⟨_, _, rfl, rfl, fun _ h => absurd h (by omega)⟩
  · rintro k _ _ hk ⟨d, e, rfl, rfl, hb⟩ hc
    have hik : i + 2 * k < m := by omega
    have hik1 : i + 2 * k + 1 < m := by omega
    obtain ⟨a1, a2, a3, a4, a5⟩ := ar_k hA hk
    have v1 := c_valueAt hV hC hs hz hik
    have v2 := c_valueAt hV hC hs hz hik1
    have hmat : matN O S s i p k = eqB (rw6 ((goO O (ttN S s i k)).wr p)) (rw6 (dig (mmN S s i k))) := rfl
    rw [a4] at v1
    rw [a5] at v2
    generalize ttN S s i k = t at *
    generalize mmN S s i k = mm at *
    have hdt := go_dgo hVO (k := t) (by omega) hp
    have hrl := rw6_lt hdt
    have hr2 := rw6_lt (fun k hk => okD_1.mp a3 k hk : dgo (dig mm))
    refine mjT_go 3 (pc' := if nI n ≤ nI k then 76 else 9) (L' := [some (.ref 0), some (.int (nI s)), some (.int (nI i)), some (.int (nI n)), some (.int (nI k)), d, e]) (st' := []) (w1 := (KC, I, J, GC)) rfl ?_
    refine mjT_ifF (nI_ge (by omega) (by omega)) ?_
    refine mjT_go 8 (pc' := 20) (L' := [some (.ref 0), some (.int (nI s)), some (.int (nI i)), some (.int (nI n)), some (.int (nI k)), d, e]) (st' := [.int ((nI i) + ((nI 2) * (nI k))), .int (nI s), .ref 88]) (w1 := (KC, I, J, GC)) rfl ?_
    rw [pk_mul, nI_add]
    refine mjT_callE (as := [.ref 88, .int (nI s), .int (nI (i + 2 * k))]) (rest := []) (r1 := some (.long (lN t))) rfl rfl rfl rfl rfl ⟨rfl, rfl⟩ v1 ?_
    refine mjT_go 1 (pc' := 24) (L' := [some (.ref 0), some (.int (nI s)), some (.int (nI i)), some (.int (nI n)), some (.int (nI k)), d, e]) (st' := [.int ((lN t).toInt32)]) (w1 := (KC, I, J, GC)) rfl ?_
    rw [lN_i]
    refine mjT_go 11 (pc' := 39) (L' := [some (.ref 0), some (.int (nI s)), some (.int (nI i)), some (.int (nI n)), some (.int (nI k)), some (.int (nI t)), e]) (st' := [.int (((nI i) + ((nI 2) * (nI k))) + (nI 1)), .int (nI s), .ref 88]) (w1 := (KC, I, J, GC)) rfl ?_
    rw [pk_mul, nI_add, nI_add]
    refine mjT_callE (as := [.ref 88, .int (nI s), .int (nI (i + 2 * k + 1))]) (rest := []) (r1 := some (.long (lN mm))) rfl rfl rfl rfl rfl ⟨rfl, rfl⟩ v2 ?_
    refine mjT_go 1 (pc' := 43) (L' := [some (.ref 0), some (.int (nI s)), some (.int (nI i)), some (.int (nI n)), some (.int (nI k)), some (.int (nI t)), e]) (st' := [.int ((lN mm).toInt32)]) (w1 := (KC, I, J, GC)) rfl ?_
    rw [lN_i]
    refine mjT_go 2 (pc' := 47) (L' := [some (.ref 0), some (.int (nI s)), some (.int (nI i)), some (.int (nI n)), some (.int (nI k)), some (.int (nI t)), some (.int (nI mm))]) (st' := [.int (nI t)]) (w1 := (KC, I, J, GC)) rfl ?_
    refine mjT_callE (as := [.int (nI t)]) (rest := []) (r1 := some (.int (nI 1))) rfl rfl rfl rfl rfl ⟨rfl, rfl⟩ (by have h := c_isForetold (K := KC) (I := I) (J := J) (G := GC) (x := nI t); rw [iR_N (by omega) (by omega) (by omega), if_pos ⟨by omega, a1⟩] at h; exact h) ?_
    refine mjT_go 1 (pc' := if nI 1 = 0 then 68 else 53) (L' := [some (.ref 0), some (.int (nI s)), some (.int (nI i)), some (.int (nI n)), some (.int (nI k)), some (.int (nI t)), some (.int (nI mm))]) (st' := []) (w1 := (KC, I, J, GC)) rfl ?_
    refine mjT_ifF (by decide) ?_
    refine mjT_go 3 (pc' := 59) (L' := [some (.ref 0), some (.int (nI s)), some (.int (nI i)), some (.int (nI n)), some (.int (nI k)), some (.int (nI t)), some (.int (nI mm))]) (st' := [.int (nI t), .ref 96]) (w1 := (KC, I, J, GC)) rfl ?_
    refine mjT_ial (v := nI (rw6 ((goO O t).wr p))) t 61 rfl (pc' := 60) rfl rfl rfl (by omega) (by omega) (show I 96 t = nI (rw6 ((goO O t).wr p)) from (hI t a1)) ?_
    refine mjT_go 1 (pc' := 62) (L' := [some (.ref 0), some (.int (nI s)), some (.int (nI i)), some (.int (nI n)), some (.int (nI k)), some (.int (nI t)), some (.int (nI mm))]) (st' := [.int (nI mm), .int (nI (rw6 ((goO O t).wr p)))]) (w1 := (KC, I, J, GC)) rfl ?_
    refine mjT_callE (as := [.int (nI mm)]) (rest := [.int (nI (rw6 ((goO O t).wr p)))]) (r1 := some (.int (nI (rw6 (dig mm))))) rfl rfl rfl rfl rfl ⟨rfl, rfl⟩ (by have h := c_packed (K := KC) (I := I) (J := J) (G := GC) a2; rw [if_pos a3] at h; exact h) ?_
    refine mjT_go 1 (pc' := if nI (rw6 ((goO O t).wr p)) = nI (rw6 (dig mm)) then 70 else 68) (L' := [some (.ref 0), some (.int (nI s)), some (.int (nI i)), some (.int (nI n)), some (.int (nI k)), some (.int (nI t)), some (.int (nI mm))]) (st' := []) (w1 := (KC, I, J, GC)) rfl ?_
    refine mjT_if_eq (u := rw6 ((goO O t).wr p)) (v := rw6 (dig mm)) rfl rfl (by omega) (by omega) (fun h1 => ?_) (fun h1 => ?_)
    · refine mjT_go 2 (pc' := 3) (L' := [some (.ref 0), some (.int (nI s)), some (.int (nI i)), some (.int (nI n)), some (.int ((nI k) + (nI 1))), some (.int (nI t)), some (.int (nI mm))]) (st' := []) (w1 := (KC, I, J, GC)) rfl ?_
      rw [nI_add]
      refine hc _ _ ⟨_, _, rfl, rfl, fun j hj => ?_⟩
      by_cases ej : j = k
      · rw [ej, hmat]; exact if_pos h1
      · exact hb j (by omega)
    · refine mjT_go 1 (pc' := 69) (L' := [some (.ref 0), some (.int (nI s)), some (.int (nI i)), some (.int (nI n)), some (.int (nI k)), some (.int (nI t)), some (.int (nI mm))]) (st' := [.int (nI 0)]) (w1 := (KC, I, J, GC)) rfl ?_
      refine mjT_retb rfl rfl (by decide) ?_
      have hne : ¬ lsoN (matN O S s i p) n = 1 := fun q => by
        have := lso_1.mp q k hk
        rw [hmat] at this
        exact h1 (eqB_1.mp this)
      have := lso_lt (matN O S s i p) n
      exact ⟨rfl, by rw [show lsoN (matN O S s i p) n = 0 by omega]⟩
  · rintro _ _ ⟨d, e, rfl, rfl, hb⟩
    refine mjT_go 3 (pc' := if nI n ≤ nI n then 76 else 9) (L' := [some (.ref 0), some (.int (nI s)), some (.int (nI i)), some (.int (nI n)), some (.int (nI n)), d, e]) (st' := []) (w1 := (KC, I, J, GC)) rfl ?_
    refine mjT_ifT (Int32.le_refl _) ?_
    refine mjT_go 1 (pc' := 77) (L' := [some (.ref 0), some (.int (nI s)), some (.int (nI i)), some (.int (nI n)), some (.int (nI n)), d, e]) (st' := [.int (nI 1)]) (w1 := (KC, I, J, GC)) rfl ?_
    refine mjT_retb rfl rfl (by decide) ?_
    exact ⟨rfl, by rw [lso_1.mpr hb]⟩
theorem m_lastsSo (hV : VS S) (hM : MW I J S) {s i n m p l : Nat} (hs : s < 4) (hz : S.sz s = m + 1) (hi : i + 2 * n ≤ m) (hn8 : n ≤ 8) (hA : arP S s i n = 1) (hp : p < S.o.n) (hl : 1 ≤ l ∧ l ≤ 30) : mj_E 206 [.ref 0, .int (nI p), .int (nI l), .int (nI s), .int (nI i), .int (nI n)] (KM, I, J, GM) (fun w' r => r = some (.int (nI (lsoN (matN (lasO S.o l) S s i p) n))) ∧ ∃ I', w' = (KM, I', J, GM) ∧ MW I' J S) := by
  have hzz := hV.sz s hs
  have hd := hV.day
  have hn := hV.o.n
  refine mjT_go 1 (pc' := 1) (L' := [some (.ref 0), some (.int (nI p)), some (.int (nI l)), some (.int (nI s)), some (.int (nI i)), some (.int (nI n)), none, none, none, none]) (st' := [.ref 0]) (w1 := (KM, I, J, GM)) rfl ?_
  refine mjT_call (as := [.ref 0]) (rest := []) rfl rfl rfl rfl rfl ⟨rfl, rfl⟩ (m_begin hV.o hM.o) ?_
  rintro _ _ ⟨rfl, I2, rfl, hO2, hf2⟩
  refine mjT_go 4 (pc' := 12) (L' := [some (.ref 0), some (.int (nI p)), some (.int (nI l)), some (.int (nI s)), some (.int (nI i)), some (.int (nI n)), none, none, none, none]) (st' := [.int (nI l), .int (nI 1831), .ref 1]) (w1 := (KM, I2, J, GM)) rfl ?_
  obtain ⟨V1, eV1⟩ : ∃ z, z = mj_row I2 1 (va_up (I2 1) 1831 (nI l)) := ⟨_, rfl⟩
  refine mjT_ias (I' := V1) 1831 1840 rfl (pc' := 13) rfl rfl rfl (by omega) (by omega) eV1.symm ?_
  have hO3 : MO V1 1680 (lasO S.o l) := mo_las eV1 (by omega) hO2 hn
  have hf3 : FrT I V1 := ft_tr hf2 (ft_of (fr_st eV1 (by omega)))
  have hVL : VO (lasO S.o l) := v_las hV.o hl
  have hdL : (lasO S.o l).day = S.o.day := rfl
  have hnL : (lasO S.o l).n = S.o.n := rfl
  generalize lasO S.o l = E at *
  have hg1 : ∀ j, j < n → matN E S s i p j < 2 := fun j _ => eqB_lt _ _
  obtain ⟨g, hg⟩ : ∃ g, matN E S s i p = g := ⟨_, rfl⟩
  rw [hg] at hg1 ⊢
  refine mjT_gen fun Q hQ => ?_
  have fin : ∀ (I' : Nat → Nat → Int32) (b : Nat) (d e f : Option Value), b = lsoN g n → FrT I I' → mj_To 206 135 [some (.ref 0), some (.int (nI p)), some (.int (nI l)), some (.int (nI s)), some (.int (nI i)), some (.int (nI n)), some (.int (nI b)), d, e, f] [] (KM, I', J, GM) Q := fun I' b d e f eb hf => by
    have hbl := lso_lt g n
    refine mjT_go 1 (pc' := 137) (L' := [some (.ref 0), some (.int (nI p)), some (.int (nI l)), some (.int (nI s)), some (.int (nI i)), some (.int (nI n)), some (.int (nI b)), d, e, f]) (st' := [.int (nI b)]) (w1 := (KM, I', J, GM)) rfl ?_
    refine mjT_retN (by omega) rfl rfl ?_
    exact hQ _ _ ⟨by rw [eb], _, rfl, mw_ft hM hV hf⟩
  refine mjT_go 4 (pc' := 19) (L' := [some (.ref 0), some (.int (nI p)), some (.int (nI l)), some (.int (nI s)), some (.int (nI i)), some (.int (nI n)), some (.int (nI 1)), some (.int (nI 0)), none, none]) (st' := []) (w1 := (KM, V1, J, GM)) rfl ?_
  refine mj_loop (fun k L w => ∃ (b : Nat) (d e : Option Value) (I' : Nat → Nat → Int32), L = [some (.ref 0), some (.int (nI p)), some (.int (nI l)), some (.int (nI s)), some (.int (nI i)), some (.int (nI n)), some (.int (nI b)), some (.int (nI k)), d, e] ∧ w = (KM, I', J, GM) ∧ b < 2 ∧ FrT I I' ∧ MO I' 1680 (goO E k) ∧ (b = 1 ↔ ∀ j, j < n → ttN S s i j < k → g j = 1)) 61 (k0 := 0) (Nat.zero_le _) ?_ ?_ ?_
  · exact ⟨1, _, _, _, rfl, rfl, by omega, hf3, hO3, fun _ _ _ h => absurd h (by omega), fun _ => rfl⟩
  · rintro day _ _ hday ⟨b, d, e, I4, rfl, rfl, hb2, hf4, hO4, hb⟩ hc
    have hVd := v_go hVL day (by omega)
    have hdd := goO_day E day
    have hnd := go_n E day
    refine mjT_go 3 (pc' := if nI 60 < nI day then 135 else 26) (L' := [some (.ref 0), some (.int (nI p)), some (.int (nI l)), some (.int (nI s)), some (.int (nI i)), some (.int (nI n)), some (.int (nI b)), some (.int (nI day)), d, e]) (st' := []) (w1 := (KM, I4, J, GM)) rfl ?_
    refine mjT_ifF (nI_nlt (by omega) (by omega)) ?_
    refine mjT_go 2 (pc' := if nI b = 0 then 135 else 31) (L' := [some (.ref 0), some (.int (nI p)), some (.int (nI l)), some (.int (nI s)), some (.int (nI i)), some (.int (nI n)), some (.int (nI b)), some (.int (nI day)), d, e]) (st' := []) (w1 := (KM, I4, J, GM)) rfl ?_
    refine mjT_if_eq (u := b) (v := 0) rfl nI_0.symm (by omega) (by omega) (fun hb0 => ?_) (fun hb0 => ?_)
    · have hne : ¬ lsoN g n = 1 := fun q => by
        have := hb.mpr (fun j hj _ => lso_1.mp q j hj)
        omega
      have := lso_lt g n
      exact fin _ _ _ _ _ (by omega) hf4
    refine mjT_go 2 (pc' := 34) (L' := [some (.ref 0), some (.int (nI p)), some (.int (nI l)), some (.int (nI s)), some (.int (nI i)), some (.int (nI n)), some (.int (nI b)), some (.int (nI day)), some (.int (nI 0)), e]) (st' := []) (w1 := (KM, I4, J, GM)) rfl ?_
    refine mj_loop (fun k L w => ∃ (c : Nat) (e : Option Value), L = [some (.ref 0), some (.int (nI p)), some (.int (nI l)), some (.int (nI s)), some (.int (nI i)), some (.int (nI n)), some (.int (nI c)), some (.int (nI day)), some (.int (nI k)), e] ∧ w = (KM, I4, J, GM) ∧ c < 2 ∧ (c = 1 ↔ ∀ j, j < k → ttN S s i j = day → g j = 1)) n (k0 := 0) (Nat.zero_le _) ?_ ?_ ?_
    · exact ⟨b, _, rfl, rfl, hb2, fun _ _ h => absurd h (by omega), fun _ => by omega⟩
    · rintro k _ _ hk ⟨c, e, rfl, rfl, hc2, hcb⟩ hck
      obtain ⟨a1, a2, a3, a4, a5⟩ := ar_k hA hk
      have hmat : g k = eqB (rw6 ((goO E (ttN S s i k)).wr p)) (rw6 (dig (mmN S s i k))) := by rw [← hg]; rfl
      have hgk := hg1 k hk
      have cut : ∀ (c' : Nat) (e : Option Value), c' < 2 → (c' = 1 ↔ c = 1 ∧ (ttN S s i k = day → g k = 1)) → mj_To 206 118 [some (.ref 0), some (.int (nI p)), some (.int (nI l)), some (.int (nI s)), some (.int (nI i)), some (.int (nI n)), some (.int (nI c')), some (.int (nI day)), some (.int (nI k)), e] [] (KM, I4, J, GM) Q := fun c' e h1 h2 => by
        refine mjT_go 2 (pc' := 34) (L' := [some (.ref 0), some (.int (nI p)), some (.int (nI l)), some (.int (nI s)), some (.int (nI i)), some (.int (nI n)), some (.int (nI c')), some (.int (nI day)), some (.int ((nI k) + (nI 1))), e]) (st' := []) (w1 := (KM, I4, J, GM)) rfl ?_
        rw [nI_add]
        refine hck _ _ ⟨_, _, rfl, rfl, h1, h2.trans ?_⟩
        rw [hcb]
        constructor
        · rintro ⟨q1, q2⟩ j hj
          by_cases ej : j = k
          · rw [ej]; exact q2
          · exact q1 j (by omega)
        · intro q
          exact ⟨fun j hj => q j (by omega), q k (by omega)⟩
      have htt : lN (ttN S s i k) = lN day ↔ ttN S s i k = day := pk_lEQ (by omega) (by omega)
      refine mjT_go 3 (pc' := if nI n ≤ nI k then 124 else 41) (L' := [some (.ref 0), some (.int (nI p)), some (.int (nI l)), some (.int (nI s)), some (.int (nI i)), some (.int (nI n)), some (.int (nI c)), some (.int (nI day)), some (.int (nI k)), e]) (st' := []) (w1 := (KM, I4, J, GM)) rfl ?_
      refine mjT_ifF (nI_ge (by omega) (by omega)) ?_
      refine mjT_go 11 (pc' := 57) (L' := [some (.ref 0), some (.int (nI p)), some (.int (nI l)), some (.int (nI s)), some (.int (nI i)), some (.int (nI n)), some (.int (nI c)), some (.int (nI day)), some (.int (nI k)), e]) (st' := [.int ((((nI 24) * (nI s)) + (nI i)) + ((nI 2) * (nI k))), .ref 5]) (w1 := (KM, I4, J, GM)) rfl ?_
      refine mjT_lal (v := lN (ttN S s i k)) (((24 * s) + i) + (2 * k)) 96 rfl (pc' := 58) rfl rfl (by simp only [nI_add, pk_mul]) (by omega) (by omega) (mo_at (show J 5 (24 * s + i + 2 * k) = lN (ttN S s i k) from ((mo_at (hM.it s hs (i + 2 * k) (by omega)) rfl (by omega)).trans a4)) (by omega) (by omega)) ?_
      refine mjT_go 4 (pc' := if ¬ lg_cmp (lN (ttN S s i k)) ((nI day).toInt64) = 0 then 69 else 65) (L' := [some (.ref 0), some (.int (nI p)), some (.int (nI l)), some (.int (nI s)), some (.int (nI i)), some (.int (nI n)), some (.int (nI c)), some (.int (nI day)), some (.int (nI k)), e]) (st' := []) (w1 := (KM, I4, J, GM)) rfl ?_
      refine mjT_if (fun h1 => ?_) (fun h1 => ?_)
      · rw [lg_cmp_eq, nI_l (by omega), htt] at h1
        refine mjT_go 4 (pc' := if nI c = 0 then 115 else 77) (L' := [some (.ref 0), some (.int (nI p)), some (.int (nI l)), some (.int (nI s)), some (.int (nI i)), some (.int (nI n)), some (.int (nI c)), some (.int (nI day)), some (.int (nI k)), some (.int (nI 0))]) (st' := []) (w1 := (KM, I4, J, GM)) rfl ?_
        refine mjT_if_eq (u := c) (v := 0) rfl nI_0.symm (by omega) (by omega) (fun h2 => ?_) (fun h2 => ?_)
        · refine mjT_go 2 (pc' := 118) (L' := [some (.ref 0), some (.int (nI p)), some (.int (nI l)), some (.int (nI s)), some (.int (nI i)), some (.int (nI n)), some (.int (nI 0)), some (.int (nI day)), some (.int (nI k)), some (.int (nI 0))]) (st' := []) (w1 := (KM, I4, J, GM)) rfl ?_
          exact cut 0 _ (by omega) (by omega)
        refine mjT_go 2 (pc' := if nI 0 = 0 then 111 else 82) (L' := [some (.ref 0), some (.int (nI p)), some (.int (nI l)), some (.int (nI s)), some (.int (nI i)), some (.int (nI n)), some (.int (nI c)), some (.int (nI day)), some (.int (nI k)), some (.int (nI 0))]) (st' := []) (w1 := (KM, I4, J, GM)) rfl ?_
        refine mjT_ifT (by decide) ?_
        refine mjT_go 3 (pc' := 118) (L' := [some (.ref 0), some (.int (nI p)), some (.int (nI l)), some (.int (nI s)), some (.int (nI i)), some (.int (nI n)), some (.int (nI 1)), some (.int (nI day)), some (.int (nI k)), some (.int (nI 0))]) (st' := []) (w1 := (KM, I4, J, GM)) rfl ?_
        exact cut 1 _ (by omega) ⟨fun _ => ⟨by omega, fun q => absurd q h1⟩, fun _ => rfl⟩
      rw [Decidable.not_not, lg_cmp_eq, nI_l (by omega), htt] at h1
      rw [h1] at hmat
      refine mjT_go 5 (pc' := if nI c = 0 then 115 else 77) (L' := [some (.ref 0), some (.int (nI p)), some (.int (nI l)), some (.int (nI s)), some (.int (nI i)), some (.int (nI n)), some (.int (nI c)), some (.int (nI day)), some (.int (nI k)), some (.int (nI 1))]) (st' := []) (w1 := (KM, I4, J, GM)) rfl ?_
      refine mjT_if_eq (u := c) (v := 0) rfl nI_0.symm (by omega) (by omega) (fun h2 => ?_) (fun h2 => ?_)
      · refine mjT_go 2 (pc' := 118) (L' := [some (.ref 0), some (.int (nI p)), some (.int (nI l)), some (.int (nI s)), some (.int (nI i)), some (.int (nI n)), some (.int (nI 0)), some (.int (nI day)), some (.int (nI k)), some (.int (nI 1))]) (st' := []) (w1 := (KM, I4, J, GM)) rfl ?_
        exact cut 0 _ (by omega) (by omega)
      have hdg : dgo (dig (mmN S s i k)) := okD_1.mp a3
      have hdw := hVd.wr p (by omega)
      have hfb := fg_lt hdw 6 (by omega)
      have hpe : lN (mmN S s i k) = lN (fg ((goO E day).wr p) 6) ↔ g k = 1 := by
        rw [pk_lEQ (by omega) (by omega), hmat, eqB_1, ← fg_inj hdw hdg, fg_dig (by omega)]
        exact eq_comm
      refine mjT_go 2 (pc' := if nI 1 = 0 then 111 else 82) (L' := [some (.ref 0), some (.int (nI p)), some (.int (nI l)), some (.int (nI s)), some (.int (nI i)), some (.int (nI n)), some (.int (nI c)), some (.int (nI day)), some (.int (nI k)), some (.int (nI 1))]) (st' := []) (w1 := (KM, I4, J, GM)) rfl ?_
      refine mjT_ifF (by decide) ?_
      refine mjT_go 13 (pc' := 100) (L' := [some (.ref 0), some (.int (nI p)), some (.int (nI l)), some (.int (nI s)), some (.int (nI i)), some (.int (nI n)), some (.int (nI c)), some (.int (nI day)), some (.int (nI k)), some (.int (nI 1))]) (st' := [.int (((((nI 24) * (nI s)) + (nI i)) + ((nI 2) * (nI k))) + (nI 1)), .ref 5]) (w1 := (KM, I4, J, GM)) rfl ?_
      refine mjT_lal (v := lN (mmN S s i k)) ((((24 * s) + i) + (2 * k)) + 1) 96 rfl (pc' := 101) rfl rfl (by simp only [nI_add, pk_mul]) (by omega) (by omega) (mo_at (show J 5 (24 * s + i + 2 * k + 1) = lN (mmN S s i k) from ((mo_at (hM.it s hs (i + 2 * k + 1) (by omega)) rfl (by omega)).trans a5)) (by omega) (by omega)) ?_
      refine mjT_go 2 (pc' := 103) (L' := [some (.ref 0), some (.int (nI p)), some (.int (nI l)), some (.int (nI s)), some (.int (nI i)), some (.int (nI n)), some (.int (nI c)), some (.int (nI day)), some (.int (nI k)), some (.int (nI 1))]) (st' := [.int (nI p), .ref 0, .long (lN (mmN S s i k))]) (w1 := (KM, I4, J, GM)) rfl ?_
      refine mjT_callE (as := [.ref 0, .int (nI p)]) (rest := [.long (lN (mmN S s i k))]) (r1 := some (.int (nI (fg ((goO E day).wr p) 6)))) rfl rfl rfl rfl rfl ⟨rfl, rfl⟩ (m_writesNow (by omega) hO4 (by omega)) ?_
      refine mjT_go 3 (pc' := if ¬ lg_cmp (lN (mmN S s i k)) ((nI (fg ((goO E day).wr p) 6)).toInt64) = 0 then 115 else 111) (L' := [some (.ref 0), some (.int (nI p)), some (.int (nI l)), some (.int (nI s)), some (.int (nI i)), some (.int (nI n)), some (.int (nI c)), some (.int (nI day)), some (.int (nI k)), some (.int (nI 1))]) (st' := []) (w1 := (KM, I4, J, GM)) rfl ?_
      refine mjT_if (fun h3 => ?_) (fun h3 => ?_)
      · rw [lg_cmp_eq, nI_l (by omega), hpe] at h3
        refine mjT_go 2 (pc' := 118) (L' := [some (.ref 0), some (.int (nI p)), some (.int (nI l)), some (.int (nI s)), some (.int (nI i)), some (.int (nI n)), some (.int (nI 0)), some (.int (nI day)), some (.int (nI k)), some (.int (nI 1))]) (st' := []) (w1 := (KM, I4, J, GM)) rfl ?_
        exact cut 0 _ (by omega) ⟨fun q => absurd q (by omega), fun q => absurd (q.2 h1) h3⟩
      rw [Decidable.not_not, lg_cmp_eq, nI_l (by omega), hpe] at h3
      refine mjT_go 3 (pc' := 118) (L' := [some (.ref 0), some (.int (nI p)), some (.int (nI l)), some (.int (nI s)), some (.int (nI i)), some (.int (nI n)), some (.int (nI 1)), some (.int (nI day)), some (.int (nI k)), some (.int (nI 1))]) (st' := []) (w1 := (KM, I4, J, GM)) rfl ?_
      exact cut 1 _ (by omega) ⟨fun _ => ⟨by omega, fun _ => h3⟩, fun _ => rfl⟩
    · rintro _ _ ⟨c, e, rfl, rfl, hc2, hcb⟩
      refine mjT_go 3 (pc' := if nI n ≤ nI n then 124 else 41) (L' := [some (.ref 0), some (.int (nI p)), some (.int (nI l)), some (.int (nI s)), some (.int (nI i)), some (.int (nI n)), some (.int (nI c)), some (.int (nI day)), some (.int (nI n)), e]) (st' := []) (w1 := (KM, I4, J, GM)) rfl ?_
      refine mjT_ifT (Int32.le_refl _) ?_
      refine mjT_go 2 (pc' := 126) (L' := [some (.ref 0), some (.int (nI p)), some (.int (nI l)), some (.int (nI s)), some (.int (nI i)), some (.int (nI n)), some (.int (nI c)), some (.int (nI day)), some (.int (nI n)), e]) (st' := [.int (nI 1), .ref 0]) (w1 := (KM, I4, J, GM)) rfl ?_
      refine mjT_call (as := [.ref 0, .int (nI 1)]) (rest := []) rfl rfl rfl rfl rfl ⟨rfl, rfl⟩ (m_goOn hVd hO4 (n := 1) (by omega)) ?_
      rintro _ _ ⟨rfl, I5, rfl, hO5, hf5⟩
      have hO6 : MO I5 1680 (goO E (day + 1)) := hO5
      refine mjT_go 2 (pc' := 19) (L' := [some (.ref 0), some (.int (nI p)), some (.int (nI l)), some (.int (nI s)), some (.int (nI i)), some (.int (nI n)), some (.int (nI c)), some (.int ((nI day) + (nI 1))), some (.int (nI n)), e]) (st' := []) (w1 := (KM, I5, J, GM)) rfl ?_
      rw [nI_add]
      refine hc _ _ ⟨_, _, _, _, rfl, rfl, hc2, ft_tr hf4 (ft_of hf5), hO6, hcb.trans ?_⟩
      have hbb := hb.mp (by omega)
      constructor
      · intro q j hj hjd
        by_cases ej : ttN S s i j = day
        · exact q j hj ej
        · exact hbb j hj (by omega)
      · intro q j hj hjd
        exact q j hj (by omega)
  · rintro _ _ ⟨b, d, e, I4, rfl, rfl, hb2, hf4, hO4, hb⟩
    refine mjT_go 3 (pc' := if nI 60 < nI 61 then 135 else 26) (L' := [some (.ref 0), some (.int (nI p)), some (.int (nI l)), some (.int (nI s)), some (.int (nI i)), some (.int (nI n)), some (.int (nI b)), some (.int (nI 61)), d, e]) (st' := []) (w1 := (KM, I4, J, GM)) rfl ?_
    refine mjT_ifT (by decide) ?_
    refine fin _ _ _ _ _ ?_ hf4
    have h1 := lso_lt g n
    have h2 : lsoN g n = 1 ↔ b = 1 := by
      rw [hb, lso_1]
      exact ⟨fun q j hj _ => q j hj, fun q j hj => q j hj (by have := (ar_k hA hj).1; omega)⟩
    omega
def lasN (g : Nat → Nat) : Nat → Nat
  | 0 => 0
  | k + 1 => lasN g k ||| g (k + 1) * 2 ^ (k + 1)
def lsdN (S : Sta) (s i p n l : Nat) : Nat := lsoN (matN (lasO S.o l) S s i p) n
noncomputable def aLasted (S : Sta) (x y z u v : Int32) : Int32 := if iP x S.o.n = 1 ∧ iR y 0 3 = 1 ∧ iR z 0 3 = 1 ∧ iR v 1 8 = 1 then (if refN S (nn y) (nn z) u (nI (2 * nn v)) < 0 then refN S (nn y) (nn z) u (nI (2 * nn v)) else if arP S (nn y) (nn u) (nn v) = 1 then nI (lasN (lsdN S (nn y) (nn u) (nn x) (nn v)) 30) else -2) else -1
theorem cc_lasted (hV : VS S) (hC : CW I J S) {x y z u v : Int32} : mj_E 102 [.ref 0, .int x, .int y, .int z, .int u, .int v] (KC, I, J, GC) (fun w' r => r = some (.int (aLasted S x y z u v)) ∧ ∃ I' J', w' = (KC, I', J', GC) ∧ CW I' J' S) := by
  have hn := hV.o.n
  have hd := hV.day
  have hr1 := ip01 x S.o.n
  have hr2 := ir01 y 0 3
  have hr3 := ir01 z 0 3
  have hr4 := ir01 v 1 8
  unfold aLasted
  refine mjT_go 3 (pc' := 5) (L' := [some (.ref 0), some (.int x), some (.int y), some (.int z), some (.int u), some (.int v), none, none, none]) (st' := [.int x, .ref 1]) (w1 := (KC, I, J, GC)) rfl ?_
  refine mjT_callE (as := [.ref 1, .int x]) (rest := []) (r1 := some (.int (nI (iP x S.o.n)))) rfl rfl rfl rfl rfl ⟨rfl, rfl⟩ (c_has hV.o og_1 hC.o) ?_
  refine mjT_go 1 (pc' := if nI (iP x S.o.n) = 0 then 36 else 11) (L' := [some (.ref 0), some (.int x), some (.int y), some (.int z), some (.int u), some (.int v), none, none, none]) (st' := []) (w1 := (KC, I, J, GC)) rfl ?_
  refine mjT_if_eq (u := iP x S.o.n) (v := 0) rfl nI_0.symm (by omega) (by omega) (fun h1 => ?_) (fun h1 => ?_)
  · rw [if_neg (by omega)]
    refine mjT_go 1 (pc' := 37) (L' := [some (.ref 0), some (.int x), some (.int y), some (.int z), some (.int u), some (.int v), none, none, none]) (st' := [.int (-1)]) (w1 := (KC, I, J, GC)) rfl ?_
    refine mjT_ret rfl rfl rfl ?_
    exact ⟨rfl, _, _, rfl, hC⟩
  refine mjT_go 1 (pc' := 12) (L' := [some (.ref 0), some (.int x), some (.int y), some (.int z), some (.int u), some (.int v), none, none, none]) (st' := [.int y]) (w1 := (KC, I, J, GC)) rfl ?_
  refine mjT_callE (as := [.int y]) (rest := []) (r1 := some (.int (nI (iR y 0 3)))) rfl rfl rfl rfl rfl ⟨rfl, rfl⟩ c_isSheet ?_
  refine mjT_go 1 (pc' := if nI (iR y 0 3) = 0 then 36 else 18) (L' := [some (.ref 0), some (.int x), some (.int y), some (.int z), some (.int u), some (.int v), none, none, none]) (st' := []) (w1 := (KC, I, J, GC)) rfl ?_
  refine mjT_if_eq (u := iR y 0 3) (v := 0) rfl nI_0.symm (by omega) (by omega) (fun h2 => ?_) (fun h2 => ?_)
  · rw [if_neg (by omega)]
    refine mjT_go 1 (pc' := 37) (L' := [some (.ref 0), some (.int x), some (.int y), some (.int z), some (.int u), some (.int v), none, none, none]) (st' := [.int (-1)]) (w1 := (KC, I, J, GC)) rfl ?_
    refine mjT_ret rfl rfl rfl ?_
    exact ⟨rfl, _, _, rfl, hC⟩
  refine mjT_go 1 (pc' := 19) (L' := [some (.ref 0), some (.int x), some (.int y), some (.int z), some (.int u), some (.int v), none, none, none]) (st' := [.int z]) (w1 := (KC, I, J, GC)) rfl ?_
  refine mjT_callE (as := [.int z]) (rest := []) (r1 := some (.int (nI (iR z 0 3)))) rfl rfl rfl rfl rfl ⟨rfl, rfl⟩ c_isLane ?_
  refine mjT_go 1 (pc' := if nI (iR z 0 3) = 0 then 36 else 25) (L' := [some (.ref 0), some (.int x), some (.int y), some (.int z), some (.int u), some (.int v), none, none, none]) (st' := []) (w1 := (KC, I, J, GC)) rfl ?_
  refine mjT_if_eq (u := iR z 0 3) (v := 0) rfl nI_0.symm (by omega) (by omega) (fun h3 => ?_) (fun h3 => ?_)
  · rw [if_neg (by omega)]
    refine mjT_go 1 (pc' := 37) (L' := [some (.ref 0), some (.int x), some (.int y), some (.int z), some (.int u), some (.int v), none, none, none]) (st' := [.int (-1)]) (w1 := (KC, I, J, GC)) rfl ?_
    refine mjT_ret rfl rfl rfl ?_
    exact ⟨rfl, _, _, rfl, hC⟩
  refine mjT_go 3 (pc' := 30) (L' := [some (.ref 0), some (.int x), some (.int y), some (.int z), some (.int u), some (.int v), none, none, none]) (st' := [.int (nI 8), .int (nI 1), .int v]) (w1 := (KC, I, J, GC)) rfl ?_
  refine mjT_callE (as := [.int v, .int (nI 1), .int (nI 8)]) (rest := []) (r1 := some (.int (nI (iR v 1 8)))) rfl rfl rfl rfl rfl ⟨rfl, rfl⟩ c_within ?_
  refine mjT_go 1 (pc' := if ¬ nI (iR v 1 8) = 0 then 38 else 36) (L' := [some (.ref 0), some (.int x), some (.int y), some (.int z), some (.int u), some (.int v), none, none, none]) (st' := []) (w1 := (KC, I, J, GC)) rfl ?_
  refine mjT_if_ne (u := iR v 1 8) (v := 0) rfl nI_0.symm (by omega) (by omega) (fun h4 => ?_) (fun h4 => ?_)
  rotate_left
  · rw [if_neg (by omega)]
    refine mjT_go 1 (pc' := 37) (L' := [some (.ref 0), some (.int x), some (.int y), some (.int z), some (.int u), some (.int v), none, none, none]) (st' := [.int (-1)]) (w1 := (KC, I, J, GC)) rfl ?_
    refine mjT_ret rfl rfl rfl ?_
    exact ⟨rfl, _, _, rfl, hC⟩
  rw [if_pos (show iP x S.o.n = 1 ∧ iR y 0 3 = 1 ∧ iR z 0 3 = 1 ∧ iR v 1 8 = 1 by omega)]
  obtain ⟨p, hp, rfl⟩ := iP_1 (x := x) (n := S.o.n) (by omega) (by omega)
  obtain ⟨s, _, hs, rfl⟩ := iR_1 (x := y) (a := 0) (b := 3) (by omega) (by omega) (by omega)
  obtain ⟨l, _, hl, rfl⟩ := iR_1 (x := z) (a := 0) (b := 3) (by omega) (by omega) (by omega)
  obtain ⟨n, hn1, hn8, rfl⟩ := iR_1 (x := v) (a := 1) (b := 8) (by omega) (by omega) (by omega)
  rw [nn_N (n := s) (by omega), nn_N (n := l) (by omega), nn_N (n := p) (by omega), nn_N (n := n) (by omega)]
  refine mjT_go 8 (pc' := 50) (L' := [some (.ref 0), some (.int (nI p)), some (.int (nI s)), some (.int (nI l)), some (.int u), some (.int (nI n)), none, none, none]) (st' := [.int ((nI 2) * (nI n)), .int u, .int (nI l), .int (nI s), .ref 88]) (w1 := (KC, I, J, GC)) rfl ?_
  rw [pk_mul]
  refine mjT_callE (as := [.ref 88, .int (nI s), .int (nI l), .int u, .int (nI (2 * n))]) (rest := []) (r1 := some (.int (refN S s l u (nI (2 * n))))) rfl rfl rfl rfl rfl ⟨rfl, rfl⟩ (c_refusal hV hC (by omega) (by omega)) ?_
  refine mjT_go 3 (pc' := if 0 ≤ refN S s l u (nI (2 * n)) then 63 else 60) (L' := [some (.ref 0), some (.int (nI p)), some (.int (nI s)), some (.int (nI l)), some (.int u), some (.int (nI n)), some (.int (refN S s l u (nI (2 * n)))), none, none]) (st' := []) (w1 := (KC, I, J, GC)) rfl ?_
  rcases refN_cases S s l u (nI (2 * n)) with ⟨hneg, _⟩ | ⟨h0, hsz, hln, hh⟩
  · rw [if_pos hneg]
    refine mjT_ifF (fun q => i32_nlt.mpr q hneg) ?_
    refine mjT_go 1 (pc' := 62) (L' := [some (.ref 0), some (.int (nI p)), some (.int (nI s)), some (.int (nI l)), some (.int u), some (.int (nI n)), some (.int (refN S s l u (nI (2 * n)))), none, none]) (st' := [.int (refN S s l u (nI (2 * n)))]) (w1 := (KC, I, J, GC)) rfl ?_
    refine mjT_ret rfl rfl rfl ?_
    exact ⟨rfl, _, _, rfl, hC⟩
  rw [h0, if_neg (show ¬ nI 0 < 0 by decide)]
  refine mjT_ifT (by decide) ?_
  have hzz := hV.sz s (by omega)
  have hz1 : S.sz s = (S.sz s - 1) + 1 := by omega
  obtain ⟨i, n2, rfl, hn2, hin, hi31, hn231⟩ := hN_1 hh
  obtain rfl : 2 * n = n2 := (nI_eq (by omega) hn231).mp hn2
  rw [nn_N hi31]
  have hal := arP_lt S s i n
  refine mjT_go 4 (pc' := 69) (L' := [some (.ref 0), some (.int (nI p)), some (.int (nI s)), some (.int (nI l)), some (.int (nI i)), some (.int (nI n)), some (.int (nI 0)), none, none]) (st' := [.int (nI n), .int (nI i), .int (nI s), .ref 0]) (w1 := (KC, I, J, GC)) rfl ?_
  refine mjT_callE (as := [.ref 0, .int (nI s), .int (nI i), .int (nI n)]) (rest := []) (r1 := some (.int (nI (arP S s i n)))) rfl rfl rfl rfl rfl ⟨rfl, rfl⟩ (c_arePapers hV hC (by omega) hz1 hin hn8) ?_
  refine mjT_go 1 (pc' := if ¬ nI (arP S s i n) = 0 then 78 else 75) (L' := [some (.ref 0), some (.int (nI p)), some (.int (nI s)), some (.int (nI l)), some (.int (nI i)), some (.int (nI n)), some (.int (nI 0)), none, none]) (st' := []) (w1 := (KC, I, J, GC)) rfl ?_
  refine mjT_if_ne (u := arP S s i n) (v := 0) rfl nI_0.symm (by omega) (by omega) (fun h5 => ?_) (fun h5 => ?_)
  rotate_left
  · rw [if_neg (show ¬ arP S s i n = 1 by omega)]
    refine mjT_go 1 (pc' := 77) (L' := [some (.ref 0), some (.int (nI p)), some (.int (nI s)), some (.int (nI l)), some (.int (nI i)), some (.int (nI n)), some (.int (nI 0)), none, none]) (st' := [.int (-2)]) (w1 := (KC, I, J, GC)) rfl ?_
    refine mjT_ret rfl rfl rfl ?_
    exact ⟨rfl, _, _, rfl, hC⟩
  have hA : arP S s i n = 1 := by omega
  rw [if_pos hA]
  refine mjT_go 4 (pc' := 84) (L' := [some (.ref 0), some (.int (nI p)), some (.int (nI s)), some (.int (nI l)), some (.int (nI i)), some (.int (nI n)), some (.int (nI 0)), some (.int (nI 0)), some (.int (nI 1))]) (st' := []) (w1 := (KC, I, J, GC)) rfl ?_
  refine mj_loop (fun k L w => ∃ I', L = [some (.ref 0), some (.int (nI p)), some (.int (nI s)), some (.int (nI l)), some (.int (nI i)), some (.int (nI n)), some (.int (nI 0)), some (.int (nI (lasN (lsdN S s i p n) k))), some (.int (nI (k + 1)))] ∧ w = (KC, I', J, GC) ∧ CW I' J S) 30 (k0 := 0) (Nat.zero_le _) ?_ ?_ ?_
  · exact ⟨_, rfl, rfl, hC⟩
  · rintro k _ _ hk ⟨I2, rfl, rfl, hC2⟩ hc
    obtain ⟨la, hla⟩ := nI_surj (I2 75 3)
    obtain ⟨dr, hdr⟩ := nI_surj (I2 75 4)
    refine mjT_go 3 (pc' := if nI 30 < nI (k + 1) then 160 else 91) (L' := [some (.ref 0), some (.int (nI p)), some (.int (nI s)), some (.int (nI l)), some (.int (nI i)), some (.int (nI n)), some (.int (nI 0)), some (.int (nI (lasN (lsdN S s i p n) k))), some (.int (nI (k + 1)))]) (st' := []) (w1 := (KC, I2, J, GC)) rfl ?_
    refine mjT_ifF (nI_nlt (by omega) (by omega)) ?_
    refine mjT_go 4 (pc' := 99) (L' := [some (.ref 0), some (.int (nI p)), some (.int (nI s)), some (.int (nI l)), some (.int (nI i)), some (.int (nI n)), some (.int (nI 0)), some (.int (nI (lasN (lsdN S s i p n) k))), some (.int (nI (k + 1)))]) (st' := [.ref 1, .ref 75]) (w1 := (KC, I2, J, GC)) rfl ?_
    refine mjT_call (as := [.ref 75, .ref 1]) (rest := []) rfl rfl rfl rfl rfl ⟨rfl, rfl⟩ (c_become hV.o.n og_75 og_1 (by omega) hC2.o hla hdr) ?_
    rintro _ _ ⟨rfl, I3, rfl, hO3, hf3⟩
    refine mjT_go 3 (pc' := 108) (L' := [some (.ref 0), some (.int (nI p)), some (.int (nI s)), some (.int (nI l)), some (.int (nI i)), some (.int (nI n)), some (.int (nI 0)), some (.int (nI (lasN (lsdN S s i p n) k))), some (.int (nI (k + 1)))]) (st' := [.int (nI (k + 1)), .ref 75]) (w1 := (KC, I3, J, GC)) rfl ?_
    obtain ⟨V1, eV1⟩ : ∃ z, z = mj_row I3 75 (va_up (I3 75) 3 (nI (k + 1))) := ⟨_, rfl⟩
    refine mjT_pfi (I' := V1) rfl (pc' := 111) rfl rfl eV1.symm ?_
    have hO4 : RO V1 75 (lasO S.o (k + 1)) TT := ro_las hO3 eV1
    have hVL : VO (lasO S.o (k + 1)) := v_las hV.o (by omega)
    have hdL : (lasO S.o (k + 1)).day = S.o.day := rfl
    have hnL : (lasO S.o (k + 1)).n = S.o.n := rfl
    have hls : lsdN S s i p n (k + 1) = lsoN (matN (lasO S.o (k + 1)) S s i p) n := rfl
    generalize lasO S.o (k + 1) = E at *
    refine mjT_go 3 (pc' := 116) (L' := [some (.ref 0), some (.int (nI p)), some (.int (nI s)), some (.int (nI l)), some (.int (nI i)), some (.int (nI n)), some (.int (nI 0)), some (.int (nI (lasN (lsdN S s i p n) k))), some (.int (nI (k + 1)))]) (st' := [.int (nI p), .ref 75]) (w1 := (KC, V1, J, GC)) rfl ?_
    refine mjT_call (as := [.ref 75, .int (nI p)]) (rest := []) rfl rfl rfl rfl rfl ⟨rfl, rfl⟩ (c_watchOnly hVL og_75 hO4 (show p < E.n by omega)) ?_
    rintro _ _ ⟨rfl, I5, mm, rfl, hf5, hW5, _, _⟩
    have hO5 := ro_P (ro_watch hO4 hf5) (fun q (_ : PcN E p q) => trivial)
    refine mjT_go 6 (pc' := 130) (L' := [some (.ref 0), some (.int (nI p)), some (.int (nI s)), some (.int (nI l)), some (.int (nI i)), some (.int (nI n)), some (.int (nI 0)), some (.int (nI (lasN (lsdN S s i p n) k))), some (.int (nI (k + 1)))]) (st' := [.ref 96, .int (nI 60), .int (nI p), .ref 75]) (w1 := (KC, I5, J, GC)) rfl ?_
    refine mjT_call (as := [.ref 75, .int (nI p), .int (nI 60), .ref 96]) (rest := []) rfl rfl rfl rfl rfl ⟨rfl, rfl⟩ (c_follow hVL og_75 (by omega) hO5 hW5 (Nat.le_refl 60) (by omega) (show p < E.n by omega) (pc_self _ _)) ?_
    rintro _ _ ⟨rfl, I6, rfl, ht6, hf6⟩
    have hC6 : CW I6 J S := cw_tr hC2 hV (fun h a b => by rw [hf6 h (by omega) (by omega) (by omega) (by omega) b, hf5.1 h (by omega) (by omega) (by omega), st_h eV1 (by omega), hf3 h (by omega)])
    have ht := c_areOnTrail hV hC6 (show s < 4 by omega) hz1 hin hn8 hA hVL (show p < E.n by omega) (by omega) ht6
    have hb2 := lso_lt (matN E S s i p) n
    rw [← hls] at ht hb2
    have nxt : ∀ b, b = lsdN S s i p n (k + 1) → lasN (lsdN S s i p n) k ||| b * 2 ^ (k + 1) = lasN (lsdN S s i p n) (k + 1) := fun b e => by rw [e]; rfl
    refine mjT_go 4 (pc' := 139) (L' := [some (.ref 0), some (.int (nI p)), some (.int (nI s)), some (.int (nI l)), some (.int (nI i)), some (.int (nI n)), some (.int (nI 0)), some (.int (nI (lasN (lsdN S s i p n) k))), some (.int (nI (k + 1)))]) (st' := [.int (nI n), .int (nI i), .int (nI s), .ref 0]) (w1 := (KC, I6, J, GC)) rfl ?_
    refine mjT_callE (as := [.ref 0, .int (nI s), .int (nI i), .int (nI n)]) (rest := []) (r1 := some (.int (nI (lsdN S s i p n (k + 1))))) rfl rfl rfl rfl rfl ⟨rfl, rfl⟩ ht ?_
    refine mjT_go 1 (pc' := if nI (lsdN S s i p n (k + 1)) = 0 then 154 else 145) (L' := [some (.ref 0), some (.int (nI p)), some (.int (nI s)), some (.int (nI l)), some (.int (nI i)), some (.int (nI n)), some (.int (nI 0)), some (.int (nI (lasN (lsdN S s i p n) k))), some (.int (nI (k + 1)))]) (st' := []) (w1 := (KC, I6, J, GC)) rfl ?_
    refine mjT_if_eq (u := lsdN S s i p n (k + 1)) (v := 0) rfl nI_0.symm (by omega) (by omega) (fun h6 => ?_) (fun h6 => ?_)
    · refine mjT_go 2 (pc' := 84) (L' := [some (.ref 0), some (.int (nI p)), some (.int (nI s)), some (.int (nI l)), some (.int (nI i)), some (.int (nI n)), some (.int (nI 0)), some (.int (nI (lasN (lsdN S s i p n) k))), some (.int ((nI (k + 1)) + (nI 1)))]) (st' := []) (w1 := (KC, I6, J, GC)) rfl ?_
      have e0 := nxt 0 (by omega)
      rw [Nat.zero_mul, Nat.or_zero] at e0
      rw [nI_add, e0]
      exact hc _ _ ⟨_, rfl, rfl, hC6⟩
    · refine mjT_go 4 (pc' := 151) (L' := [some (.ref 0), some (.int (nI p)), some (.int (nI s)), some (.int (nI l)), some (.int (nI i)), some (.int (nI n)), some (.int (nI 0)), some (.int (nI (lasN (lsdN S s i p n) k))), some (.int (nI (k + 1)))]) (st' := [.int ((nI 1) <<< ((nI (k + 1)) &&& 31)), .int (nI (lasN (lsdN S s i p n) k))]) (w1 := (KC, I6, J, GC)) rfl ?_
      refine mjT_go 1 (pc' := 152) (L' := [some (.ref 0), some (.int (nI p)), some (.int (nI s)), some (.int (nI l)), some (.int (nI i)), some (.int (nI n)), some (.int (nI 0)), some (.int (nI (lasN (lsdN S s i p n) k))), some (.int (nI (k + 1)))]) (st' := [.int ((nI (lasN (lsdN S s i p n) k)) ||| ((nI 1) <<< ((nI (k + 1)) &&& 31)))]) (w1 := (KC, I6, J, GC)) rfl ?_
      rw [shb 1 (by omega) (k + 1) (by omega), nI_or, nxt 1 (by omega)]
      refine mjT_go 3 (pc' := 84) (L' := [some (.ref 0), some (.int (nI p)), some (.int (nI s)), some (.int (nI l)), some (.int (nI i)), some (.int (nI n)), some (.int (nI 0)), some (.int (nI (lasN (lsdN S s i p n) (k + 1)))), some (.int ((nI (k + 1)) + (nI 1)))]) (st' := []) (w1 := (KC, I6, J, GC)) rfl ?_
      rw [nI_add]
      exact hc _ _ ⟨_, rfl, rfl, hC6⟩
  · rintro _ _ ⟨I2, rfl, rfl, hC2⟩
    refine mjT_go 3 (pc' := if nI 30 < nI (30 + 1) then 160 else 91) (L' := [some (.ref 0), some (.int (nI p)), some (.int (nI s)), some (.int (nI l)), some (.int (nI i)), some (.int (nI n)), some (.int (nI 0)), some (.int (nI (lasN (lsdN S s i p n) 30))), some (.int (nI (30 + 1)))]) (st' := []) (w1 := (KC, I2, J, GC)) rfl ?_
    refine mjT_ifT (by decide) ?_
    refine mjT_go 1 (pc' := 162) (L' := [some (.ref 0), some (.int (nI p)), some (.int (nI s)), some (.int (nI l)), some (.int (nI i)), some (.int (nI n)), some (.int (nI 0)), some (.int (nI (lasN (lsdN S s i p n) 30))), some (.int (nI (30 + 1)))]) (st' := [.int (nI (lasN (lsdN S s i p n) 30))]) (w1 := (KC, I2, J, GC)) rfl ?_
    refine mjT_ret rfl rfl rfl ?_
    exact ⟨rfl, _, _, rfl, hC2⟩
theorem mm_lasted (hV : VS S) (hM : MW I J S) {x y z u v : Int32} : mj_E 207 [.ref 0, .int x, .int y, .int z, .int u, .int v] (KM, I, J, GM) (fun w' r => r = some (.int (aLasted S x y z u v)) ∧ ∃ I' J', w' = (KM, I', J', GM) ∧ MW I' J' S) := by
  have hn := hV.o.n
  have hd := hV.day
  have hr1 := ip01 x S.o.n
  have hr2 := ir01 y 0 3
  have hr3 := ir01 z 0 3
  have hr4 := ir01 v 1 8
  unfold aLasted
  refine mjT_go 2 (pc' := 2) (L' := [some (.ref 0), some (.int x), some (.int y), some (.int z), some (.int u), some (.int v), none, none]) (st' := [.int x, .ref 0]) (w1 := (KM, I, J, GM)) rfl ?_
  refine mjT_callE (as := [.ref 0, .int x]) (rest := []) (r1 := some (.int (nI (iP x S.o.n)))) rfl rfl rfl rfl rfl ⟨rfl, rfl⟩ (m_isPerson hV.o hM.o) ?_
  refine mjT_go 1 (pc' := if nI (iP x S.o.n) = 0 then 40 else 8) (L' := [some (.ref 0), some (.int x), some (.int y), some (.int z), some (.int u), some (.int v), none, none]) (st' := []) (w1 := (KM, I, J, GM)) rfl ?_
  refine mjT_if_eq (u := iP x S.o.n) (v := 0) rfl nI_0.symm (by omega) (by omega) (fun h1 => ?_) (fun h1 => ?_)
  · rw [if_neg (by omega)]
    refine mjT_go 1 (pc' := 41) (L' := [some (.ref 0), some (.int x), some (.int y), some (.int z), some (.int u), some (.int v), none, none]) (st' := [.int (-1)]) (w1 := (KM, I, J, GM)) rfl ?_
    refine mjT_ret rfl rfl rfl ?_
    exact ⟨rfl, _, _, rfl, hM⟩
  refine mjT_go 1 (pc' := 9) (L' := [some (.ref 0), some (.int x), some (.int y), some (.int z), some (.int u), some (.int v), none, none]) (st' := [.int y]) (w1 := (KM, I, J, GM)) rfl ?_
  refine mjT_callE (as := [.int y]) (rest := []) (r1 := some (.int (nI (iR y 0 3)))) rfl rfl rfl rfl rfl ⟨rfl, rfl⟩ m_isSheet ?_
  refine mjT_go 1 (pc' := if nI (iR y 0 3) = 0 then 40 else 15) (L' := [some (.ref 0), some (.int x), some (.int y), some (.int z), some (.int u), some (.int v), none, none]) (st' := []) (w1 := (KM, I, J, GM)) rfl ?_
  refine mjT_if_eq (u := iR y 0 3) (v := 0) rfl nI_0.symm (by omega) (by omega) (fun h2 => ?_) (fun h2 => ?_)
  · rw [if_neg (by omega)]
    refine mjT_go 1 (pc' := 41) (L' := [some (.ref 0), some (.int x), some (.int y), some (.int z), some (.int u), some (.int v), none, none]) (st' := [.int (-1)]) (w1 := (KM, I, J, GM)) rfl ?_
    refine mjT_ret rfl rfl rfl ?_
    exact ⟨rfl, _, _, rfl, hM⟩
  refine mjT_go 4 (pc' := 21) (L' := [some (.ref 0), some (.int x), some (.int y), some (.int z), some (.int u), some (.int v), none, none]) (st' := [.long (lN 3), .long (lN 0), .long z.toInt64]) (w1 := (KM, I, J, GM)) rfl ?_
  refine mjT_callE (as := [.long z.toInt64, .long (lN 0), .long (lN 3)]) (rest := []) (r1 := some (.int (nI (iR z 0 3)))) rfl rfl rfl rfl rfl ⟨rfl, rfl⟩ (m_inR (by decide) (by decide)) ?_
  refine mjT_go 1 (pc' := if nI (iR z 0 3) = 0 then 40 else 27) (L' := [some (.ref 0), some (.int x), some (.int y), some (.int z), some (.int u), some (.int v), none, none]) (st' := []) (w1 := (KM, I, J, GM)) rfl ?_
  refine mjT_if_eq (u := iR z 0 3) (v := 0) rfl nI_0.symm (by omega) (by omega) (fun h3 => ?_) (fun h3 => ?_)
  · rw [if_neg (by omega)]
    refine mjT_go 1 (pc' := 41) (L' := [some (.ref 0), some (.int x), some (.int y), some (.int z), some (.int u), some (.int v), none, none]) (st' := [.int (-1)]) (w1 := (KM, I, J, GM)) rfl ?_
    refine mjT_ret rfl rfl rfl ?_
    exact ⟨rfl, _, _, rfl, hM⟩
  refine mjT_go 4 (pc' := 34) (L' := [some (.ref 0), some (.int x), some (.int y), some (.int z), some (.int u), some (.int v), none, none]) (st' := [.long (lN 8), .long (lN 1), .long v.toInt64]) (w1 := (KM, I, J, GM)) rfl ?_
  refine mjT_callE (as := [.long v.toInt64, .long (lN 1), .long (lN 8)]) (rest := []) (r1 := some (.int (nI (iR v 1 8)))) rfl rfl rfl rfl rfl ⟨rfl, rfl⟩ (m_inR (by decide) (by decide)) ?_
  refine mjT_go 1 (pc' := if ¬ nI (iR v 1 8) = 0 then 42 else 40) (L' := [some (.ref 0), some (.int x), some (.int y), some (.int z), some (.int u), some (.int v), none, none]) (st' := []) (w1 := (KM, I, J, GM)) rfl ?_
  refine mjT_if_ne (u := iR v 1 8) (v := 0) rfl nI_0.symm (by omega) (by omega) (fun h4 => ?_) (fun h4 => ?_)
  rotate_left
  · rw [if_neg (by omega)]
    refine mjT_go 1 (pc' := 41) (L' := [some (.ref 0), some (.int x), some (.int y), some (.int z), some (.int u), some (.int v), none, none]) (st' := [.int (-1)]) (w1 := (KM, I, J, GM)) rfl ?_
    refine mjT_ret rfl rfl rfl ?_
    exact ⟨rfl, _, _, rfl, hM⟩
  rw [if_pos (show iP x S.o.n = 1 ∧ iR y 0 3 = 1 ∧ iR z 0 3 = 1 ∧ iR v 1 8 = 1 by omega)]
  obtain ⟨p, hp, rfl⟩ := iP_1 (x := x) (n := S.o.n) (by omega) (by omega)
  obtain ⟨s, _, hs, rfl⟩ := iR_1 (x := y) (a := 0) (b := 3) (by omega) (by omega) (by omega)
  obtain ⟨l, _, hl, rfl⟩ := iR_1 (x := z) (a := 0) (b := 3) (by omega) (by omega) (by omega)
  obtain ⟨n, hn1, hn8, rfl⟩ := iR_1 (x := v) (a := 1) (b := 8) (by omega) (by omega) (by omega)
  rw [nn_N (n := s) (by omega), nn_N (n := l) (by omega), nn_N (n := p) (by omega), nn_N (n := n) (by omega)]
  refine mjT_go 7 (pc' := 51) (L' := [some (.ref 0), some (.int (nI p)), some (.int (nI s)), some (.int (nI l)), some (.int u), some (.int (nI n)), none, none]) (st' := [.int ((nI 2) * (nI n)), .int u, .int (nI l), .int (nI s), .ref 0]) (w1 := (KM, I, J, GM)) rfl ?_
  rw [pk_mul]
  refine mjT_callE (as := [.ref 0, .int (nI s), .int (nI l), .int u, .int (nI (2 * n))]) (rest := []) (r1 := some (.int (refN S s l u (nI (2 * n))))) rfl rfl rfl rfl rfl ⟨rfl, rfl⟩ (m_refusedRow hV hM (by omega) (by omega)) ?_
  refine mjT_go 1 (pc' := if 0 ≤ refN S s l u (nI (2 * n)) then 70 else 57) (L' := [some (.ref 0), some (.int (nI p)), some (.int (nI s)), some (.int (nI l)), some (.int u), some (.int (nI n)), none, none]) (st' := []) (w1 := (KM, I, J, GM)) rfl ?_
  rcases refN_cases S s l u (nI (2 * n)) with ⟨hneg, _⟩ | ⟨h0, hsz, hln, hh⟩
  · rw [if_pos hneg]
    refine mjT_ifF (fun q => i32_nlt.mpr q hneg) ?_
    refine mjT_go 7 (pc' := 66) (L' := [some (.ref 0), some (.int (nI p)), some (.int (nI s)), some (.int (nI l)), some (.int u), some (.int (nI n)), none, none]) (st' := [.int ((nI 2) * (nI n)), .int u, .int (nI l), .int (nI s), .ref 0]) (w1 := (KM, I, J, GM)) rfl ?_
    rw [pk_mul]
    refine mjT_callE (as := [.ref 0, .int (nI s), .int (nI l), .int u, .int (nI (2 * n))]) (rest := []) (r1 := some (.int (refN S s l u (nI (2 * n))))) rfl rfl rfl rfl rfl ⟨rfl, rfl⟩ (m_refusedRow hV hM (by omega) (by omega)) ?_
    refine mjT_ret rfl rfl rfl ?_
    exact ⟨rfl, _, _, rfl, hM⟩
  rw [h0, if_neg (show ¬ nI 0 < 0 by decide)]
  refine mjT_ifT (by decide) ?_
  have hzz := hV.sz s (by omega)
  have hz1 : S.sz s = (S.sz s - 1) + 1 := by omega
  obtain ⟨i, n2, rfl, hn2, hin, hi31, hn231⟩ := hN_1 hh
  obtain rfl : 2 * n = n2 := (nI_eq (by omega) hn231).mp hn2
  rw [nn_N hi31]
  have hal := arP_lt S s i n
  refine mjT_go 4 (pc' := 76) (L' := [some (.ref 0), some (.int (nI p)), some (.int (nI s)), some (.int (nI l)), some (.int (nI i)), some (.int (nI n)), none, none]) (st' := [.int (nI n), .int (nI i), .int (nI s), .ref 0]) (w1 := (KM, I, J, GM)) rfl ?_
  refine mjT_callE (as := [.ref 0, .int (nI s), .int (nI i), .int (nI n)]) (rest := []) (r1 := some (.int (nI (arP S s i n)))) rfl rfl rfl rfl rfl ⟨rfl, rfl⟩ (m_arePapers hM (by omega) (show S.sz s - 1 ≤ 24 by omega) hin hn8) ?_
  refine mjT_go 1 (pc' := if ¬ nI (arP S s i n) = 0 then 85 else 82) (L' := [some (.ref 0), some (.int (nI p)), some (.int (nI s)), some (.int (nI l)), some (.int (nI i)), some (.int (nI n)), none, none]) (st' := []) (w1 := (KM, I, J, GM)) rfl ?_
  refine mjT_if_ne (u := arP S s i n) (v := 0) rfl nI_0.symm (by omega) (by omega) (fun h5 => ?_) (fun h5 => ?_)
  rotate_left
  · rw [if_neg (show ¬ arP S s i n = 1 by omega)]
    refine mjT_go 1 (pc' := 84) (L' := [some (.ref 0), some (.int (nI p)), some (.int (nI s)), some (.int (nI l)), some (.int (nI i)), some (.int (nI n)), none, none]) (st' := [.int (-2)]) (w1 := (KM, I, J, GM)) rfl ?_
    refine mjT_ret rfl rfl rfl ?_
    exact ⟨rfl, _, _, rfl, hM⟩
  have hA : arP S s i n = 1 := by omega
  rw [if_pos hA]
  refine mjT_go 4 (pc' := 91) (L' := [some (.ref 0), some (.int (nI p)), some (.int (nI s)), some (.int (nI l)), some (.int (nI i)), some (.int (nI n)), some (.int (nI 0)), some (.int (nI 1))]) (st' := []) (w1 := (KM, I, J, GM)) rfl ?_
  refine mj_loop (fun k L w => ∃ I', L = [some (.ref 0), some (.int (nI p)), some (.int (nI s)), some (.int (nI l)), some (.int (nI i)), some (.int (nI n)), some (.int (nI (lasN (lsdN S s i p n) k))), some (.int (nI (k + 1)))] ∧ w = (KM, I', J, GM) ∧ MW I' J S) 30 (k0 := 0) (Nat.zero_le _) ?_ ?_ ?_
  · exact ⟨_, rfl, rfl, hM⟩
  · rintro k _ _ hk ⟨I2, rfl, rfl, hM2⟩ hc
    have hb2 := lso_lt (matN (lasO S.o (k + 1)) S s i p) n
    refine mjT_go 3 (pc' := if nI 31 ≤ nI (k + 1) then 127 else 98) (L' := [some (.ref 0), some (.int (nI p)), some (.int (nI s)), some (.int (nI l)), some (.int (nI i)), some (.int (nI n)), some (.int (nI (lasN (lsdN S s i p n) k))), some (.int (nI (k + 1)))]) (st' := []) (w1 := (KM, I2, J, GM)) rfl ?_
    refine mjT_ifF (nI_ge (by omega) (by omega)) ?_
    refine mjT_go 7 (pc' := 109) (L' := [some (.ref 0), some (.int (nI p)), some (.int (nI s)), some (.int (nI l)), some (.int (nI i)), some (.int (nI n)), some (.int (nI (lasN (lsdN S s i p n) k))), some (.int (nI (k + 1)))]) (st' := [.int (nI n), .int (nI i), .int (nI s), .int (nI (k + 1)), .int (nI p), .ref 0, .int (nI (lasN (lsdN S s i p n) k))]) (w1 := (KM, I2, J, GM)) rfl ?_
    refine mjT_call (as := [.ref 0, .int (nI p), .int (nI (k + 1)), .int (nI s), .int (nI i), .int (nI n)]) (rest := [.int (nI (lasN (lsdN S s i p n) k))]) rfl rfl rfl rfl rfl ⟨rfl, rfl⟩ (m_lastsSo hV hM2 (show s < 4 by omega) hz1 hin hn8 hA hp (show 1 ≤ k + 1 ∧ k + 1 ≤ 30 by omega)) ?_
    rintro _ _ ⟨rfl, I3, rfl, hM3⟩
    refine mjT_callE (as := [.int (nI (lsdN S s i p n (k + 1)))]) (rest := [.int (nI (lasN (lsdN S s i p n) k))]) (r1 := some (.int (nI (lsdN S s i p n (k + 1))))) rfl rfl rfl rfl rfl ⟨rfl, rfl⟩ (m_one hb2 _) ?_
    refine mjT_go 2 (pc' := 118) (L' := [some (.ref 0), some (.int (nI p)), some (.int (nI s)), some (.int (nI l)), some (.int (nI i)), some (.int (nI n)), some (.int (nI (lasN (lsdN S s i p n) k))), some (.int (nI (k + 1)))]) (st' := [.int ((nI (lsdN S s i p n (k + 1))) <<< ((nI (k + 1)) &&& 31)), .int (nI (lasN (lsdN S s i p n) k))]) (w1 := (KM, I3, J, GM)) rfl ?_
    refine mjT_go 1 (pc' := 119) (L' := [some (.ref 0), some (.int (nI p)), some (.int (nI s)), some (.int (nI l)), some (.int (nI i)), some (.int (nI n)), some (.int (nI (lasN (lsdN S s i p n) k))), some (.int (nI (k + 1)))]) (st' := [.int ((nI (lasN (lsdN S s i p n) k)) ||| ((nI (lsdN S s i p n (k + 1))) <<< ((nI (k + 1)) &&& 31)))]) (w1 := (KM, I3, J, GM)) rfl ?_
    rw [shb (lsdN S s i p n (k + 1)) hb2 (k + 1) (by omega), nI_or, show lasN (lsdN S s i p n) k ||| lsdN S s i p n (k + 1) * 2 ^ (k + 1) = lasN (lsdN S s i p n) (k + 1) from rfl]
    refine mjT_go 3 (pc' := 91) (L' := [some (.ref 0), some (.int (nI p)), some (.int (nI s)), some (.int (nI l)), some (.int (nI i)), some (.int (nI n)), some (.int (nI (lasN (lsdN S s i p n) (k + 1)))), some (.int ((nI (k + 1)) + (nI 1)))]) (st' := []) (w1 := (KM, I3, J, GM)) rfl ?_
    rw [nI_add]
    exact hc _ _ ⟨_, rfl, rfl, hM3⟩
  · rintro _ _ ⟨I2, rfl, rfl, hM2⟩
    refine mjT_go 3 (pc' := if nI 31 ≤ nI (30 + 1) then 127 else 98) (L' := [some (.ref 0), some (.int (nI p)), some (.int (nI s)), some (.int (nI l)), some (.int (nI i)), some (.int (nI n)), some (.int (nI (lasN (lsdN S s i p n) 30))), some (.int (nI (30 + 1)))]) (st' := []) (w1 := (KM, I2, J, GM)) rfl ?_
    refine mjT_ifT (by decide) ?_
    refine mjT_go 1 (pc' := 129) (L' := [some (.ref 0), some (.int (nI p)), some (.int (nI s)), some (.int (nI l)), some (.int (nI i)), some (.int (nI n)), some (.int (nI (lasN (lsdN S s i p n) 30))), some (.int (nI (30 + 1)))]) (st' := [.int (nI (lasN (lsdN S s i p n) 30))]) (w1 := (KM, I2, J, GM)) rfl ?_
    refine mjT_ret rfl rfl rfl ?_
    exact ⟨rfl, _, _, rfl, hM2⟩
theorem sim_lasted {x y z u v : Int32} : SimO 102 207 [.int x, .int y, .int z, .int u, .int v] := fun S _ _ _ _ hV hC hM => ⟨S, _, hV, cc_lasted hV hC, mm_lasted hV hM⟩
end LA
