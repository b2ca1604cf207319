/-! sheets -/
def hN (m : Nat) (x y : Int32) : Nat := if 0 ≤ x ∧ 0 ≤ y ∧ nn x + nn y ≤ m then 1 else 0
theorem hN_lt (m : Nat) (x y : Int32) : hN m x y < 2 := by unfold hN; split <;> omega
theorem hN_1 {m : Nat} {x y : Int32} (h : hN m x y = 1) : ∃ a b, x = nI a ∧ y = nI b ∧ a + b ≤ m ∧ a < 2 ^ 31 ∧ b < 2 ^ 31 := by
  unfold hN at h
  by_cases q : 0 ≤ x ∧ 0 ≤ y ∧ nn x + nn y ≤ m
  · obtain ⟨h1, h2, h3⟩ := q
    obtain ⟨a, ha, rfl⟩ := nI_of (i32_nlt.mpr h1)
    obtain ⟨b, hb, rfl⟩ := nI_of (i32_nlt.mpr h2)
    rw [nn_N ha, nn_N hb] at h3
    exact ⟨a, b, rfl, rfl, h3, ha, hb⟩
  · rw [if_neg q] at h; exact absurd h (by omega)
def cutN (l : Nat) (v : Int64) : Int64 := if l = 0 then v.toInt32.toInt8.toInt32.toInt64 else if l = 1 then v.toInt32.toInt16.toInt32.toInt64 else if l = 2 then v.toInt32.toInt64 else v
noncomputable def refN (S : Sta) (s l : Nat) (x y : Int32) : Int32 := if S.sz s = 0 then -11 else if S.ln s = l then (if hN (S.sz s - 1) x y = 1 then nI 0 else -13) else -12
theorem sh_ref : ∀ s, s < 4 → GC 91 s = some (92 + s) := fun s hs => by
  obtain rfl | rfl | rfl | rfl : s = 0 ∨ s = 1 ∨ s = 2 ∨ s = 3 := by omega
  · rfl
  · rfl
  · rfl
  · rfl
theorem sh_kind : ∀ s, s < 4 → KC.getD (92 + s) (99, 0) = (2, 24) := fun s hs => by
  obtain rfl | rfl | rfl | rfl : s = 0 ∨ s = 1 ∨ s = 2 ∨ s = 3 := by omega
  · rfl
  · rfl
  · rfl
  · rfl
section SH
variable {I I' : Nat → Nat → Int32} {J J' : Nat → Nat → Int64} {K : List (Nat × Nat)} {G : Nat → Nat → Option Nat} {S : Sta} {o q : Nat} {O : Off} {P : Nat → Prop}
theorem c_low {l : Nat} (hl : l < 4) {v : Int64} : mj_Ev 70 [.int (nI l), .long v] (K, I, J, G) (K, I, J, G) (some (.long (cutN l v))) := by
  refine mj_ev_of ?_
  obtain rfl | rfl | rfl | rfl : l = 0 ∨ l = 1 ∨ l = 2 ∨ l = 3 := by omega
  · refine mjT_go 2 (pc' := (if nI 0 = nI 0 then 28 else (if nI 0 = nI 1 then 33 else (if nI 0 = nI 2 then 38 else 42)))) (L' := [some (.int (nI 0)), some (.long v), none]) (st' := []) (w1 := (K, I, J, G)) rfl ?_
    refine mjT_ifT rfl ?_
    refine mjT_go 4 (pc' := 32) (L' := [some (.int (nI 0)), some (.long v), none]) (st' := [.long v.toInt32.toInt8.toInt32.toInt64]) (w1 := (K, I, J, G)) rfl ?_
    refine mjT_ret rfl rfl rfl ?_
    exact ⟨rfl, rfl⟩
  · refine mjT_go 2 (pc' := (if nI 1 = nI 0 then 28 else (if nI 1 = nI 1 then 33 else (if nI 1 = nI 2 then 38 else 42)))) (L' := [some (.int (nI 1)), some (.long v), none]) (st' := []) (w1 := (K, I, J, G)) rfl ?_
    refine mjT_ifF (by decide) ?_
    refine mjT_ifT rfl ?_
    refine mjT_go 4 (pc' := 37) (L' := [some (.int (nI 1)), some (.long v), none]) (st' := [.long v.toInt32.toInt16.toInt32.toInt64]) (w1 := (K, I, J, G)) rfl ?_
    refine mjT_ret rfl rfl rfl ?_
    exact ⟨rfl, rfl⟩
  · refine mjT_go 2 (pc' := (if nI 2 = nI 0 then 28 else (if nI 2 = nI 1 then 33 else (if nI 2 = nI 2 then 38 else 42)))) (L' := [some (.int (nI 2)), some (.long v), none]) (st' := []) (w1 := (K, I, J, G)) rfl ?_
    refine mjT_ifF (by decide) ?_
    refine mjT_ifF (by decide) ?_
    refine mjT_ifT rfl ?_
    refine mjT_go 3 (pc' := 41) (L' := [some (.int (nI 2)), some (.long v), none]) (st' := [.long v.toInt32.toInt64]) (w1 := (K, I, J, G)) rfl ?_
    refine mjT_ret rfl rfl rfl ?_
    exact ⟨rfl, rfl⟩
  · refine mjT_go 2 (pc' := (if nI 3 = nI 0 then 28 else (if nI 3 = nI 1 then 33 else (if nI 3 = nI 2 then 38 else 42)))) (L' := [some (.int (nI 3)), some (.long v), none]) (st' := []) (w1 := (K, I, J, G)) rfl ?_
    refine mjT_ifF (by decide) ?_
    refine mjT_ifF (by decide) ?_
    refine mjT_ifF (by decide) ?_
    refine mjT_go 1 (pc' := 43) (L' := [some (.int (nI 3)), some (.long v), none]) (st' := [.long v]) (w1 := (K, I, J, G)) rfl ?_
    refine mjT_ret rfl rfl rfl ?_
    exact ⟨rfl, rfl⟩
theorem m_cut {l : Nat} (hl : l < 4) {v : Int64} : mj_Ev 202 [.int (nI l), .long v] (K, I, J, G) (K, I, J, G) (some (.long (cutN l v))) := by
  refine mj_ev_of ?_
  obtain rfl | rfl | rfl | rfl : l = 0 ∨ l = 1 ∨ l = 2 ∨ l = 3 := by omega
  · refine mjT_go 2 (pc' := if ¬ nI 0 = 0 then 11 else 4) (L' := [some (.int (nI 0)), some (.long v), none]) (st' := []) (w1 := (K, I, J, G)) rfl ?_
    refine mjT_ifF (fun q => q nI_0) ?_
    refine mjT_go 5 (pc' := 35) (L' := [some (.int (nI 0)), some (.long v), none]) (st' := [.long v.toInt32.toInt8.toInt32.toInt64]) (w1 := (K, I, J, G)) rfl ?_
    refine mjT_ret rfl rfl rfl ?_
    exact ⟨rfl, rfl⟩
  · refine mjT_go 2 (pc' := if ¬ nI 1 = 0 then 11 else 4) (L' := [some (.int (nI 1)), some (.long v), none]) (st' := []) (w1 := (K, I, J, G)) rfl ?_
    refine mjT_ifT (by decide) ?_
    refine mjT_go 3 (pc' := if ¬ nI 1 = nI 1 then 23 else 16) (L' := [some (.int (nI 1)), some (.long v), none]) (st' := []) (w1 := (K, I, J, G)) rfl ?_
    refine mjT_ifF (fun q => q rfl) ?_
    refine mjT_go 5 (pc' := 35) (L' := [some (.int (nI 1)), some (.long v), none]) (st' := [.long v.toInt32.toInt16.toInt32.toInt64]) (w1 := (K, I, J, G)) rfl ?_
    refine mjT_ret rfl rfl rfl ?_
    exact ⟨rfl, rfl⟩
  · refine mjT_go 2 (pc' := if ¬ nI 2 = 0 then 11 else 4) (L' := [some (.int (nI 2)), some (.long v), none]) (st' := []) (w1 := (K, I, J, G)) rfl ?_
    refine mjT_ifT (by decide) ?_
    refine mjT_go 3 (pc' := if ¬ nI 2 = nI 1 then 23 else 16) (L' := [some (.int (nI 2)), some (.long v), none]) (st' := []) (w1 := (K, I, J, G)) rfl ?_
    refine mjT_ifT (by decide) ?_
    refine mjT_go 3 (pc' := if ¬ nI 2 = nI 2 then 34 else 28) (L' := [some (.int (nI 2)), some (.long v), none]) (st' := []) (w1 := (K, I, J, G)) rfl ?_
    refine mjT_ifF (fun q => q rfl) ?_
    refine mjT_go 4 (pc' := 35) (L' := [some (.int (nI 2)), some (.long v), none]) (st' := [.long v.toInt32.toInt64]) (w1 := (K, I, J, G)) rfl ?_
    refine mjT_ret rfl rfl rfl ?_
    exact ⟨rfl, rfl⟩
  · refine mjT_go 2 (pc' := if ¬ nI 3 = 0 then 11 else 4) (L' := [some (.int (nI 3)), some (.long v), none]) (st' := []) (w1 := (K, I, J, G)) rfl ?_
    refine mjT_ifT (by decide) ?_
    refine mjT_go 3 (pc' := if ¬ nI 3 = nI 1 then 23 else 16) (L' := [some (.int (nI 3)), some (.long v), none]) (st' := []) (w1 := (K, I, J, G)) rfl ?_
    refine mjT_ifT (by decide) ?_
    refine mjT_go 3 (pc' := if ¬ nI 3 = nI 2 then 34 else 28) (L' := [some (.int (nI 3)), some (.long v), none]) (st' := []) (w1 := (K, I, J, G)) rfl ?_
    refine mjT_ifT (by decide) ?_
    refine mjT_go 1 (pc' := 35) (L' := [some (.int (nI 3)), some (.long v), none]) (st' := [.long v]) (w1 := (K, I, J, G)) rfl ?_
    refine mjT_ret rfl rfl rfl ?_
    exact ⟨rfl, rfl⟩
theorem c_holds {s m : Nat} (hs : s < 4) (hm : m < 100) (hz : I 90 s = nI m) {x y : Int32} : mj_Ev 66 [.ref 88, .int (nI s), .int x, .int y] (KC, I, J, GC) (KC, I, J, GC) (some (.int (nI (hN m x y)))) := by
  refine mj_ev_of ?_
  unfold hN
  refine mjT_go 2 (pc' := if x < 0 then 28 else 4) (L' := [some (.ref 88), some (.int (nI s)), some (.int x), some (.int y)]) (st' := []) (w1 := (KC, I, J, GC)) rfl ?_
  refine mjT_if (fun h1 => ?_) (fun h1 => ?_)
  · rw [if_neg (fun q => i32_nlt.mpr q.1 h1)]
    refine mjT_go 1 (pc' := 29) (L' := [some (.ref 88), some (.int (nI s)), some (.int x), some (.int y)]) (st' := [.int (nI 0)]) (w1 := (KC, I, J, GC)) rfl ?_
    refine mjT_retb rfl rfl (by decide) ?_
    exact ⟨rfl, rfl⟩
  refine mjT_go 2 (pc' := if y < 0 then 28 else 8) (L' := [some (.ref 88), some (.int (nI s)), some (.int x), some (.int y)]) (st' := []) (w1 := (KC, I, J, GC)) rfl ?_
  refine mjT_if (fun h2 => ?_) (fun h2 => ?_)
  · rw [if_neg (fun q => i32_nlt.mpr q.2.1 h2)]
    refine mjT_go 1 (pc' := 29) (L' := [some (.ref 88), some (.int (nI s)), some (.int x), some (.int y)]) (st' := [.int (nI 0)]) (w1 := (KC, I, J, GC)) rfl ?_
    refine mjT_retb rfl rfl (by decide) ?_
    exact ⟨rfl, rfl⟩
  obtain ⟨a, ha, rfl⟩ := nI_of h1
  obtain ⟨b, hb, rfl⟩ := nI_of h2
  rw [nn_N ha, nn_N hb]
  refine mjT_go 8 (pc' := 18) (L' := [some (.ref 88), some (.int (nI s)), some (.int (nI a)), some (.int (nI b))]) (st' := [.int (nI s), .ref 90, .long (((nI a).toInt64) + ((nI b).toInt64))]) (w1 := (KC, I, J, GC)) rfl ?_
  refine mjT_ial (v := nI m) s 4 rfl (pc' := 19) rfl rfl rfl (by omega) (by omega) (show I 90 s = nI m from hz) ?_
  refine mjT_go 3 (pc' := if 0 < lg_cmp (((nI a).toInt64) + ((nI b).toInt64)) ((nI m).toInt64) then 28 else 24) (L' := [some (.ref 88), some (.int (nI s)), some (.int (nI a)), some (.int (nI b))]) (st' := []) (w1 := (KC, I, J, GC)) rfl ?_
  refine mjT_if (fun h3 => ?_) (fun h3 => ?_)
  · rw [lg_cmp_gt, nI_l ha, nI_l hb, nI_l (by omega), lN_add, pk_lLT (by omega) (by omega)] at h3
    rw [if_neg (fun q => by omega)]
    refine mjT_go 1 (pc' := 29) (L' := [some (.ref 88), some (.int (nI s)), some (.int (nI a)), some (.int (nI b))]) (st' := [.int (nI 0)]) (w1 := (KC, I, J, GC)) rfl ?_
    refine mjT_retb rfl rfl (by decide) ?_
    exact ⟨rfl, rfl⟩
  rw [lg_cmp_gt, nI_l ha, nI_l hb, nI_l (by omega), lN_add, pk_lLT (by omega) (by omega)] at h3
  rw [if_pos ⟨nI_pos' ha, nI_pos' hb, by omega⟩]
  refine mjT_go 2 (pc' := 29) (L' := [some (.ref 88), some (.int (nI s)), some (.int (nI a)), some (.int (nI b))]) (st' := [.int (nI 1)]) (w1 := (KC, I, J, GC)) rfl ?_
  refine mjT_retb rfl rfl (by decide) ?_
  exact ⟨rfl, rfl⟩
theorem m_areThere {s m : Nat} (hs : s < 4) (hm : m < 100) (hz : I 7 s = nI m) {x y : Int32} : mj_Ev 203 [.ref 0, .int (nI s), .int x, .int y] (KM, I, J, GM) (KM, I, J, GM) (some (.int (nI (hN m x y)))) := by
  refine mj_ev_of ?_
  unfold hN
  refine mjT_go 2 (pc' := if x < 0 then 34 else 4) (L' := [some (.ref 0), some (.int (nI s)), some (.int x), some (.int y)]) (st' := []) (w1 := (KM, I, J, GM)) rfl ?_
  refine mjT_if (fun h1 => ?_) (fun h1 => ?_)
  · rw [if_neg (fun q => i32_nlt.mpr q.1 h1)]
    refine mjT_go 1 (pc' := 35) (L' := [some (.ref 0), some (.int (nI s)), some (.int x), some (.int y)]) (st' := [.int (nI 0)]) (w1 := (KM, I, J, GM)) rfl ?_
    refine mjT_retb rfl rfl (by decide) ?_
    exact ⟨rfl, rfl⟩
  refine mjT_go 2 (pc' := if y < 0 then 34 else 8) (L' := [some (.ref 0), some (.int (nI s)), some (.int x), some (.int y)]) (st' := []) (w1 := (KM, I, J, GM)) rfl ?_
  refine mjT_if (fun h2 => ?_) (fun h2 => ?_)
  · rw [if_neg (fun q => i32_nlt.mpr q.2.1 h2)]
    refine mjT_go 1 (pc' := 35) (L' := [some (.ref 0), some (.int (nI s)), some (.int x), some (.int y)]) (st' := [.int (nI 0)]) (w1 := (KM, I, J, GM)) rfl ?_
    refine mjT_retb rfl rfl (by decide) ?_
    exact ⟨rfl, rfl⟩
  obtain ⟨a, ha, rfl⟩ := nI_of h1
  obtain ⟨b, hb, rfl⟩ := nI_of h2
  rw [nn_N ha, nn_N hb]
  refine mjT_go 4 (pc' := 14) (L' := [some (.ref 0), some (.int (nI s)), some (.int (nI a)), some (.int (nI b))]) (st' := [.int (nI s), .ref 7, .int (nI a)]) (w1 := (KM, I, J, GM)) rfl ?_
  refine mjT_ial (v := nI m) s 4 rfl (pc' := 15) rfl rfl rfl (by omega) (by omega) (show I 7 s = nI m from hz) ?_
  refine mjT_go 1 (pc' := if nI m < nI a then 34 else 18) (L' := [some (.ref 0), some (.int (nI s)), some (.int (nI a)), some (.int (nI b))]) (st' := []) (w1 := (KM, I, J, GM)) rfl ?_
  refine mjT_if_lt (u := m) (v := a) rfl rfl (by omega) (by omega) (fun h3 => ?_) (fun h3 => ?_)
  · rw [if_neg (fun q => by omega)]
    refine mjT_go 1 (pc' := 35) (L' := [some (.ref 0), some (.int (nI s)), some (.int (nI a)), some (.int (nI b))]) (st' := [.int (nI 0)]) (w1 := (KM, I, J, GM)) rfl ?_
    refine mjT_retb rfl rfl (by decide) ?_
    exact ⟨rfl, rfl⟩
  refine mjT_go 4 (pc' := 24) (L' := [some (.ref 0), some (.int (nI s)), some (.int (nI a)), some (.int (nI b))]) (st' := [.int (nI s), .ref 7, .int (nI b)]) (w1 := (KM, I, J, GM)) rfl ?_
  refine mjT_ial (v := nI m) s 4 rfl (pc' := 25) rfl rfl rfl (by omega) (by omega) (show I 7 s = nI m from hz) ?_
  refine mjT_go 1 (pc' := 26) (L' := [some (.ref 0), some (.int (nI s)), some (.int (nI a)), some (.int (nI b))]) (st' := [.int (nI a), .int (nI m), .int (nI b)]) (w1 := (KM, I, J, GM)) rfl ?_
  refine mjT_go 1 (pc' := 27) (L' := [some (.ref 0), some (.int (nI s)), some (.int (nI a)), some (.int (nI b))]) (st' := [.int ((nI m) - (nI a)), .int (nI b)]) (w1 := (KM, I, J, GM)) rfl ?_
  rw [pk_sub h3]
  refine mjT_go 1 (pc' := if nI (m - a) < nI b then 34 else 30) (L' := [some (.ref 0), some (.int (nI s)), some (.int (nI a)), some (.int (nI b))]) (st' := []) (w1 := (KM, I, J, GM)) rfl ?_
  refine mjT_if_lt (u := m - a) (v := b) rfl rfl (by omega) (by omega) (fun h4 => ?_) (fun h4 => ?_)
  · rw [if_neg (fun q => by omega)]
    refine mjT_go 1 (pc' := 35) (L' := [some (.ref 0), some (.int (nI s)), some (.int (nI a)), some (.int (nI b))]) (st' := [.int (nI 0)]) (w1 := (KM, I, J, GM)) rfl ?_
    refine mjT_retb rfl rfl (by decide) ?_
    exact ⟨rfl, rfl⟩
  rw [if_pos ⟨nI_pos' ha, nI_pos' hb, by omega⟩]
  refine mjT_go 2 (pc' := 35) (L' := [some (.ref 0), some (.int (nI s)), some (.int (nI a)), some (.int (nI b))]) (st' := [.int (nI 1)]) (w1 := (KM, I, J, GM)) rfl ?_
  refine mjT_retb rfl rfl (by decide) ?_
  exact ⟨rfl, rfl⟩
theorem c_refusal (hV : VS S) (hC : CW I J S) {s l : Nat} (hs : s < 4) (hl : l < 4) {x y : Int32} : mj_Ev 64 [.ref 88, .int (nI s), .int (nI l), .int x, .int y] (KC, I, J, GC) (KC, I, J, GC) (some (.int (refN S s l x y))) := by
  refine mj_ev_of ?_
  have hz := hV.sz s hs
  have hln := hV.ln s hs
  have hCz := hC.sz s hs
  unfold refN
  refine mjT_go 3 (pc' := 5) (L' := [some (.ref 88), some (.int (nI s)), some (.int (nI l)), some (.int x), some (.int y)]) (st' := [.int (nI s), .ref 90]) (w1 := (KC, I, J, GC)) rfl ?_
  refine mjT_ial (v := sI (S.sz s)) s 4 rfl (pc' := 6) rfl rfl rfl (by omega) (by omega) (show I 90 s = sI (S.sz s) from hCz) ?_
  refine mjT_go 2 (pc' := if ¬ sI (S.sz s) = (-1) then 13 else 10) (L' := [some (.ref 88), some (.int (nI s)), some (.int (nI l)), some (.int x), some (.int y)]) (st' := []) (w1 := (KC, I, J, GC)) rfl ?_
  refine mjT_if (fun h1 => ?_) (fun h1 => ?_)
  rotate_left
  · rw [Decidable.not_not, sI_m1 (by omega)] at h1
    rw [if_pos h1]
    refine mjT_go 1 (pc' := 12) (L' := [some (.ref 88), some (.int (nI s)), some (.int (nI l)), some (.int x), some (.int y)]) (st' := [.int (-11)]) (w1 := (KC, I, J, GC)) rfl ?_
    refine mjT_ret rfl rfl rfl ?_
    exact ⟨rfl, rfl⟩
  rw [sI_m1 (by omega)] at h1
  rw [if_neg h1]
  refine mjT_go 3 (pc' := 18) (L' := [some (.ref 88), some (.int (nI s)), some (.int (nI l)), some (.int x), some (.int y)]) (st' := [.int (nI s), .ref 89]) (w1 := (KC, I, J, GC)) rfl ?_
  refine mjT_ial (v := nI (S.ln s)) s 4 rfl (pc' := 19) rfl rfl rfl (by omega) (by omega) (show I 89 s = nI (S.ln s) from (hC.ln s hs h1)) ?_
  refine mjT_go 2 (pc' := if nI (S.ln s) = nI l then 26 else 23) (L' := [some (.ref 88), some (.int (nI s)), some (.int (nI l)), some (.int x), some (.int y)]) (st' := []) (w1 := (KC, I, J, GC)) rfl ?_
  refine mjT_if_eq (u := S.ln s) (v := l) rfl rfl (by omega) (by omega) (fun h2 => ?_) (fun h2 => ?_)
  rotate_left
  · rw [if_neg h2]
    refine mjT_go 1 (pc' := 25) (L' := [some (.ref 88), some (.int (nI s)), some (.int (nI l)), some (.int x), some (.int y)]) (st' := [.int (-12)]) (w1 := (KC, I, J, GC)) rfl ?_
    refine mjT_ret rfl rfl rfl ?_
    exact ⟨rfl, rfl⟩
  rw [if_pos h2]
  obtain ⟨m, hm⟩ : ∃ m, S.sz s = m + 1 := ⟨S.sz s - 1, by omega⟩
  rw [hm, sI_s] at hCz
  rw [hm, Nat.add_sub_cancel]
  have h01 := hN_lt m x y
  refine mjT_go 4 (pc' := 31) (L' := [some (.ref 88), some (.int (nI s)), some (.int (nI l)), some (.int x), some (.int y)]) (st' := [.int y, .int x, .int (nI s), .ref 88]) (w1 := (KC, I, J, GC)) rfl ?_
  refine mjT_callE (as := [.ref 88, .int (nI s), .int x, .int y]) (rest := []) (r1 := some (.int (nI (hN m x y)))) rfl rfl rfl rfl rfl ⟨rfl, rfl⟩ (c_holds hs (by omega) hCz) ?_
  refine mjT_go 1 (pc' := if nI (hN m x y) = 0 then 41 else 37) (L' := [some (.ref 88), some (.int (nI s)), some (.int (nI l)), some (.int x), some (.int y)]) (st' := []) (w1 := (KC, I, J, GC)) rfl ?_
  refine mjT_if_eq (u := hN m x y) (v := 0) rfl nI_0.symm (by omega) (by omega) (fun h3 => ?_) (fun h3 => ?_)
  · rw [if_neg (by omega)]
    refine mjT_go 1 (pc' := 43) (L' := [some (.ref 88), some (.int (nI s)), some (.int (nI l)), some (.int x), some (.int y)]) (st' := [.int (-13)]) (w1 := (KC, I, J, GC)) rfl ?_
    refine mjT_ret rfl rfl rfl ?_
    exact ⟨rfl, rfl⟩
  rw [if_pos (by omega)]
  refine mjT_go 2 (pc' := 43) (L' := [some (.ref 88), some (.int (nI s)), some (.int (nI l)), some (.int x), some (.int y)]) (st' := [.int (nI 0)]) (w1 := (KC, I, J, GC)) rfl ?_
  refine mjT_ret rfl rfl rfl ?_
  exact ⟨rfl, rfl⟩
theorem tI_ln4 {a b : Nat} (hb : b < 4) : 0 ≤ tI (if a = 0 then 0 else b + 1) ↔ a ≠ 0 := by
  by_cases h : a = 0
  · rw [if_pos h]; exact ⟨fun q => absurd q (by decide), fun q => absurd h q⟩
  · rw [if_neg h, tI_s]; exact ⟨fun _ => h, fun _ => nI_pos' (by omega)⟩
theorem tI_lnN {a b : Nat} (hb : b < 4) : tI (if a = 0 then 0 else b + 1) < 0 ↔ a = 0 := by
  by_cases h : a = 0
  · rw [if_pos h]; exact ⟨fun _ => h, fun _ => by decide⟩
  · rw [if_neg h, tI_s]; exact ⟨fun q => absurd q (nI_pos (by omega)), fun q => absurd q h⟩
theorem m_refusedRow (hV : VS S) (hM : MW I J S) {s l : Nat} (hs : s < 4) (hl : l < 4) {x y : Int32} : mj_Ev 204 [.ref 0, .int (nI s), .int (nI l), .int x, .int y] (KM, I, J, GM) (KM, I, J, GM) (some (.int (refN S s l x y))) := by
  refine mj_ev_of ?_
  have hz := hV.sz s hs
  have hln := hV.ln s hs
  have hMl := hM.ln s hs
  unfold refN
  refine mjT_go 3 (pc' := 5) (L' := [some (.ref 0), some (.int (nI s)), some (.int (nI l)), some (.int x), some (.int y)]) (st' := [.int (nI s), .ref 6]) (w1 := (KM, I, J, GM)) rfl ?_
  refine mjT_ial (v := tI (if S.sz s = 0 then 0 else S.ln s + 1)) s 4 rfl (pc' := 6) rfl rfl rfl (by omega) (by omega) (show I 6 s = tI (if S.sz s = 0 then 0 else S.ln s + 1) from hMl) ?_
  refine mjT_go 1 (pc' := if 0 ≤ tI (if S.sz s = 0 then 0 else S.ln s + 1) then 14 else 9) (L' := [some (.ref 0), some (.int (nI s)), some (.int (nI l)), some (.int x), some (.int y)]) (st' := []) (w1 := (KM, I, J, GM)) rfl ?_
  refine mjT_if (fun h1 => ?_) (fun h1 => ?_)
  rotate_left
  · rw [tI_ln4 hln, Decidable.not_not] at h1
    rw [if_pos h1]
    refine mjT_go 2 (pc' := 46) (L' := [some (.ref 0), some (.int (nI s)), some (.int (nI l)), some (.int x), some (.int y)]) (st' := [.int (-11)]) (w1 := (KM, I, J, GM)) rfl ?_
    refine mjT_ret rfl rfl rfl ?_
    exact ⟨rfl, rfl⟩
  rw [tI_ln4 hln] at h1
  rw [if_neg h1]
  rw [if_neg h1, tI_s] at hMl
  refine mjT_go 3 (pc' := 19) (L' := [some (.ref 0), some (.int (nI s)), some (.int (nI l)), some (.int x), some (.int y)]) (st' := [.int (nI s), .ref 6]) (w1 := (KM, I, J, GM)) rfl ?_
  refine mjT_ial (v := nI (S.ln s)) s 4 rfl (pc' := 20) rfl rfl rfl (by omega) (by omega) (show I 6 s = nI (S.ln s) from hMl) ?_
  refine mjT_go 2 (pc' := if nI (S.ln s) = nI l then 29 else 24) (L' := [some (.ref 0), some (.int (nI s)), some (.int (nI l)), some (.int x), some (.int y)]) (st' := []) (w1 := (KM, I, J, GM)) rfl ?_
  refine mjT_if_eq (u := S.ln s) (v := l) rfl rfl (by omega) (by omega) (fun h2 => ?_) (fun h2 => ?_)
  rotate_left
  · rw [if_neg h2]
    refine mjT_go 2 (pc' := 46) (L' := [some (.ref 0), some (.int (nI s)), some (.int (nI l)), some (.int x), some (.int y)]) (st' := [.int (-12)]) (w1 := (KM, I, J, GM)) rfl ?_
    refine mjT_ret rfl rfl rfl ?_
    exact ⟨rfl, rfl⟩
  rw [if_pos h2]
  have h01 := hN_lt (S.sz s - 1) x y
  refine mjT_go 4 (pc' := 34) (L' := [some (.ref 0), some (.int (nI s)), some (.int (nI l)), some (.int x), some (.int y)]) (st' := [.int y, .int x, .int (nI s), .ref 0]) (w1 := (KM, I, J, GM)) rfl ?_
  refine mjT_callE (as := [.ref 0, .int (nI s), .int x, .int y]) (rest := []) (r1 := some (.int (nI (hN (S.sz s - 1) x y)))) rfl rfl rfl rfl rfl ⟨rfl, rfl⟩ (m_areThere hs (by omega) (hM.sz s hs h1)) ?_
  refine mjT_go 1 (pc' := if nI (hN (S.sz s - 1) x y) = 0 then 44 else 40) (L' := [some (.ref 0), some (.int (nI s)), some (.int (nI l)), some (.int x), some (.int y)]) (st' := []) (w1 := (KM, I, J, GM)) rfl ?_
  refine mjT_if_eq (u := hN (S.sz s - 1) x y) (v := 0) rfl nI_0.symm (by omega) (by omega) (fun h3 => ?_) (fun h3 => ?_)
  · rw [if_neg (by omega)]
    refine mjT_go 1 (pc' := 46) (L' := [some (.ref 0), some (.int (nI s)), some (.int (nI l)), some (.int x), some (.int y)]) (st' := [.int (-13)]) (w1 := (KM, I, J, GM)) rfl ?_
    refine mjT_ret rfl rfl rfl ?_
    exact ⟨rfl, rfl⟩
  rw [if_pos (by omega)]
  refine mjT_go 2 (pc' := 46) (L' := [some (.ref 0), some (.int (nI s)), some (.int (nI l)), some (.int x), some (.int y)]) (st' := [.int (nI 0)]) (w1 := (KM, I, J, GM)) rfl ?_
  refine mjT_ret rfl rfl rfl ?_
  exact ⟨rfl, rfl⟩
theorem refN_cases (S : Sta) (s l : Nat) (x y : Int32) : (refN S s l x y < 0 ∧ (refN S s l x y = -11 ∨ refN S s l x y = -12 ∨ refN S s l x y = -13)) ∨ (refN S s l x y = nI 0 ∧ S.sz s ≠ 0 ∧ S.ln s = l ∧ hN (S.sz s - 1) x y = 1) := by
  unfold refN
  by_cases h1 : S.sz s = 0
  · rw [if_pos h1]; exact Or.inl ⟨by decide, Or.inl rfl⟩
  · rw [if_neg h1]
    by_cases h2 : S.ln s = l
    · rw [if_pos h2]
      by_cases h3 : hN (S.sz s - 1) x y = 1
      · rw [if_pos h3]; exact Or.inr ⟨rfl, h1, h2, h3⟩
      · rw [if_neg h3]; exact Or.inl ⟨by decide, Or.inr (Or.inr rfl)⟩
    · rw [if_neg h2]; exact Or.inl ⟨by decide, Or.inr (Or.inl rfl)⟩
/-! one item -/
def putS (S : Sta) (s i : Nat) (v : Int64) : Sta := mkS S.o S.kn S.pa S.im S.io S.ikn S.ipa S.tl S.tp S.sz S.ln (fun a j => if a = s ∧ j = i then v else S.it a j)
theorem vs_put (hV : VS S) {s i : Nat} {v : Int64} : VS (putS S s i v) := ⟨hV.o, hV.day, hV.kn, hV.pa, hV.im, hV.io, hV.tl, hV.tp, hV.sz, hV.ln⟩
theorem cw_put (hC : CW I J S) {s i : Nat} {v : Int64} (e : J' = mj_row J (92 + s) (va_up (J (92 + s)) i v)) : CW I J' (putS S s i v) := by
  refine ⟨hC.o, hC.past, hC.im, hC.io, hC.tl, hC.tp, hC.sz, hC.ln, fun a ha j hj => ?_⟩
  subst e
  show mj_row J (92 + s) (va_up (J (92 + s)) i v) (92 + a) j = (if a = s ∧ j = i then v else S.it a j)
  unfold mj_row va_up
  by_cases h1 : a = s
  · subst h1
    rw [if_pos rfl]
    by_cases h2 : j = i
    · rw [if_pos h2, if_pos ⟨rfl, h2⟩]
    · rw [if_neg h2, if_neg (fun q => h2 q.2)]; exact hC.it a ha j hj
  · rw [if_neg (by omega), if_neg (fun q => h1 q.1)]; exact hC.it a ha j hj
theorem mw_put (hM : MW I J S) {s i : Nat} {v : Int64} (hs : s < 4) (hi : i < 24) (e : J' = mj_row J 5 (va_up (J 5) (24 * s + i) v)) : MW I J' (putS S s i v) := by
  refine ⟨hM.o, hM.past, hM.im, hM.io, hM.tl, hM.tp, hM.ln, hM.sz, fun a ha j hj => ?_⟩
  subst e
  show mj_row J 5 (va_up (J 5) (24 * s + i) v) 5 (24 * a + j) = (if a = s ∧ j = i then v else S.it a j)
  unfold mj_row va_up
  rw [if_pos rfl]
  by_cases h1 : a = s ∧ j = i
  · rw [if_pos h1, if_pos (by omega)]
  · rw [if_neg h1, if_neg (by omega)]; exact hM.it a ha j hj
theorem c_put (hV : VS S) (hC : CW I J S) {s i m : Nat} (hs : s < 4) (hz : S.sz s = m + 1) (hi : i < m) {v : Int64} : mj_E 68 [.ref 88, .int (nI s), .int (nI i), .long v] (KC, I, J, GC) (fun w' r => r = none ∧ ∃ J', w' = (KC, I, J', GC) ∧ CW I J' (putS S s i (cutN (S.ln s) v))) := by
  have hzz := hV.sz s hs
  have hln := hV.ln s hs
  have hCz := hC.sz s hs
  rw [hz, sI_s] at hCz
  refine mjT_go 4 (pc' := 4) (L' := [some (.ref 88), some (.int (nI s)), some (.int (nI i)), some (.long v), none]) (st' := [.int (nI 1), .int (nI i), .int (nI s), .ref 88]) (w1 := (KC, I, J, GC)) rfl ?_
  refine mjT_callE (as := [.ref 88, .int (nI s), .int (nI i), .int (nI 1)]) (rest := []) (r1 := some (.int (nI 1))) rfl rfl rfl rfl rfl ⟨rfl, rfl⟩ (by have h := c_holds (J := J) (x := nI i) (y := nI 1) hs (show m < 100 by omega) hCz; unfold hN at h; rw [if_pos ⟨nI_pos' (by omega), by decide, by rw [nn_N (by omega), nn_N (by omega)]; omega⟩] at h; exact h) ?_
  refine mjT_go 1 (pc' := if nI 1 = 0 then 28 else 10) (L' := [some (.ref 88), some (.int (nI s)), some (.int (nI i)), some (.long v), none]) (st' := []) (w1 := (KC, I, J, GC)) rfl ?_
  refine mjT_ifF (by decide) ?_
  refine mjT_go 3 (pc' := 15) (L' := [some (.ref 88), some (.int (nI s)), some (.int (nI i)), some (.long v), none]) (st' := [.int (nI s), .ref 91]) (w1 := (KC, I, J, GC)) rfl ?_
  refine mjT_aal (h' := (92 + s)) s 4 rfl (pc' := 16) rfl (by decide) rfl rfl (by omega) (by omega) (sh_ref s hs) ?_
  refine mjT_go 4 (pc' := 22) (L' := [some (.ref 88), some (.int (nI s)), some (.int (nI i)), some (.long v), none]) (st' := [.int (nI s), .ref 89, .int (nI i), .ref (92 + s)]) (w1 := (KC, I, J, GC)) rfl ?_
  refine mjT_ial (v := nI (S.ln s)) s 4 rfl (pc' := 23) rfl rfl rfl (by omega) (by omega) (show I 89 s = nI (S.ln s) from (hC.ln s hs (by omega))) ?_
  refine mjT_go 1 (pc' := 24) (L' := [some (.ref 88), some (.int (nI s)), some (.int (nI i)), some (.long v), none]) (st' := [.long v, .int (nI (S.ln s)), .int (nI i), .ref (92 + s)]) (w1 := (KC, I, J, GC)) rfl ?_
  refine mjT_callE (as := [.int (nI (S.ln s)), .long v]) (rest := [.int (nI i), .ref (92 + s)]) (r1 := some (.long (cutN (S.ln s) v))) rfl rfl rfl rfl rfl ⟨rfl, rfl⟩ (c_low hln) ?_
  obtain ⟨V1, eV1⟩ : ∃ z, z = mj_row J (92 + s) (va_up (J (92 + s)) i (cutN (S.ln s) v)) := ⟨_, rfl⟩
  refine mjT_las (J' := V1) i 24 rfl (pc' := 28) rfl (sh_kind s hs) rfl (by omega) (by omega) eV1.symm ?_
  refine mjT_ret rfl rfl rfl ?_
  exact ⟨rfl, _, rfl, cw_put hC eV1⟩
theorem c_valueAt (hV : VS S) (hC : CW I J S) {s i m : Nat} (hs : s < 4) (hz : S.sz s = m + 1) (hi : i < m) : mj_Ev 67 [.ref 88, .int (nI s), .int (nI i)] (KC, I, J, GC) (KC, I, J, GC) (some (.long (S.it s i))) := by
  refine mj_ev_of ?_
  have hzz := hV.sz s hs
  have hCz := hC.sz s hs
  rw [hz, sI_s] at hCz
  refine mjT_go 4 (pc' := 4) (L' := [some (.ref 88), some (.int (nI s)), some (.int (nI i))]) (st' := [.int (nI 1), .int (nI i), .int (nI s), .ref 88]) (w1 := (KC, I, J, GC)) rfl ?_
  refine mjT_callE (as := [.ref 88, .int (nI s), .int (nI i), .int (nI 1)]) (rest := []) (r1 := some (.int (nI 1))) rfl rfl rfl rfl rfl ⟨rfl, rfl⟩ (by have h := c_holds (J := J) (x := nI i) (y := nI 1) hs (show m < 100 by omega) hCz; unfold hN at h; rw [if_pos ⟨nI_pos' (by omega), by decide, by rw [nn_N (by omega), nn_N (by omega)]; omega⟩] at h; exact h) ?_
  refine mjT_go 1 (pc' := if nI 1 = 0 then 21 else 10) (L' := [some (.ref 88), some (.int (nI s)), some (.int (nI i))]) (st' := []) (w1 := (KC, I, J, GC)) rfl ?_
  refine mjT_ifF (by decide) ?_
  refine mjT_go 3 (pc' := 15) (L' := [some (.ref 88), some (.int (nI s)), some (.int (nI i))]) (st' := [.int (nI s), .ref 91]) (w1 := (KC, I, J, GC)) rfl ?_
  refine mjT_aal (h' := (92 + s)) s 4 rfl (pc' := 16) rfl (by decide) rfl rfl (by omega) (by omega) (sh_ref s hs) ?_
  refine mjT_go 1 (pc' := 17) (L' := [some (.ref 88), some (.int (nI s)), some (.int (nI i))]) (st' := [.int (nI i), .ref (92 + s)]) (w1 := (KC, I, J, GC)) rfl ?_
  refine mjT_lal (v := S.it s i) i 24 rfl (pc' := 18) rfl (sh_kind s hs) rfl (by omega) (by omega) (show J (92 + s) i = S.it s i from (hC.it s hs i (by omega))) ?_
  refine mjT_go 1 (pc' := 24) (L' := [some (.ref 88), some (.int (nI s)), some (.int (nI i))]) (st' := [.long (S.it s i)]) (w1 := (KC, I, J, GC)) rfl ?_
  refine mjT_ret rfl rfl rfl ?_
  exact ⟨rfl, rfl⟩
noncomputable def aItem (S : Sta) (x y z : Int32) : Int32 := if iR x 0 3 = 1 ∧ iR y 0 3 = 1 then (if refN S (nn x) (nn y) z (nI 1) < 0 then refN S (nn x) (nn y) z (nI 1) else nI 1) else -1
noncomputable def sItem (S : Sta) (x y z : Int32) (v : Int64) : Sta := if iR x 0 3 = 1 ∧ iR y 0 3 = 1 then (if refN S (nn x) (nn y) z (nI 1) < 0 then S else putS S (nn x) (nn z) (cutN (nn y) v)) else S
theorem vs_item (hV : VS S) {x y z : Int32} {v : Int64} : VS (sItem S x y z v) := by
  unfold sItem
  split
  · split
    · exact hV
    · exact vs_put hV
  · exact hV
theorem cc_item (hV : VS S) (hC : CW I J S) {x y z : Int32} {v : Int64} : mj_E 106 [.ref 0, .int x, .int y, .int z, .long v] (KC, I, J, GC) (fun w' r => r = some (.int (aItem S x y z)) ∧ ∃ I' J', w' = (KC, I', J', GC) ∧ CW I' J' (sItem S x y z v)) := by
  have hr1 := ir01 x 0 3
  have hr2 := ir01 y 0 3
  unfold aItem sItem
  refine mjT_go 1 (pc' := 1) (L' := [some (.ref 0), some (.int x), some (.int y), some (.int z), some (.long v), none, none]) (st' := [.int x]) (w1 := (KC, I, J, GC)) rfl ?_
  refine mjT_callE (as := [.int x]) (rest := []) (r1 := some (.int (nI (iR x 0 3)))) rfl rfl rfl rfl rfl ⟨rfl, rfl⟩ c_isSheet ?_
  refine mjT_go 1 (pc' := if nI (iR x 0 3) = 0 then 14 else 7) (L' := [some (.ref 0), some (.int x), some (.int y), some (.int z), some (.long v), none, none]) (st' := []) (w1 := (KC, I, J, GC)) rfl ?_
  refine mjT_if_eq (u := iR x 0 3) (v := 0) rfl nI_0.symm (by omega) (by omega) (fun h1 => ?_) (fun h1 => ?_)
  · rw [if_neg (by omega), if_neg (by omega)]
    refine mjT_go 1 (pc' := 15) (L' := [some (.ref 0), some (.int x), some (.int y), some (.int z), some (.long v), none, none]) (st' := [.int (-1)]) (w1 := (KC, I, J, GC)) rfl ?_
    refine mjT_ret rfl rfl rfl ?_
    exact ⟨rfl, _, _, rfl, hC⟩
  refine mjT_go 1 (pc' := 8) (L' := [some (.ref 0), some (.int x), some (.int y), some (.int z), some (.long v), none, none]) (st' := [.int y]) (w1 := (KC, I, J, GC)) rfl ?_
  refine mjT_callE (as := [.int y]) (rest := []) (r1 := some (.int (nI (iR y 0 3)))) rfl rfl rfl rfl rfl ⟨rfl, rfl⟩ c_isLane ?_
  refine mjT_go 1 (pc' := if ¬ nI (iR y 0 3) = 0 then 16 else 14) (L' := [some (.ref 0), some (.int x), some (.int y), some (.int z), some (.long v), none, none]) (st' := []) (w1 := (KC, I, J, GC)) rfl ?_
  refine mjT_if_ne (u := iR y 0 3) (v := 0) rfl nI_0.symm (by omega) (by omega) (fun h2 => ?_) (fun h2 => ?_)
  rotate_left
  · rw [if_neg (by omega), if_neg (by omega)]
    refine mjT_go 1 (pc' := 15) (L' := [some (.ref 0), some (.int x), some (.int y), some (.int z), some (.long v), none, none]) (st' := [.int (-1)]) (w1 := (KC, I, J, GC)) rfl ?_
    refine mjT_ret rfl rfl rfl ?_
    exact ⟨rfl, _, _, rfl, hC⟩
  rw [if_pos (show iR x 0 3 = 1 ∧ iR y 0 3 = 1 by omega), if_pos (show iR x 0 3 = 1 ∧ iR y 0 3 = 1 by omega)]
  obtain ⟨s, _, hs, rfl⟩ := iR_1 (x := x) (a := 0) (b := 3) (by omega) (by omega) (by omega)
  obtain ⟨l, _, hl, rfl⟩ := iR_1 (x := y) (a := 0) (b := 3) (by omega) (by omega) (by omega)
  rw [nn_N (by omega), nn_N (by omega)]
  refine mjT_go 6 (pc' := 24) (L' := [some (.ref 0), some (.int (nI s)), some (.int (nI l)), some (.int z), some (.long v), none, none]) (st' := [.int (nI 1), .int z, .int (nI l), .int (nI s), .ref 88]) (w1 := (KC, I, J, GC)) rfl ?_
  refine mjT_callE (as := [.ref 88, .int (nI s), .int (nI l), .int z, .int (nI 1)]) (rest := []) (r1 := some (.int (refN S s l z (nI 1)))) rfl rfl rfl rfl rfl ⟨rfl, rfl⟩ (c_refusal hV hC (by omega) (by omega)) ?_
  refine mjT_go 3 (pc' := if 0 ≤ refN S s l z (nI 1) then 37 else 34) (L' := [some (.ref 0), some (.int (nI s)), some (.int (nI l)), some (.int z), some (.long v), none, some (.int (refN S s l z (nI 1)))]) (st' := []) (w1 := (KC, I, J, GC)) rfl ?_
  rcases refN_cases S s l z (nI 1) with ⟨hneg, _⟩ | ⟨h0, hsz, hln, hh⟩
  · rw [if_pos hneg, if_pos hneg]
    refine mjT_ifF (fun q => i32_nlt.mpr q hneg) ?_
    refine mjT_go 1 (pc' := 36) (L' := [some (.ref 0), some (.int (nI s)), some (.int (nI l)), some (.int z), some (.long v), none, some (.int (refN S s l z (nI 1)))]) (st' := [.int (refN S s l z (nI 1))]) (w1 := (KC, I, J, GC)) rfl ?_
    refine mjT_ret rfl rfl rfl ?_
    exact ⟨rfl, _, _, rfl, hC⟩
  rw [h0, if_neg (show ¬ nI 0 < 0 by decide), if_neg (show ¬ nI 0 < 0 by decide)]
  refine mjT_ifT (by decide) ?_
  obtain ⟨i, b, rfl, hb, him, hi31, hb31⟩ := hN_1 hh
  have hb1 : b = 1 := ((nI_eq hb31 (by omega)).mp hb.symm)
  subst hb1
  rw [nn_N hi31]
  refine mjT_go 5 (pc' := 45) (L' := [some (.ref 0), some (.int (nI s)), some (.int (nI l)), some (.int (nI i)), some (.long v), none, some (.int (nI 0))]) (st' := [.long v, .int (nI i), .int (nI s), .ref 88]) (w1 := (KC, I, J, GC)) rfl ?_
  refine mjT_call (as := [.ref 88, .int (nI s), .int (nI i), .long v]) (rest := []) rfl rfl rfl rfl rfl ⟨rfl, rfl⟩ (c_put hV hC (show s < 4 by omega) (show S.sz s = (S.sz s - 1) + 1 by omega) (show i < S.sz s - 1 by omega)) ?_
  rintro _ _ ⟨rfl, J2, rfl, hC2⟩
  refine mjT_go 1 (pc' := 49) (L' := [some (.ref 0), some (.int (nI s)), some (.int (nI l)), some (.int (nI i)), some (.long v), none, some (.int (nI 0))]) (st' := [.int (nI 1)]) (w1 := (KC, I, J2, GC)) rfl ?_
  refine mjT_ret rfl rfl rfl ?_
  exact ⟨rfl, _, _, rfl, by rw [← hln]; exact hC2⟩
theorem mm_item (hV : VS S) (hM : MW I J S) {x y z : Int32} {v : Int64} : mj_E 211 [.ref 0, .int x, .int y, .int z, .long v] (KM, I, J, GM) (fun w' r => r = some (.int (aItem S x y z)) ∧ ∃ I' J', w' = (KM, I', J', GM) ∧ MW I' J' (sItem S x y z v)) := by
  have hr1 := ir01 x 0 3
  have hr2 := ir01 y 0 3
  unfold aItem sItem
  refine mjT_go 1 (pc' := 1) (L' := [some (.ref 0), some (.int x), some (.int y), some (.int z), some (.long v), none]) (st' := [.int x]) (w1 := (KM, I, J, GM)) rfl ?_
  refine mjT_callE (as := [.int x]) (rest := []) (r1 := some (.int (nI (iR x 0 3)))) rfl rfl rfl rfl rfl ⟨rfl, rfl⟩ m_isSheet ?_
  refine mjT_go 1 (pc' := if nI (iR x 0 3) = 0 then 19 else 7) (L' := [some (.ref 0), some (.int x), some (.int y), some (.int z), some (.long v), none]) (st' := []) (w1 := (KM, I, J, GM)) rfl ?_
  refine mjT_if_eq (u := iR x 0 3) (v := 0) rfl nI_0.symm (by omega) (by omega) (fun h1 => ?_) (fun h1 => ?_)
  · rw [if_neg (by omega), if_neg (by omega)]
    refine mjT_go 1 (pc' := 20) (L' := [some (.ref 0), some (.int x), some (.int y), some (.int z), some (.long v), none]) (st' := [.int (-1)]) (w1 := (KM, I, J, GM)) rfl ?_
    refine mjT_ret rfl rfl rfl ?_
    exact ⟨rfl, _, _, rfl, hM⟩
  refine mjT_go 4 (pc' := 13) (L' := [some (.ref 0), some (.int x), some (.int y), some (.int z), some (.long v), none]) (st' := [.long (lN 3), .long (lN 0), .long y.toInt64]) (w1 := (KM, I, J, GM)) rfl ?_
  refine mjT_callE (as := [.long y.toInt64, .long (lN 0), .long (lN 3)]) (rest := []) (r1 := some (.int (nI (iR y 0 3)))) rfl rfl rfl rfl rfl ⟨rfl, rfl⟩ (m_inR (by decide) (by decide)) ?_
  refine mjT_go 1 (pc' := if ¬ nI (iR y 0 3) = 0 then 21 else 19) (L' := [some (.ref 0), some (.int x), some (.int y), some (.int z), some (.long v), none]) (st' := []) (w1 := (KM, I, J, GM)) rfl ?_
  refine mjT_if_ne (u := iR y 0 3) (v := 0) rfl nI_0.symm (by omega) (by omega) (fun h2 => ?_) (fun h2 => ?_)
  rotate_left
  · rw [if_neg (by omega), if_neg (by omega)]
    refine mjT_go 1 (pc' := 20) (L' := [some (.ref 0), some (.int x), some (.int y), some (.int z), some (.long v), none]) (st' := [.int (-1)]) (w1 := (KM, I, J, GM)) rfl ?_
    refine mjT_ret rfl rfl rfl ?_
    exact ⟨rfl, _, _, rfl, hM⟩
  rw [if_pos (show iR x 0 3 = 1 ∧ iR y 0 3 = 1 by omega), if_pos (show iR x 0 3 = 1 ∧ iR y 0 3 = 1 by omega)]
  obtain ⟨s, _, hs, rfl⟩ := iR_1 (x := x) (a := 0) (b := 3) (by omega) (by omega) (by omega)
  obtain ⟨l, _, hl, rfl⟩ := iR_1 (x := y) (a := 0) (b := 3) (by omega) (by omega) (by omega)
  rw [nn_N (by omega), nn_N (by omega)]
  refine mjT_go 5 (pc' := 26) (L' := [some (.ref 0), some (.int (nI s)), some (.int (nI l)), some (.int z), some (.long v), none]) (st' := [.int (nI 1), .int z, .int (nI l), .int (nI s), .ref 0]) (w1 := (KM, I, J, GM)) rfl ?_
  refine mjT_callE (as := [.ref 0, .int (nI s), .int (nI l), .int z, .int (nI 1)]) (rest := []) (r1 := some (.int (refN S s l z (nI 1)))) rfl rfl rfl rfl rfl ⟨rfl, rfl⟩ (m_refusedRow hV hM (by omega) (by omega)) ?_
  refine mjT_go 1 (pc' := if 0 ≤ refN S s l z (nI 1) then 41 else 32) (L' := [some (.ref 0), some (.int (nI s)), some (.int (nI l)), some (.int z), some (.long v), none]) (st' := []) (w1 := (KM, I, J, GM)) rfl ?_
  rcases refN_cases S s l z (nI 1) with ⟨hneg, _⟩ | ⟨h0, hsz, hln, hh⟩
  · rw [if_pos hneg, if_pos hneg]
    refine mjT_ifF (fun q => i32_nlt.mpr q hneg) ?_
    refine mjT_go 5 (pc' := 37) (L' := [some (.ref 0), some (.int (nI s)), some (.int (nI l)), some (.int z), some (.long v), none]) (st' := [.int (nI 1), .int z, .int (nI l), .int (nI s), .ref 0]) (w1 := (KM, I, J, GM)) rfl ?_
    refine mjT_callE (as := [.ref 0, .int (nI s), .int (nI l), .int z, .int (nI 1)]) (rest := []) (r1 := some (.int (refN S s l z (nI 1)))) rfl rfl rfl rfl rfl ⟨rfl, rfl⟩ (m_refusedRow hV hM (by omega) (by omega)) ?_
    refine mjT_ret rfl rfl rfl ?_
    exact ⟨rfl, _, _, rfl, hM⟩
  have hzz := hV.sz s (by omega)
  rw [h0, if_neg (show ¬ nI 0 < 0 by decide), if_neg (show ¬ nI 0 < 0 by decide)]
  refine mjT_ifT (by decide) ?_
  obtain ⟨i, b, rfl, hb, him, hi31, hb31⟩ := hN_1 hh
  have hb1 : b = 1 := ((nI_eq hb31 (by omega)).mp hb.symm)
  subst hb1
  rw [nn_N hi31]
  refine mjT_go 9 (pc' := 54) (L' := [some (.ref 0), some (.int (nI s)), some (.int (nI l)), some (.int (nI i)), some (.long v), none]) (st' := [.long v, .int (nI l), .int (((nI 24) * (nI s)) + (nI i)), .ref 5]) (w1 := (KM, I, J, GM)) rfl ?_
  refine mjT_callE (as := [.int (nI l), .long v]) (rest := [.int (((nI 24) * (nI s)) + (nI i)), .ref 5]) (r1 := some (.long (cutN l v))) rfl rfl rfl rfl rfl ⟨rfl, rfl⟩ (m_cut (by omega)) ?_
  obtain ⟨V1, eV1⟩ : ∃ z, z = mj_row J 5 (va_up (J 5) ((24 * s) + i) (cutN l v)) := ⟨_, rfl⟩
  refine mjT_las (J' := V1) ((24 * s) + i) 96 rfl (pc' := 58) rfl rfl (by simp only [nI_add, pk_mul]) (by omega) (by omega) eV1.symm ?_
  refine mjT_go 1 (pc' := 59) (L' := [some (.ref 0), some (.int (nI s)), some (.int (nI l)), some (.int (nI i)), some (.long v), none]) (st' := [.int (nI 1)]) (w1 := (KM, I, V1, GM)) rfl ?_
  refine mjT_ret rfl rfl rfl ?_
  exact ⟨rfl, _, _, rfl, mw_put hM (by omega) (by omega) eV1⟩
theorem sim_item {x y z : Int32} {v : Int64} : SimO 106 211 [.int x, .int y, .int z, .long v] := fun S _ _ _ _ hV hC hM => ⟨_, _, vs_item hV, cc_item hV hC, mm_item hV hM⟩
end SH
