/-! dry out -/
theorem fst_lt {g : Nat → Nat} {j : Nat} (h0 : g j = 0) : ∀ {N}, j < N → fstN g N < N
  | 0, hj => absurd hj (by omega)
  | N + 1, hj => by
    unfold fstN
    by_cases h : fstN g N < N
    · rw [if_pos h]; omega
    · rw [if_neg h]
      by_cases e : j = N
      · subst e; rw [if_pos h0]; omega
      · exact absurd (fst_lt h0 (N := N) (by omega)) h
theorem fst_iff {g : Nat → Nat} {N : Nat} : fstN g N = N ↔ ∀ j, j < N → g j ≠ 0 := by
  constructor
  · intro h j hj h0
    have := fst_lt h0 hj
    omega
  · exact fst_no
theorem fst_hit {g : Nat → Nat} : ∀ {N}, fstN g N < N → g (fstN g N) = 0 ∧ ∀ j, j < fstN g N → g j ≠ 0
  | 0, h => absurd h (by omega)
  | N + 1, h => by
    by_cases h1 : fstN g N < N
    · have e : fstN g (N + 1) = fstN g N := if_pos h1
      rw [e]; exact fst_hit h1
    · have hle := fst_le g N
      have eN : fstN g N = N := by omega
      have hall := fst_iff.mp eN
      by_cases h2 : g N = 0
      · have e : fstN g (N + 1) = N := by unfold fstN; rw [if_neg h1, if_pos h2]
        rw [e]; exact ⟨h2, hall⟩
      · have e : fstN g (N + 1) = N + 1 := by unfold fstN; rw [if_neg h1, if_neg h2]
        omega
def kpN (O : Off) (p n d : Nat) : Nat := if fstN (sameN O (goO (dryO O d)) p) (n + 1) = n + 1 then 1 else 0
theorem kp_1 {O : Off} {p n d : Nat} : kpN O p n d = 1 ↔ ∀ j, j < n + 1 → sameN O (goO (dryO O d)) p j ≠ 0 := by
  unfold kpN
  by_cases h : fstN (sameN O (goO (dryO O d)) p) (n + 1) = n + 1
  · rw [if_pos h]; exact ⟨fun _ => fst_iff.mp h, fun _ => rfl⟩
  · rw [if_neg h]; exact ⟨fun q => absurd q (by omega), fun q => absurd (fst_iff.mpr q) h⟩
theorem kp_lt (O : Off) (p n d : Nat) : kpN O p n d < 2 := by unfold kpN; split <;> omega
theorem modelN_go (O : Off) (p : Nat) : ∀ k, modelN (goO O k) p = modelN O p
  | 0 => rfl
  | k + 1 => by
    show modelN (passO (goO O k) _) p = _
    rw [modelN_pass, modelN_go O p k]
theorem own_go (O : Off) : ∀ k, (goO O k).own = O.own
  | 0 => rfl
  | k + 1 => own_go O k
/-- who has nobody to take of keeps its own -/
theorem keep_own {O : Off} {p : Nat} (hm : modelN O p = 0) (h : ∀ k, k < 6 → O.wr p k = O.own p k) : ∀ d k, k < 6 → (goO O d).wr p k = O.own p k
  | 0, k, hk => h k hk
  | d + 1, k, hk => by
    have ih := keep_own hm h d k hk
    have ht : takeN (goO O d) p = 6 := by unfold takeN; rw [modelN_go, if_pos hm]
    show (if _ ∧ _ ∧ takeN (goO O d) p = k then seenN (goO O d) p k else gvN (goO O d) p k) = _
    rw [ht, if_neg (by omega)]
    unfold gvN
    rw [own_go]
    split
    · rfl
    · exact ih
theorem kp_dry {O : Off} (hV : VO O) {p n d : Nat} (hp : p < O.n) (hb : bitN d (O.chair p) = 1) (h0 : rw6 (O.wr p) = rw6 (O.own p)) : kpN O p n d = 1 := by
  rw [kp_1]
  intro j _
  have hm : modelN (dryO O d) p = 0 := if_pos (Or.inr hb)
  have hw : ∀ k, k < 6 → (dryO O d).wr p k = (dryO O d).own p k := rw6_inj (hV.wr p hp) (hV.own p hp) h0
  have : ∀ k, k < 6 → (goO (dryO O d) j).wr p k = O.own p k := keep_own hm hw j
  unfold sameN
  rw [if_pos (rw6_congr this)]; omega
theorem bit_or : ∀ D, D < 256 → ∀ c, c < 8 → bitN (D ||| 2 ^ c) c = 1 := by decide +kernel
theorem or_same : ∀ D, D < 256 → ∀ c, c < 8 → bitN D c = 1 → D ||| 2 ^ c = D := by decide +kernel
theorem and_none : ∀ D, D < 256 → ∀ c, c < 8 → bitN D c = 0 → 2 ^ c &&& D = 0 := by decide +kernel
def onesN (s : Nat) : Nat → Nat
  | 0 => 0
  | k + 1 => onesN s k + bitN s k
theorem ones_0 : ∀ s, s < 256 → onesN s 8 = 0 → s = 0 := by decide +kernel
theorem ones_1 : ∀ s, s < 256 → onesN s 8 = 1 → ∃ c, c < 8 ∧ s = 2 ^ c := by decide +kernel
theorem ones_p : ∀ c, c < 8 → onesN (2 ^ c) 8 = 1 ∧ 2 ^ c < 256 := by decide +kernel
theorem ones_le (s : Nat) : ∀ k, onesN s k ≤ k
  | 0 => Nat.le_refl _
  | k + 1 => by
    have h1 := ones_le s k
    have h2 := bitN_lt s k
    unfold onesN; omega
/-- of sets that keep it out: of least chairs, of like ones the least; 0 none -/
def bstN (w : Nat → Nat) (D : Nat) : Nat → Nat
  | 0 => 0
  | s + 1 => if (s &&& D = 0 ∧ (bstN w D s = 0 ∨ onesN s 8 < onesN (bstN w D s - 1) 8)) ∧ w (D ||| s) = 1 then s + 1 else bstN w D s
theorem bst_le (w : Nat → Nat) (D : Nat) : ∀ s, bstN w D s ≤ s
  | 0 => Nat.le_refl _
  | s + 1 => by have := bst_le w D s; unfold bstN; split <;> omega
theorem bst_char (w : Nat → Nat) (D : Nat) : ∀ k, (bstN w D k = 0 → ∀ s, s < k → ¬ (s &&& D = 0 ∧ w (D ||| s) = 1)) ∧ (∀ m, bstN w D k = m + 1 → m < k ∧ (m &&& D = 0 ∧ w (D ||| m) = 1) ∧ ∀ s, s < k → (s &&& D = 0 ∧ w (D ||| s) = 1) → onesN m 8 < onesN s 8 ∨ (onesN m 8 = onesN s 8 ∧ m ≤ s))
  | 0 => ⟨fun _ _ h => absurd h (by omega), fun m h => absurd h (by unfold bstN; omega)⟩
  | k + 1 => by
    obtain ⟨i1, i2⟩ := bst_char w D k
    by_cases hc : (k &&& D = 0 ∧ (bstN w D k = 0 ∨ onesN k 8 < onesN (bstN w D k - 1) 8)) ∧ w (D ||| k) = 1
    · have e : bstN w D (k + 1) = k + 1 := if_pos hc
      rw [e]
      refine ⟨fun q => absurd q (by omega), fun m hm => ?_⟩
      obtain rfl : k = m := by omega
      refine ⟨by omega, ⟨hc.1.1, hc.2⟩, fun s hs hok => ?_⟩
      by_cases es : s = k
      · rw [es]; exact Or.inr ⟨rfl, Nat.le_refl _⟩
      · rcases hc.1.2 with hb | hb
        · exact absurd hok (i1 hb s (by omega))
        · by_cases h0 : bstN w D k = 0
          · exact absurd hok (i1 h0 s (by omega))
          · obtain ⟨q1, q2, q3⟩ := i2 (bstN w D k - 1) (by omega)
            have := q3 s (by omega) hok
            omega
    · have e : bstN w D (k + 1) = bstN w D k := if_neg hc
      rw [e]
      refine ⟨fun q s hs hok => ?_, fun m hm => ?_⟩
      · by_cases es : s = k
        · rw [es] at hok; exact hc ⟨⟨hok.1, Or.inl q⟩, hok.2⟩
        · exact i1 q s (by omega) hok
      · obtain ⟨q1, q2, q3⟩ := i2 m hm
        refine ⟨by omega, q2, fun s hs hok => ?_⟩
        by_cases es : s = k
        · have h1 : ¬ (bstN w D k = 0 ∨ onesN k 8 < onesN (bstN w D k - 1) 8) := fun z => hc ⟨⟨by rw [← es]; exact hok.1, z⟩, by rw [← es]; exact hok.2⟩
          rw [hm, Nat.add_sub_cancel] at h1
          rw [es]; omega
        · exact q3 s (by omega) hok
noncomputable def dryA (w : Nat → Nat) (D : Nat) : Int32 := if w D = 1 then nI 0 else if fstN (fun c => 1 - w (D ||| 2 ^ c)) 8 < 8 then nI (2 ^ fstN (fun c => 1 - w (D ||| 2 ^ c)) 8) else -4
theorem pow_mono : ∀ a, a < 8 → ∀ b, b < 8 → 2 ^ a ≤ 2 ^ b → a ≤ b := by decide +kernel
theorem dry_eq {w : Nat → Nat} {D : Nat} (hD : D < 256) (hw : ∀ d, w d < 2) (H : ∀ s, s < 256 → w (D ||| s) = 1 → w D = 1 ∨ ∃ c, c < 8 ∧ bitN D c = 0 ∧ w (D ||| 2 ^ c) = 1) : dryA w D = tI (bstN w D 256) := by
  obtain ⟨i1, i2⟩ := bst_char w D 256
  have hwD := hw D
  unfold dryA
  by_cases h0 : w D = 1
  · rw [if_pos h0]
    have ok0 : 0 &&& D = 0 ∧ w (D ||| 0) = 1 := ⟨Nat.zero_and D, by rw [Nat.or_zero]; exact h0⟩
    cases hb : bstN w D 256 with
    | zero => exact absurd ok0 (i1 hb 0 (by omega))
    | succ m =>
      obtain ⟨q1, q2, q3⟩ := i2 m hb
      have := q3 0 (by omega) ok0
      have h00 : onesN 0 8 = 0 := by decide
      obtain rfl : m = 0 := by omega
      rw [tI_s]
  · rw [if_neg h0]
    obtain ⟨c, hc⟩ : ∃ c, fstN (fun c => 1 - w (D ||| 2 ^ c)) 8 = c := ⟨_, rfl⟩
    have hcl := fst_le (fun c => 1 - w (D ||| 2 ^ c)) 8
    have hit := fst_hit (g := fun c => 1 - w (D ||| 2 ^ c)) (N := 8)
    have non := (fst_iff (g := fun c => 1 - w (D ||| 2 ^ c)) (N := 8)).mp
    rw [hc] at hcl hit non ⊢
    by_cases h8 : c < 8
    · rw [if_pos h8]
      obtain ⟨g1, g2⟩ := hit h8
      have w1 := hw (D ||| 2 ^ c)
      have wc : w (D ||| 2 ^ c) = 1 := by have : 1 - w (D ||| 2 ^ c) = 0 := g1; omega
      have bl := bitN_lt D c
      have b0 : bitN D c = 0 := by
        by_cases hb1 : bitN D c = 1
        · rw [or_same D hD c h8 hb1] at wc; exact absurd wc h0
        · omega
      obtain ⟨p1, p2⟩ := ones_p c h8
      have okc : 2 ^ c &&& D = 0 ∧ w (D ||| 2 ^ c) = 1 := ⟨and_none D hD c h8 b0, wc⟩
      cases hb : bstN w D 256 with
      | zero => exact absurd okc (i1 hb _ p2)
      | succ m =>
        obtain ⟨q1, q2, q3⟩ := i2 m hb
        rw [tI_s]
        rcases q3 _ p2 okc with h | ⟨h, hm⟩
        · have m0 := ones_0 m q1 (by omega)
          have := q2.2
          rw [m0, Nat.or_zero] at this
          exact absurd this h0
        · obtain ⟨c', hc8, e⟩ := ones_1 m q1 (by omega)
          have hcc : c ≤ c' := by
            refine Nat.le_of_not_lt fun z => g2 c' z ?_
            show 1 - w (D ||| 2 ^ c') = 0
            rw [← e, q2.2]
          have h2 : 2 ^ c ≤ 2 ^ c' := Nat.pow_le_pow_right (by omega) hcc
          rw [show m = 2 ^ c by omega]
    · rw [if_neg h8]
      cases hb : bstN w D 256 with
      | zero => rfl
      | succ m =>
        obtain ⟨q1, q2, q3⟩ := i2 m hb
        rcases H m q1 q2.2 with h | ⟨c', hc8, _, h⟩
        · exact absurd h h0
        · exact absurd (show 1 - w (D ||| 2 ^ c') = 0 by omega) (non (by omega) c' hc8)
section DR
variable {I I' : Nat → Nat → Int32} {J : Nat → Nat → Int64} {K : List (Nat × Nat)} {G : Nat → Nat → Option Nat} {S : Sta} {o : Nat} {O : Off} {P : Nat → Prop}
theorem c_keeps (hV : VS S) (hC : CW I J S) {p n d : Nat} (hp : p < S.o.n) (hn60 : n ≤ 60) (hd256 : d < 256) : mj_E 117 [.ref 0, .int (nI p), .int (nI n), .int (nI d)] (KC, I, J, GC) (fun w' q => q = some (.int (nI (kpN S.o p n d))) ∧ ∃ I', w' = (KC, I', J, GC) ∧ CW I' J S) := by
  have hn := hV.o.n
  have hd := hV.day
  obtain ⟨la, hla⟩ := nI_surj (I 75 3)
  obtain ⟨dr, hdr⟩ := nI_surj (I 75 4)
  refine mjT_go 4 (pc' := 8) (L' := [some (.ref 0), some (.int (nI p)), some (.int (nI n)), some (.int (nI d))]) (st' := [.ref 1, .ref 75]) (w1 := (KC, I, J, GC)) rfl ?_
  refine mjT_call (as := [.ref 75, .ref 1]) (rest := []) rfl rfl rfl rfl rfl ⟨rfl, rfl⟩ (c_become hV.o.n og_75 og_1 (by omega) hC.o hla hdr) ?_
  rintro _ _ ⟨rfl, I2, rfl, hO2, hf2⟩
  refine mjT_go 3 (pc' := 16) (L' := [some (.ref 0), some (.int (nI p)), some (.int (nI n)), some (.int (nI d))]) (st' := [.int (nI d), .ref 75]) (w1 := (KC, I2, J, GC)) rfl ?_
  obtain ⟨V1, eV1⟩ : ∃ z, z = mj_row I2 75 (va_up (I2 75) 1 (nI d)) := ⟨_, rfl⟩
  refine mjT_pfi (I' := V1) rfl (pc' := 19) rfl rfl eV1.symm ?_
  have hO3 : RO V1 75 (dryO S.o d) TT := ro_dry hO2 eV1
  have hVD : VO (dryO S.o d) := v_dry hV.o hd256
  have hdD : (dryO S.o d).day = S.o.day := rfl
  have hnD : (dryO S.o d).n = S.o.n := rfl
  unfold kpN
  generalize dryO S.o d = E at *
  refine mjT_go 3 (pc' := 24) (L' := [some (.ref 0), some (.int (nI p)), some (.int (nI n)), some (.int (nI d))]) (st' := [.int (nI p), .ref 75]) (w1 := (KC, V1, J, GC)) rfl ?_
  refine mjT_call (as := [.ref 75, .int (nI p)]) (rest := []) rfl rfl rfl rfl rfl ⟨rfl, rfl⟩ (c_watchOnly hVD og_75 hO3 (show p < E.n by omega)) ?_
  rintro _ _ ⟨rfl, I5, mm, rfl, hf5, hW5, _, _⟩
  have hO5 := ro_P (ro_watch hO3 hf5) (fun q (_ : PcN E p q) => trivial)
  refine mjT_go 6 (pc' := 37) (L' := [some (.ref 0), some (.int (nI p)), some (.int (nI n)), some (.int (nI d))]) (st' := [.ref 96, .int (nI n), .int (nI p), .ref 75]) (w1 := (KC, I5, J, GC)) rfl ?_
  refine mjT_call (as := [.ref 75, .int (nI p), .int (nI n), .ref 96]) (rest := []) rfl rfl rfl rfl rfl ⟨rfl, rfl⟩ (c_follow hVD og_75 (by omega) hO5 hW5 hn60 (by omega) (show p < E.n by omega) (pc_self _ _)) ?_
  rintro _ _ ⟨rfl, I6, rfl, ht6, hf6⟩
  have hC6 : CW I6 J S := cw_tr hC hV (fun h a b => by rw [hf6 h (by omega) (by omega) (by omega) (by omega) b, hf5.1 h (by omega) (by omega) (by omega), st_h eV1 (by omega), hf2 h (by omega)])
  have hrl := rw6_lt (hV.o.own p hp)
  refine mjT_go 4 (pc' := 46) (L' := [some (.ref 0), some (.int (nI p)), some (.int (nI n)), some (.int (nI d))]) (st' := [.int (nI p), .ref 1, .ref 0]) (w1 := (KC, I6, J, GC)) rfl ?_
  refine mjT_callE (as := [.ref 1, .int (nI p)]) (rest := [.ref 0]) (r1 := some (.int (nI (rw6 (S.o.own p))))) rfl rfl rfl rfl rfl ⟨rfl, rfl⟩ (c_ownOf hn og_1 hC6.o hp) ?_
  refine mjT_go 1 (pc' := 50) (L' := [some (.ref 0), some (.int (nI p)), some (.int (nI n)), some (.int (nI d))]) (st' := [.int (nI n), .int (nI (rw6 (S.o.own p))), .ref 0]) (w1 := (KC, I6, J, GC)) rfl ?_
  obtain ⟨N, hN⟩ : ∃ N, fstN (sameN S.o (goO E) p) (n + 1) = N := ⟨_, rfl⟩
  have hNl := fst_le (sameN S.o (goO E) p) (n + 1)
  refine mjT_callE (as := [.ref 0, .int (nI (rw6 (S.o.own p))), .int (nI n)]) (rest := []) (r1 := some (.int (nI N))) rfl rfl rfl rfl rfl ⟨rfl, rfl⟩ (by rw [← hN]; exact c_firstOther hn60 (by omega) (fun j hj => by have := rw6_lt (go_dgo hVD (k := j) (by omega) (show p < E.n by omega)); omega) ht6) ?_
  rw [hN] at hNl ⊢
  refine mjT_go 2 (pc' := if nI N ≤ nI n then 61 else 57) (L' := [some (.ref 0), some (.int (nI p)), some (.int (nI n)), some (.int (nI d))]) (st' := []) (w1 := (KC, I6, J, GC)) rfl ?_
  refine mjT_if_le (u := N) (v := n) rfl rfl (by omega) (by omega) (fun h2 => ?_) (fun h2 => ?_)
  · refine mjT_go 1 (pc' := 62) (L' := [some (.ref 0), some (.int (nI p)), some (.int (nI n)), some (.int (nI d))]) (st' := [.int (nI 0)]) (w1 := (KC, I6, J, GC)) rfl ?_
    refine mjT_retb rfl rfl (by decide) ?_
    exact ⟨by rw [if_neg (by omega)], _, rfl, hC6⟩
  · refine mjT_go 2 (pc' := 62) (L' := [some (.ref 0), some (.int (nI p)), some (.int (nI n)), some (.int (nI d))]) (st' := [.int (nI 1)]) (w1 := (KC, I6, J, GC)) rfl ?_
    refine mjT_retb rfl rfl (by decide) ?_
    exact ⟨by rw [if_pos (by omega)], _, rfl, hC6⟩
noncomputable def aDryOut (S : Sta) (x y : Int32) : Int32 := if iP x S.o.n = 1 ∧ iR y 0 60 = 1 then dryA (kpN S.o (nn x) (nn y)) S.o.dry else -1
theorem cc_dryOut (hV : VS S) (hC : CW I J S) {x y : Int32} : mj_E 95 [.ref 0, .int x, .int y] (KC, I, J, GC) (fun w' r => r = some (.int (aDryOut S x y)) ∧ ∃ I' J', w' = (KC, I', J', GC) ∧ CW I' J' S) := by
  have hn := hV.o.n
  have hD := hV.o.dry
  have hr1 := ip01 x S.o.n
  have hr2 := ir01 y 0 60
  unfold aDryOut
  refine mjT_go 3 (pc' := 5) (L' := [some (.ref 0), some (.int x), some (.int y), none]) (st' := [.int x, .ref 1]) (w1 := (KC, I, J, GC)) rfl ?_
  refine mjT_callE (as := [.ref 1, .int x]) (rest := []) (r1 := some (.int (nI (iP x S.o.n)))) rfl rfl rfl rfl rfl ⟨rfl, rfl⟩ (c_has hV.o og_1 hC.o) ?_
  refine mjT_go 1 (pc' := if nI (iP x S.o.n) = 0 then 18 else 11) (L' := [some (.ref 0), some (.int x), some (.int y), none]) (st' := []) (w1 := (KC, I, J, GC)) rfl ?_
  refine mjT_if_eq (u := iP x S.o.n) (v := 0) rfl nI_0.symm (by omega) (by omega) (fun h1 => ?_) (fun h1 => ?_)
  · rw [if_neg (by omega)]
    refine mjT_go 1 (pc' := 19) (L' := [some (.ref 0), some (.int x), some (.int y), none]) (st' := [.int (-1)]) (w1 := (KC, I, J, GC)) rfl ?_
    refine mjT_ret rfl rfl rfl ?_
    exact ⟨rfl, _, _, rfl, hC⟩
  refine mjT_go 1 (pc' := 12) (L' := [some (.ref 0), some (.int x), some (.int y), none]) (st' := [.int y]) (w1 := (KC, I, J, GC)) rfl ?_
  refine mjT_callE (as := [.int y]) (rest := []) (r1 := some (.int (nI (iR y 0 60)))) rfl rfl rfl rfl rfl ⟨rfl, rfl⟩ c_isForetold ?_
  refine mjT_go 1 (pc' := if ¬ nI (iR y 0 60) = 0 then 20 else 18) (L' := [some (.ref 0), some (.int x), some (.int y), none]) (st' := []) (w1 := (KC, I, J, GC)) rfl ?_
  refine mjT_if_ne (u := iR y 0 60) (v := 0) rfl nI_0.symm (by omega) (by omega) (fun h2 => ?_) (fun h2 => ?_)
  rotate_left
  · rw [if_neg (by omega)]
    refine mjT_go 1 (pc' := 19) (L' := [some (.ref 0), some (.int x), some (.int y), none]) (st' := [.int (-1)]) (w1 := (KC, I, J, GC)) rfl ?_
    refine mjT_ret rfl rfl rfl ?_
    exact ⟨rfl, _, _, rfl, hC⟩
  rw [if_pos (show iP x S.o.n = 1 ∧ iR y 0 60 = 1 by omega)]
  obtain ⟨p, hp, rfl⟩ := iP_1 (x := x) (n := S.o.n) (by omega) (by omega)
  obtain ⟨n, _, hn60, rfl⟩ := iR_1 (x := y) (a := 0) (b := 60) (by omega) (by omega) (by omega)
  rw [nn_N (by omega), nn_N (by omega)]
  obtain ⟨kw, hw⟩ : ∃ kw, kpN S.o p n = kw := ⟨_, rfl⟩
  have hw2 : ∀ d, kw d < 2 := fun d => by rw [← hw]; exact kp_lt _ _ _ _
  have keeps : ∀ {I' : Nat → Nat → Int32} {d : Nat}, CW I' J S → d < 256 → mj_E 117 [.ref 0, .int (nI p), .int (nI n), .int (nI d)] (KC, I', J, GC) (fun w' q => q = some (.int (nI (kw d))) ∧ ∃ I', w' = (KC, I', J, GC) ∧ CW I' J S) := fun h hd => by rw [← hw]; exact c_keeps hV h hp hn60 hd
  rw [hw]
  unfold dryA
  have hwD := hw2 S.o.dry
  refine mjT_go 5 (pc' := 27) (L' := [some (.ref 0), some (.int (nI p)), some (.int (nI n)), none]) (st' := [.ref 1, .int (nI n), .int (nI p), .ref 0]) (w1 := (KC, I, J, GC)) rfl ?_
  refine mjT_gfi (v := nI S.o.dry) rfl (Or.inl rfl) (pc' := 30) rfl rfl (mo_at (hC.o.dry) (by omega) (by omega)) ?_
  refine mjT_call (as := [.ref 0, .int (nI p), .int (nI n), .int (nI S.o.dry)]) (rest := []) rfl rfl rfl rfl rfl ⟨rfl, rfl⟩ (keeps hC hD) ?_
  rintro _ _ ⟨rfl, I2, rfl, hC2⟩
  refine mjT_go 1 (pc' := if nI (kw S.o.dry) = 0 then 38 else 36) (L' := [some (.ref 0), some (.int (nI p)), some (.int (nI n)), none]) (st' := []) (w1 := (KC, I2, J, GC)) rfl ?_
  refine mjT_if_eq (u := kw S.o.dry) (v := 0) rfl nI_0.symm (by omega) (by omega) (fun h3 => ?_) (fun h3 => ?_)
  rotate_left
  · rw [if_pos (show kw S.o.dry = 1 by omega)]
    refine mjT_go 1 (pc' := 37) (L' := [some (.ref 0), some (.int (nI p)), some (.int (nI n)), none]) (st' := [.int (nI 0)]) (w1 := (KC, I2, J, GC)) rfl ?_
    refine mjT_ret rfl rfl rfl ?_
    exact ⟨rfl, _, _, rfl, hC2⟩
  rw [if_neg (show ¬ kw S.o.dry = 1 by omega)]
  obtain ⟨g, hg⟩ : ∃ g, (fun c => 1 - kw (S.o.dry ||| 2 ^ c)) = g := ⟨_, rfl⟩
  have hgc : ∀ c, g c = 1 - kw (S.o.dry ||| 2 ^ c) := fun c => by rw [← hg]
  rw [hg]
  refine mjT_go 2 (pc' := 40) (L' := [some (.ref 0), some (.int (nI p)), some (.int (nI n)), some (.int (nI 0))]) (st' := []) (w1 := (KC, I2, J, GC)) rfl ?_
  refine mj_loop (fun k L w => ∃ I', L = [some (.ref 0), some (.int (nI p)), some (.int (nI n)), some (.int (nI k))] ∧ w = (KC, I', J, GC) ∧ CW I' J S ∧ ∀ j, j < k → g j ≠ 0) 8 (k0 := 0) (Nat.zero_le _) ?_ ?_ ?_
  · exact ⟨_, rfl, rfl, hC2, fun _ h => absurd h (by omega)⟩
  · rintro c _ _ hc8 ⟨I3, rfl, rfl, hC3, hb⟩ hc
    have hor : S.o.dry ||| 2 ^ c < 256 := Nat.or_lt_two_pow (n := 8) hD (ones_p c hc8).2
    have hwc := hw2 (S.o.dry ||| 2 ^ c)
    have hgk := hgc c
    have hsh := shb 1 (by omega) c (by omega)
    rw [Nat.one_mul] at hsh
    refine mjT_go 3 (pc' := if nI 8 ≤ nI c then 76 else 46) (L' := [some (.ref 0), some (.int (nI p)), some (.int (nI n)), some (.int (nI c))]) (st' := []) (w1 := (KC, I3, J, GC)) rfl ?_
    refine mjT_ifF (nI_ge (by omega) (by omega)) ?_
    refine mjT_go 5 (pc' := 53) (L' := [some (.ref 0), some (.int (nI p)), some (.int (nI n)), some (.int (nI c))]) (st' := [.ref 1, .int (nI n), .int (nI p), .ref 0]) (w1 := (KC, I3, J, GC)) rfl ?_
    refine mjT_gfi (v := nI S.o.dry) rfl (Or.inl rfl) (pc' := 56) rfl rfl (mo_at (hC3.o.dry) (by omega) (by omega)) ?_
    refine mjT_go 4 (pc' := 60) (L' := [some (.ref 0), some (.int (nI p)), some (.int (nI n)), some (.int (nI c))]) (st' := [.int ((nI S.o.dry) ||| ((nI 1) <<< ((nI c) &&& 31))), .int (nI n), .int (nI p), .ref 0]) (w1 := (KC, I3, J, GC)) rfl ?_
    rw [hsh, nI_or]
    refine mjT_call (as := [.ref 0, .int (nI p), .int (nI n), .int (nI (S.o.dry ||| 2 ^ c))]) (rest := []) rfl rfl rfl rfl rfl ⟨rfl, rfl⟩ (keeps hC3 hor) ?_
    rintro _ _ ⟨rfl, I4, rfl, hC4⟩
    refine mjT_go 1 (pc' := if nI (kw (S.o.dry ||| 2 ^ c)) = 0 then 70 else 66) (L' := [some (.ref 0), some (.int (nI p)), some (.int (nI n)), some (.int (nI c))]) (st' := []) (w1 := (KC, I4, J, GC)) rfl ?_
    refine mjT_if_eq (u := kw (S.o.dry ||| 2 ^ c)) (v := 0) rfl nI_0.symm (by omega) (by omega) (fun h4 => ?_) (fun h4 => ?_)
    · refine mjT_go 2 (pc' := 40) (L' := [some (.ref 0), some (.int (nI p)), some (.int (nI n)), some (.int ((nI c) + (nI 1)))]) (st' := []) (w1 := (KC, I4, J, GC)) rfl ?_
      rw [nI_add]
      refine hc _ _ ⟨_, rfl, rfl, hC4, fun j hj => ?_⟩
      by_cases e : j = c
      · rw [e]; omega
      · exact hb j (by omega)
    · refine mjT_go 3 (pc' := 69) (L' := [some (.ref 0), some (.int (nI p)), some (.int (nI n)), some (.int (nI c))]) (st' := [.int ((nI 1) <<< ((nI c) &&& 31))]) (w1 := (KC, I4, J, GC)) rfl ?_
      rw [hsh]
      refine mjT_ret rfl rfl rfl ?_
      have e : fstN g 8 = c := fst_at (by omega) hb hc8
      exact ⟨by rw [e, if_pos hc8], _, _, rfl, hC4⟩
  · rintro _ _ ⟨I3, rfl, rfl, hC3, hb⟩
    refine mjT_go 3 (pc' := if nI 8 ≤ nI 8 then 76 else 46) (L' := [some (.ref 0), some (.int (nI p)), some (.int (nI n)), some (.int (nI 8))]) (st' := []) (w1 := (KC, I3, J, GC)) rfl ?_
    refine mjT_ifT (Int32.le_refl _) ?_
    refine mjT_go 1 (pc' := 78) (L' := [some (.ref 0), some (.int (nI p)), some (.int (nI n)), some (.int (nI 8))]) (st' := [.int (-4)]) (w1 := (KC, I3, J, GC)) rfl ?_
    refine mjT_ret rfl rfl rfl ?_
    exact ⟨by rw [fst_no hb, if_neg (by omega)], _, _, rfl, hC3⟩
theorem m_ones {s : Nat} (hs : s < 256) : mj_Ev 132 [.int (nI s)] (K, I, J, G) (K, I, J, G) (some (.int (nI (onesN s 8)))) := by
  refine mj_ev_of ?_
  refine mjT_go 4 (pc' := 4) (L' := [some (.int (nI s)), some (.int (nI 0)), some (.int (nI 0))]) (st' := []) (w1 := (K, I, J, G)) rfl ?_
  refine mj_loop (fun k L w => L = [some (.int (nI s)), some (.int (nI (onesN s k))), some (.int (nI k))] ∧ w = (K, I, J, G)) 8 (k0 := 0) (Nat.zero_le _) ?_ ?_ ?_
  · exact ⟨rfl, rfl⟩
  · rintro k _ _ hk ⟨rfl, rfl⟩ hc
    refine mjT_go 3 (pc' := if nI 8 ≤ nI k then 24 else 10) (L' := [some (.int (nI s)), some (.int (nI (onesN s k))), some (.int (nI k))]) (st' := []) (w1 := (K, I, J, G)) rfl ?_
    refine mjT_ifF (nI_ge (by omega) (by omega)) ?_
    refine mjT_go 5 (pc' := 15) (L' := [some (.int (nI s)), some (.int (nI (onesN s k))), some (.int (nI k))]) (st' := [.int (nI 1), .int ((nI s) >>> ((nI k) &&& 31)), .int (nI (onesN s k))]) (w1 := (K, I, J, G)) rfl ?_
    refine mjT_go 1 (pc' := 16) (L' := [some (.int (nI s)), some (.int (nI (onesN s k))), some (.int (nI k))]) (st' := [.int (((nI s) >>> ((nI k) &&& 31)) &&& (nI 1)), .int (nI (onesN s k))]) (w1 := (K, I, J, G)) rfl ?_
    rw [bit_at (by omega) (by omega)]
    refine mjT_go 4 (pc' := 4) (L' := [some (.int (nI s)), some (.int ((nI (onesN s k)) + (nI (bitN s k)))), some (.int ((nI k) + (nI 1)))]) (st' := []) (w1 := (K, I, J, G)) rfl ?_
    rw [nI_add, nI_add, show onesN s k + bitN s k = onesN s (k + 1) from rfl]
    exact hc _ _ ⟨rfl, rfl⟩
  · rintro _ _ ⟨rfl, rfl⟩
    refine mjT_go 3 (pc' := if nI 8 ≤ nI 8 then 24 else 10) (L' := [some (.int (nI s)), some (.int (nI (onesN s 8))), some (.int (nI 8))]) (st' := []) (w1 := (K, I, J, G)) rfl ?_
    refine mjT_ifT (Int32.le_refl _) ?_
    refine mjT_go 1 (pc' := 25) (L' := [some (.int (nI s)), some (.int (nI (onesN s 8))), some (.int (nI 8))]) (st' := [.int (nI (onesN s 8))]) (w1 := (K, I, J, G)) rfl ?_
    refine mjT_ret rfl rfl rfl ?_
    exact ⟨rfl, rfl⟩
theorem m_staysOwn (hV : VS S) (hM : MW I J S) {p n s : Nat} (hp : p < S.o.n) (hn60 : n ≤ 60) (hs : s < 256) : mj_E 191 [.ref 0, .int (nI p), .int (nI n), .int (nI s)] (KM, I, J, GM) (fun w' q => q = some (.int (nI (kpN S.o p n (S.o.dry ||| s)))) ∧ ∃ I', w' = (KM, I', J, GM) ∧ MW I' J S) := by
  have hn := hV.o.n
  have hd := hV.day
  have hor : S.o.dry ||| s < 256 := Nat.or_lt_two_pow (n := 8) hV.o.dry hs
  refine mjT_go 1 (pc' := 1) (L' := [some (.ref 0), some (.int (nI p)), some (.int (nI n)), some (.int (nI s)), none, none]) (st' := [.ref 0]) (w1 := (KM, I, J, GM)) rfl ?_
  refine mjT_call (as := [.ref 0]) (rest := []) rfl rfl rfl rfl rfl ⟨rfl, rfl⟩ (m_begin hV.o hM.o) ?_
  rintro _ _ ⟨rfl, I2, rfl, hO2, hf2⟩
  refine mjT_go 4 (pc' := 12) (L' := [some (.ref 0), some (.int (nI p)), some (.int (nI n)), some (.int (nI s)), none, none]) (st' := [.int (nI 1830), .ref 1, .int (nI 1830), .ref 1]) (w1 := (KM, I2, J, GM)) rfl ?_
  refine mjT_ial (v := nI S.o.dry) 1830 1840 rfl (pc' := 13) rfl rfl rfl (by omega) (by omega) (show I2 1 1830 = nI S.o.dry from (mo_at hO2.dry rfl (by omega))) ?_
  refine mjT_go 2 (pc' := 15) (L' := [some (.ref 0), some (.int (nI p)), some (.int (nI n)), some (.int (nI s)), none, none]) (st' := [.int ((nI S.o.dry) ||| (nI s)), .int (nI 1830), .ref 1]) (w1 := (KM, I2, J, GM)) rfl ?_
  obtain ⟨V1, eV1⟩ : ∃ z, z = mj_row I2 1 (va_up (I2 1) 1830 ((nI S.o.dry) ||| (nI s))) := ⟨_, rfl⟩
  refine mjT_ias (I' := V1) 1830 1840 rfl (pc' := 16) rfl rfl rfl (by omega) (by omega) eV1.symm ?_
  rw [nI_or] at eV1
  have hO3 : MO V1 1680 (dryO S.o (S.o.dry ||| s)) := mo_dry eV1 (by omega) hO2 hn
  have hf3 : FrT I V1 := ft_tr hf2 (ft_of (fr_st eV1 (by omega)))
  have hVD : VO (dryO S.o (S.o.dry ||| s)) := v_dry hV.o hor
  have hdD : (dryO S.o (S.o.dry ||| s)).day = S.o.day := rfl
  have hnD : (dryO S.o (S.o.dry ||| s)).n = S.o.n := rfl
  have hkp := kp_1 (O := S.o) (p := p) (n := n) (d := S.o.dry ||| s)
  have hkl := kp_lt S.o p n (S.o.dry ||| s)
  generalize kpN S.o p n (S.o.dry ||| s) = res at *
  generalize dryO S.o (S.o.dry ||| s) = E at *
  refine mjT_gen fun Q hQ => ?_
  have same : ∀ j, j ≤ 60 → (fg ((goO E j).wr p) 6 = fg (S.o.own p) 6 ↔ sameN S.o (goO E) p j ≠ 0) := fun j hj => by
    rw [fg_inj (go_dgo hVD (k := j) (by omega) (by omega)) (hV.o.own p hp)]
    unfold sameN
    by_cases h : rw6 ((goO E j).wr p) = rw6 (S.o.own p)
    · rw [if_pos h]; exact ⟨fun _ => by omega, fun _ => h⟩
    · rw [if_neg h]; exact ⟨fun q => absurd q h, fun q => absurd rfl q⟩
  have fin : ∀ (I' : Nat → Nat → Int32) (b : Nat) (d : Option Value), b < 2 → (b = 1 ↔ res = 1) → FrT I I' → mj_To 191 81 [some (.ref 0), some (.int (nI p)), some (.int (nI n)), some (.int (nI s)), some (.int (nI b)), d] [] (KM, I', J, GM) Q := fun I' b d hb eb hf => by
    refine mjT_go 1 (pc' := 83) (L' := [some (.ref 0), some (.int (nI p)), some (.int (nI n)), some (.int (nI s)), some (.int (nI b)), d]) (st' := [.int (nI b)]) (w1 := (KM, I', J, GM)) rfl ?_
    refine mjT_retN hb rfl rfl ?_
    exact hQ _ _ ⟨by rw [show b = res by omega], _, rfl, mw_ft hM hV hf⟩
  have head : ∀ (b : Nat), b < 2 → (b = 1 ↔ sameN S.o (goO E) p 0 ≠ 0) → mj_To 191 36 [some (.ref 0), some (.int (nI p)), some (.int (nI n)), some (.int (nI s)), some (.int (nI b)), none] [] (KM, V1, J, GM) Q := fun b0 hb0 eb0 => by
    refine mjT_go 2 (pc' := 39) (L' := [some (.ref 0), some (.int (nI p)), some (.int (nI n)), some (.int (nI s)), some (.int (nI b0)), some (.int (nI 0))]) (st' := []) (w1 := (KM, V1, J, GM)) rfl ?_
    refine mj_loop (fun k L w => ∃ (b : Nat) (I' : Nat → Nat → Int32), L = [some (.ref 0), some (.int (nI p)), some (.int (nI n)), some (.int (nI s)), some (.int (nI b)), some (.int (nI k))] ∧ w = (KM, I', J, GM) ∧ b < 2 ∧ FrT I I' ∧ MO I' 1680 (goO E k) ∧ (b = 1 ↔ ∀ j, j < k + 1 → sameN S.o (goO E) p j ≠ 0)) n (k0 := 0) (Nat.zero_le _) ?_ ?_ ?_
    · refine ⟨b0, _, rfl, rfl, hb0, hf3, hO3, eb0.trans ⟨fun q j hj => ?_, fun q => q 0 (by omega)⟩⟩
      obtain rfl : j = 0 := by omega
      exact q
    · rintro k _ _ hk ⟨b, I4, rfl, rfl, hb2, hf4, hO4, hb⟩ hc
      have hVk := v_go hVD k (by omega)
      have hgd := goO_day E k
      have hgn := go_n E (k + 1)
      refine mjT_go 3 (pc' := if nI n ≤ nI k then 81 else 45) (L' := [some (.ref 0), some (.int (nI p)), some (.int (nI n)), some (.int (nI s)), some (.int (nI b)), some (.int (nI k))]) (st' := []) (w1 := (KM, I4, J, GM)) rfl ?_
      refine mjT_ifF (nI_ge (by omega) (by omega)) ?_
      refine mjT_go 2 (pc' := if nI b = 0 then 81 else 50) (L' := [some (.ref 0), some (.int (nI p)), some (.int (nI n)), some (.int (nI s)), some (.int (nI b)), some (.int (nI k))]) (st' := []) (w1 := (KM, I4, J, GM)) rfl ?_
      refine mjT_if_eq (u := b) (v := 0) rfl nI_0.symm (by omega) (by omega) (fun h3 => ?_) (fun h3 => ?_)
      · refine fin _ _ _ hb2 ?_ hf4
        rw [hkp]
        exact ⟨fun q => absurd q (by omega), fun q => hb.mpr (fun j hj => q j (by omega))⟩
      refine mjT_go 2 (pc' := 52) (L' := [some (.ref 0), some (.int (nI p)), some (.int (nI n)), some (.int (nI s)), some (.int (nI b)), some (.int (nI k))]) (st' := [.int (nI 1), .ref 0]) (w1 := (KM, I4, J, GM)) rfl ?_
      refine mjT_call (as := [.ref 0, .int (nI 1)]) (rest := []) rfl rfl rfl rfl rfl ⟨rfl, rfl⟩ (m_goOn hVk hO4 (n := 1) (by omega)) ?_
      rintro _ _ ⟨rfl, I5, rfl, hO5, hf5⟩
      have hO6 : MO I5 1680 (goO E (k + 1)) := hO5
      have hft := ft_tr hf4 (ft_of hf5)
      have hM5 := mw_ft hM hV hft
      have sk := same (k + 1) (by omega)
      have hb1 := fg_lt (go_dgo hVD (k := k + 1) (by omega) (show p < E.n by omega)) 6 (by omega)
      have hb4 := fg_lt (hV.o.own p hp) 6 (by omega)
      have hall := hb.mp (by omega)
      refine mjT_go 2 (pc' := 57) (L' := [some (.ref 0), some (.int (nI p)), some (.int (nI n)), some (.int (nI s)), some (.int (nI b)), some (.int (nI k))]) (st' := [.int (nI p), .ref 0]) (w1 := (KM, I5, J, GM)) rfl ?_
      refine mjT_callE (as := [.ref 0, .int (nI p)]) (rest := []) (r1 := some (.int (nI (fg ((goO E (k + 1)).wr p) 6)))) rfl rfl rfl rfl rfl ⟨rfl, rfl⟩ (m_writesNow (by omega) hO6 (by omega)) ?_
      refine mjT_go 2 (pc' := 62) (L' := [some (.ref 0), some (.int (nI p)), some (.int (nI n)), some (.int (nI s)), some (.int (nI b)), some (.int (nI k))]) (st' := [.int (nI p), .ref 0, .int (nI (fg ((goO E (k + 1)).wr p) 6))]) (w1 := (KM, I5, J, GM)) rfl ?_
      refine mjT_callE (as := [.ref 0, .int (nI p)]) (rest := [.int (nI (fg ((goO E (k + 1)).wr p) 6))]) (r1 := some (.int (nI (fg (S.o.own p) 6)))) rfl rfl rfl rfl rfl ⟨rfl, rfl⟩ (m_ownOf hn hM5.o hp) ?_
      refine mjT_go 1 (pc' := if ¬ nI (fg ((goO E (k + 1)).wr p) 6) = nI (fg (S.o.own p) 6) then 72 else 68) (L' := [some (.ref 0), some (.int (nI p)), some (.int (nI n)), some (.int (nI s)), some (.int (nI b)), some (.int (nI k))]) (st' := []) (w1 := (KM, I5, J, GM)) rfl ?_
      refine mjT_if_ne (u := fg ((goO E (k + 1)).wr p) 6) (v := fg (S.o.own p) 6) rfl rfl (by omega) (by omega) (fun h5 => ?_) (fun h5 => ?_)
      · rw [Ne, sk] at h5
        refine mjT_go 4 (pc' := 39) (L' := [some (.ref 0), some (.int (nI p)), some (.int (nI n)), some (.int (nI s)), some (.int (nI 0)), some (.int ((nI k) + (nI 1)))]) (st' := []) (w1 := (KM, I5, J, GM)) rfl ?_
        rw [nI_add]
        exact hc _ _ ⟨0, _, rfl, rfl, by omega, hft, hO6, fun q => absurd q (by omega), fun q => absurd (q (k + 1) (by omega)) h5⟩
      · rw [sk] at h5
        refine mjT_go 5 (pc' := 39) (L' := [some (.ref 0), some (.int (nI p)), some (.int (nI n)), some (.int (nI s)), some (.int (nI 1)), some (.int ((nI k) + (nI 1)))]) (st' := []) (w1 := (KM, I5, J, GM)) rfl ?_
        rw [nI_add]
        refine hc _ _ ⟨1, _, rfl, rfl, by omega, hft, hO6, fun _ j hj => ?_, fun _ => rfl⟩
        by_cases e : j = k + 1
        · rw [e]; exact h5
        · exact hall j (by omega)
    · rintro _ _ ⟨b, I4, rfl, rfl, hb2, hf4, hO4, hb⟩
      refine mjT_go 3 (pc' := if nI n ≤ nI n then 81 else 45) (L' := [some (.ref 0), some (.int (nI p)), some (.int (nI n)), some (.int (nI s)), some (.int (nI b)), some (.int (nI n))]) (st' := []) (w1 := (KM, I4, J, GM)) rfl ?_
      refine mjT_ifT (Int32.le_refl _) ?_
      exact fin _ _ _ hb2 (by rw [hkp]; exact hb) hf4
  have hM3 := mw_ft hM hV hf3
  have s0 := same 0 (by omega)
  have hb1 := fg_lt (go_dgo hVD (k := 0) (by omega) (show p < E.n by omega)) 6 (by omega)
  have hb4 := fg_lt (hV.o.own p hp) 6 (by omega)
  have hO0 : MO V1 1680 (goO E 0) := hO3
  refine mjT_go 2 (pc' := 18) (L' := [some (.ref 0), some (.int (nI p)), some (.int (nI n)), some (.int (nI s)), none, none]) (st' := [.int (nI p), .ref 0]) (w1 := (KM, V1, J, GM)) rfl ?_
  refine mjT_callE (as := [.ref 0, .int (nI p)]) (rest := []) (r1 := some (.int (nI (fg ((goO E 0).wr p) 6)))) rfl rfl rfl rfl rfl ⟨rfl, rfl⟩ (m_writesNow (show (goO E 0).n ≤ 7 from hVD.n) hO0 (show p < (goO E 0).n by show p < E.n; omega)) ?_
  refine mjT_go 2 (pc' := 23) (L' := [some (.ref 0), some (.int (nI p)), some (.int (nI n)), some (.int (nI s)), none, none]) (st' := [.int (nI p), .ref 0, .int (nI (fg ((goO E 0).wr p) 6))]) (w1 := (KM, V1, J, GM)) rfl ?_
  refine mjT_callE (as := [.ref 0, .int (nI p)]) (rest := [.int (nI (fg ((goO E 0).wr p) 6))]) (r1 := some (.int (nI (fg (S.o.own p) 6)))) rfl rfl rfl rfl rfl ⟨rfl, rfl⟩ (m_ownOf hn hM3.o hp) ?_
  refine mjT_go 1 (pc' := if ¬ nI (fg ((goO E 0).wr p) 6) = nI (fg (S.o.own p) 6) then 33 else 29) (L' := [some (.ref 0), some (.int (nI p)), some (.int (nI n)), some (.int (nI s)), none, none]) (st' := []) (w1 := (KM, V1, J, GM)) rfl ?_
  refine mjT_if_ne (u := fg ((goO E 0).wr p) 6) (v := fg (S.o.own p) 6) rfl rfl (by omega) (by omega) (fun h5 => ?_) (fun h5 => ?_)
  · rw [Ne, s0] at h5
    refine mjT_go 2 (pc' := 36) (L' := [some (.ref 0), some (.int (nI p)), some (.int (nI n)), some (.int (nI s)), some (.int (nI 0)), none]) (st' := []) (w1 := (KM, V1, J, GM)) rfl ?_
    exact head 0 (by omega) ⟨fun q => absurd q (by omega), fun q => absurd q h5⟩
  · rw [s0] at h5
    refine mjT_go 3 (pc' := 36) (L' := [some (.ref 0), some (.int (nI p)), some (.int (nI n)), some (.int (nI s)), some (.int (nI 1)), none]) (st' := []) (w1 := (KM, V1, J, GM)) rfl ?_
    exact head 1 (by omega) ⟨fun _ => h5, fun _ => rfl⟩
theorem mm_dryOut (hV : VS S) (hM : MW I J S) {x y : Int32} : mj_E 192 [.ref 0, .int x, .int y] (KM, I, J, GM) (fun w' r => r = some (.int (aDryOut S x y)) ∧ ∃ I' J', w' = (KM, I', J', GM) ∧ MW I' J' S) := by
  have hn := hV.o.n
  have hD := hV.o.dry
  have hr1 := ip01 x S.o.n
  have hr2 := ir01 y 0 60
  unfold aDryOut
  refine mjT_go 2 (pc' := 2) (L' := [some (.ref 0), some (.int x), some (.int y), none, none, none]) (st' := [.int x, .ref 0]) (w1 := (KM, I, J, GM)) rfl ?_
  refine mjT_callE (as := [.ref 0, .int x]) (rest := []) (r1 := some (.int (nI (iP x S.o.n)))) rfl rfl rfl rfl rfl ⟨rfl, rfl⟩ (m_isPerson hV.o hM.o) ?_
  refine mjT_go 1 (pc' := if nI (iP x S.o.n) = 0 then 15 else 8) (L' := [some (.ref 0), some (.int x), some (.int y), none, none, none]) (st' := []) (w1 := (KM, I, J, GM)) rfl ?_
  refine mjT_if_eq (u := iP x S.o.n) (v := 0) rfl nI_0.symm (by omega) (by omega) (fun h1 => ?_) (fun h1 => ?_)
  · rw [if_neg (by omega)]
    refine mjT_go 1 (pc' := 16) (L' := [some (.ref 0), some (.int x), some (.int y), none, none, none]) (st' := [.int (-1)]) (w1 := (KM, I, J, GM)) rfl ?_
    refine mjT_ret rfl rfl rfl ?_
    exact ⟨rfl, _, _, rfl, hM⟩
  refine mjT_go 1 (pc' := 9) (L' := [some (.ref 0), some (.int x), some (.int y), none, none, none]) (st' := [.int y]) (w1 := (KM, I, J, GM)) rfl ?_
  refine mjT_callE (as := [.int y]) (rest := []) (r1 := some (.int (nI (iR y 0 60)))) rfl rfl rfl rfl rfl ⟨rfl, rfl⟩ m_isLong ?_
  refine mjT_go 1 (pc' := if ¬ nI (iR y 0 60) = 0 then 17 else 15) (L' := [some (.ref 0), some (.int x), some (.int y), none, none, none]) (st' := []) (w1 := (KM, I, J, GM)) rfl ?_
  refine mjT_if_ne (u := iR y 0 60) (v := 0) rfl nI_0.symm (by omega) (by omega) (fun h2 => ?_) (fun h2 => ?_)
  rotate_left
  · rw [if_neg (by omega)]
    refine mjT_go 1 (pc' := 16) (L' := [some (.ref 0), some (.int x), some (.int y), none, none, none]) (st' := [.int (-1)]) (w1 := (KM, I, J, GM)) rfl ?_
    refine mjT_ret rfl rfl rfl ?_
    exact ⟨rfl, _, _, rfl, hM⟩
  rw [if_pos (show iP x S.o.n = 1 ∧ iR y 0 60 = 1 by omega)]
  obtain ⟨p, hp, rfl⟩ := iP_1 (x := x) (n := S.o.n) (by omega) (by omega)
  obtain ⟨n, _, hn60, rfl⟩ := iR_1 (x := y) (a := 0) (b := 60) (by omega) (by omega) (by omega)
  rw [nn_N (by omega), nn_N (by omega)]
  have hH : ∀ s, s < 256 → kpN S.o p n (S.o.dry ||| s) = 1 → kpN S.o p n S.o.dry = 1 ∨ ∃ c, c < 8 ∧ bitN S.o.dry c = 0 ∧ kpN S.o p n (S.o.dry ||| 2 ^ c) = 1 := fun s _ h => by
    have h0 : rw6 (S.o.wr p) = rw6 (S.o.own p) := by
      have := kp_1.mp h 0 (by omega)
      unfold sameN at this
      by_cases q : rw6 (S.o.wr p) = rw6 (S.o.own p)
      · exact q
      · exact absurd (if_neg q) this
    have hch := hV.o.chair p hp
    have hbl := bitN_lt S.o.dry (S.o.chair p)
    by_cases hb : bitN S.o.dry (S.o.chair p) = 1
    · exact Or.inl (kp_dry hV.o hp hb h0)
    · exact Or.inr ⟨_, hch, by omega, kp_dry hV.o hp (bit_or _ hD _ hch) h0⟩
  rw [dry_eq hD (fun d => kp_lt _ _ _ d) hH]
  obtain ⟨kw, hw⟩ : ∃ kw, kpN S.o p n = kw := ⟨_, rfl⟩
  have hw2 : ∀ d, kw d < 2 := fun d => by rw [← hw]; exact kp_lt _ _ _ _
  have stays : ∀ {I' : Nat → Nat → Int32} {s : Nat}, MW I' J S → s < 256 → mj_E 191 [.ref 0, .int (nI p), .int (nI n), .int (nI s)] (KM, I', J, GM) (fun w' q => q = some (.int (nI (kw (S.o.dry ||| s)))) ∧ ∃ I', w' = (KM, I', J, GM) ∧ MW I' J S) := fun h hs => by rw [← hw]; exact m_staysOwn hV h hp hn60 hs
  rw [hw]
  refine mjT_go 4 (pc' := 23) (L' := [some (.ref 0), some (.int (nI p)), some (.int (nI n)), some (.int (-4)), some (.int (nI 0)), none]) (st' := []) (w1 := (KM, I, J, GM)) rfl ?_
  refine mjT_gen fun Q hQ => ?_
  refine mj_loop (fun k L w => ∃ (d : Option Value) (I' : Nat → Nat → Int32), L = [some (.ref 0), some (.int (nI p)), some (.int (nI n)), some (.int (tI (bstN kw S.o.dry k))), some (.int (nI k)), d] ∧ w = (KM, I', J, GM) ∧ MW I' J S) 256 (k0 := 0) (Nat.zero_le _) ?_ ?_ ?_
  · exact ⟨_, _, rfl, rfl, hM⟩
  · rintro s _ _ hs ⟨d, I2, rfl, rfl, hM2⟩ hc
    have hbl := bst_le kw S.o.dry s
    have hwl := hw2 (S.o.dry ||| s)
    have hal : s &&& S.o.dry ≤ s := Nat.and_le_left
    have no : ∀ (I' : Nat → Nat → Int32) (d : Option Value), MW I' J S → ¬ ((s &&& S.o.dry = 0 ∧ (bstN kw S.o.dry s = 0 ∨ onesN s 8 < onesN (bstN kw S.o.dry s - 1) 8)) ∧ kw (S.o.dry ||| s) = 1) → mj_To 192 89 [some (.ref 0), some (.int (nI p)), some (.int (nI n)), some (.int (tI (bstN kw S.o.dry s))), some (.int (nI s)), d] [] (KM, I', J, GM) Q := fun I' d hM' h => by
      refine mjT_go 4 (pc' := 23) (L' := [some (.ref 0), some (.int (nI p)), some (.int (nI n)), some (.int (tI (bstN kw S.o.dry s))), some (.int ((nI s) + (nI 1))), d]) (st' := []) (w1 := (KM, I', J, GM)) rfl ?_
      have e : bstN kw S.o.dry (s + 1) = bstN kw S.o.dry s := if_neg h
      rw [nI_add, ← e]
      exact hc _ _ ⟨_, _, rfl, rfl, hM'⟩
    have may : ∀ (d : Option Value), (s &&& S.o.dry = 0 ∧ (bstN kw S.o.dry s = 0 ∨ onesN s 8 < onesN (bstN kw S.o.dry s - 1) 8)) → mj_To 192 61 [some (.ref 0), some (.int (nI p)), some (.int (nI n)), some (.int (tI (bstN kw S.o.dry s))), some (.int (nI s)), d] [] (KM, I2, J, GM) Q := fun d h => by
      refine mjT_go 5 (pc' := if nI 1 = 0 then 89 else 73) (L' := [some (.ref 0), some (.int (nI p)), some (.int (nI n)), some (.int (tI (bstN kw S.o.dry s))), some (.int (nI s)), some (.int (nI 1))]) (st' := []) (w1 := (KM, I2, J, GM)) rfl ?_
      refine mjT_ifF (by decide) ?_
      refine mjT_go 4 (pc' := 78) (L' := [some (.ref 0), some (.int (nI p)), some (.int (nI n)), some (.int (tI (bstN kw S.o.dry s))), some (.int (nI s)), some (.int (nI 1))]) (st' := [.int (nI s), .int (nI n), .int (nI p), .ref 0]) (w1 := (KM, I2, J, GM)) rfl ?_
      refine mjT_call (as := [.ref 0, .int (nI p), .int (nI n), .int (nI s)]) (rest := []) rfl rfl rfl rfl rfl ⟨rfl, rfl⟩ (stays hM2 hs) ?_
      rintro _ _ ⟨rfl, I3, rfl, hM3⟩
      refine mjT_go 1 (pc' := if nI (kw (S.o.dry ||| s)) = 0 then 89 else 84) (L' := [some (.ref 0), some (.int (nI p)), some (.int (nI n)), some (.int (tI (bstN kw S.o.dry s))), some (.int (nI s)), some (.int (nI 1))]) (st' := []) (w1 := (KM, I3, J, GM)) rfl ?_
      refine mjT_if_eq (u := kw (S.o.dry ||| s)) (v := 0) rfl nI_0.symm (by omega) (by omega) (fun h4 => ?_) (fun h4 => ?_)
      · exact no _ _ hM3 (fun q => by omega)
      · refine mjT_go 5 (pc' := 23) (L' := [some (.ref 0), some (.int (nI p)), some (.int (nI n)), some (.int (nI s)), some (.int ((nI s) + (nI 1))), some (.int (nI 1))]) (st' := []) (w1 := (KM, I3, J, GM)) rfl ?_
        have e : bstN kw S.o.dry (s + 1) = s + 1 := if_pos ⟨h, by omega⟩
        rw [nI_add]
        exact hc _ _ ⟨_, _, by rw [e, tI_s], rfl, hM3⟩
    have nomay : ∀ (d : Option Value), ¬ (s &&& S.o.dry = 0 ∧ (bstN kw S.o.dry s = 0 ∨ onesN s 8 < onesN (bstN kw S.o.dry s - 1) 8)) → mj_To 192 65 [some (.ref 0), some (.int (nI p)), some (.int (nI n)), some (.int (tI (bstN kw S.o.dry s))), some (.int (nI s)), d] [] (KM, I2, J, GM) Q := fun d h => by
      refine mjT_go 4 (pc' := if nI 0 = 0 then 89 else 73) (L' := [some (.ref 0), some (.int (nI p)), some (.int (nI n)), some (.int (tI (bstN kw S.o.dry s))), some (.int (nI s)), some (.int (nI 0))]) (st' := []) (w1 := (KM, I2, J, GM)) rfl ?_
      refine mjT_ifT rfl ?_
      exact no _ _ hM2 (fun q => h q.1)
    refine mjT_go 3 (pc' := if nI 256 ≤ nI s then 97 else 31) (L' := [some (.ref 0), some (.int (nI p)), some (.int (nI n)), some (.int (tI (bstN kw S.o.dry s))), some (.int (nI s)), d]) (st' := []) (w1 := (KM, I2, J, GM)) rfl ?_
    refine mjT_ifF (nI_ge (by omega) (by omega)) ?_
    refine mjT_go 4 (pc' := 40) (L' := [some (.ref 0), some (.int (nI p)), some (.int (nI n)), some (.int (tI (bstN kw S.o.dry s))), some (.int (nI s)), d]) (st' := [.int (nI 150), .ref 1, .int (nI s)]) (w1 := (KM, I2, J, GM)) rfl ?_
    refine mjT_ial (v := nI S.o.dry) 150 1840 rfl (pc' := 41) rfl rfl rfl (by omega) (by omega) (mo_at hM2.o.dry rfl (by omega)) ?_
    refine mjT_go 1 (pc' := 42) (L' := [some (.ref 0), some (.int (nI p)), some (.int (nI n)), some (.int (tI (bstN kw S.o.dry s))), some (.int (nI s)), d]) (st' := [.int ((nI s) &&& (nI S.o.dry))]) (w1 := (KM, I2, J, GM)) rfl ?_
    rw [nI_and]
    refine mjT_go 1 (pc' := if ¬ nI (s &&& S.o.dry) = 0 then 65 else 45) (L' := [some (.ref 0), some (.int (nI p)), some (.int (nI n)), some (.int (tI (bstN kw S.o.dry s))), some (.int (nI s)), d]) (st' := []) (w1 := (KM, I2, J, GM)) rfl ?_
    refine mjT_if_ne (u := s &&& S.o.dry) (v := 0) rfl nI_0.symm (by omega) (by omega) (fun h1 => ?_) (fun h1 => ?_)
    · exact nomay _ (fun q => h1 q.1)
    refine mjT_go 2 (pc' := if tI (bstN kw S.o.dry s) < 0 then 61 else 49) (L' := [some (.ref 0), some (.int (nI p)), some (.int (nI n)), some (.int (tI (bstN kw S.o.dry s))), some (.int (nI s)), d]) (st' := []) (w1 := (KM, I2, J, GM)) rfl ?_
    refine mjT_if (fun h3 => ?_) (fun h3 => ?_)
    · rw [tI_neg (by omega)] at h3
      exact may _ ⟨h1, Or.inl h3⟩
    rw [tI_neg (by omega)] at h3
    have hb1 : bstN kw S.o.dry s = (bstN kw S.o.dry s - 1) + 1 := by omega
    have ho1 := ones_le s 8
    have ho2 := ones_le (bstN kw S.o.dry s - 1) 8
    refine mjT_go 1 (pc' := 51) (L' := [some (.ref 0), some (.int (nI p)), some (.int (nI n)), some (.int (tI (bstN kw S.o.dry s))), some (.int (nI s)), d]) (st' := [.int (nI s)]) (w1 := (KM, I2, J, GM)) rfl ?_
    refine mjT_callE (as := [.int (nI s)]) (rest := []) (r1 := some (.int (nI (onesN s 8)))) rfl rfl rfl rfl rfl ⟨rfl, rfl⟩ (m_ones hs) ?_
    refine mjT_go 1 (pc' := 55) (L' := [some (.ref 0), some (.int (nI p)), some (.int (nI n)), some (.int (tI (bstN kw S.o.dry s))), some (.int (nI s)), d]) (st' := [.int (tI (bstN kw S.o.dry s)), .int (nI (onesN s 8))]) (w1 := (KM, I2, J, GM)) rfl ?_
    refine mjT_callE (as := [.int (tI (bstN kw S.o.dry s))]) (rest := [.int (nI (onesN s 8))]) (r1 := some (.int (nI (onesN (bstN kw S.o.dry s - 1) 8)))) rfl rfl rfl rfl rfl ⟨rfl, rfl⟩ (by rw [show tI (bstN kw S.o.dry s) = nI (bstN kw S.o.dry s - 1) by rw [hb1, tI_s, Nat.add_sub_cancel]]; exact m_ones (by omega)) ?_
    refine mjT_go 1 (pc' := if nI (onesN (bstN kw S.o.dry s - 1) 8) ≤ nI (onesN s 8) then 65 else 61) (L' := [some (.ref 0), some (.int (nI p)), some (.int (nI n)), some (.int (tI (bstN kw S.o.dry s))), some (.int (nI s)), d]) (st' := []) (w1 := (KM, I2, J, GM)) rfl ?_
    refine mjT_if_le (u := onesN (bstN kw S.o.dry s - 1) 8) (v := onesN s 8) rfl rfl (by omega) (by omega) (fun h4 => ?_) (fun h4 => ?_)
    · exact nomay _ (fun q => by omega)
    · exact may _ ⟨h1, Or.inr h4⟩
  · rintro _ _ ⟨d, I2, rfl, rfl, hM2⟩
    refine mjT_go 3 (pc' := if nI 256 ≤ nI 256 then 97 else 31) (L' := [some (.ref 0), some (.int (nI p)), some (.int (nI n)), some (.int (tI (bstN kw S.o.dry 256))), some (.int (nI 256)), d]) (st' := []) (w1 := (KM, I2, J, GM)) rfl ?_
    refine mjT_ifT (Int32.le_refl _) ?_
    refine mjT_go 1 (pc' := 98) (L' := [some (.ref 0), some (.int (nI p)), some (.int (nI n)), some (.int (tI (bstN kw S.o.dry 256))), some (.int (nI 256)), d]) (st' := [.int (tI (bstN kw S.o.dry 256))]) (w1 := (KM, I2, J, GM)) rfl ?_
    refine mjT_ret rfl rfl rfl ?_
    exact hQ _ _ ⟨rfl, _, _, rfl, hM2⟩
theorem sim_dryOut {x y : Int32} : SimO 95 192 [.int x, .int y] := fun S _ _ _ _ hV hC hM => ⟨S, _, hV, cc_dryOut hV hC, mm_dryOut hV hM⟩
end DR
