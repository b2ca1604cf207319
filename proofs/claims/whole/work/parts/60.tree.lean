/-! the tree: what it costs does not hang on which of like ones is joined first -/
noncomputable def cnP (P : Nat → Prop) : Nat → Nat
  | 0 => 0
  | k + 1 => cnP P k + @ite Nat (P k) (Classical.propDecidable (P k)) 1 0
theorem cn_t {P : Nat → Prop} {k : Nat} (h : P k) : cnP P (k + 1) = cnP P k + 1 := by
  show cnP P k + @ite Nat (P k) (Classical.propDecidable (P k)) 1 0 = _
  rw [if_pos h]
theorem cn_f {P : Nat → Prop} {k : Nat} (h : ¬ P k) : cnP P (k + 1) = cnP P k := by
  show cnP P k + @ite Nat (P k) (Classical.propDecidable (P k)) 1 0 = _
  rw [if_neg h]; rfl
theorem cn_none {P : Nat → Prop} : ∀ {n}, (∀ k, k < n → ¬ P k) → cnP P n = 0
  | 0, _ => rfl
  | n + 1, h => by rw [cn_f (h n (by omega)), cn_none (fun k hk => h k (by omega))]
theorem cn_congr {P P' : Nat → Prop} : ∀ {n}, (∀ k, k < n → (P' k ↔ P k)) → cnP P' n = cnP P n
  | 0, _ => rfl
  | n + 1, h => by
    have ih := cn_congr (n := n) (fun k hk => h k (by omega))
    by_cases q : P n
    · rw [cn_t q, cn_t ((h n (by omega)).mpr q), ih]
    · rw [cn_f q, cn_f (fun z => q ((h n (by omega)).mp z)), ih]
theorem cn_add {P P' : Nat → Prop} {q : Nat} (h1 : P' q) (h2 : ¬ P q) : ∀ {n}, q < n → (∀ k, k < n → k ≠ q → (P' k ↔ P k)) → cnP P' n = cnP P n + 1
  | 0, hq, _ => absurd hq (by omega)
  | n + 1, hq, h => by
    by_cases e : q = n
    · subst e
      rw [cn_t h1, cn_f h2, cn_congr (P := P) (P' := P') (fun k hk => h k (by omega) (by omega))]
    · have ih := cn_add h1 h2 (n := n) (by omega) (fun k hk hne => h k (by omega) hne)
      have hn := h n (by omega) (fun z => e z.symm)
      by_cases z : P n
      · rw [cn_t z, cn_t (hn.mpr z), ih]
      · rw [cn_f z, cn_f (fun y => z (hn.mp y)), ih]
theorem cn_all {P : Nat → Prop} : ∀ {n}, (∀ k, k < n → P k) → cnP P n = n
  | 0, _ => rfl
  | n + 1, h => by rw [cn_t (h n (by omega)), cn_all (fun k hk => h k (by omega))]
theorem cn_le (P : Nat → Prop) : ∀ n, cnP P n ≤ n
  | 0 => Nat.le_refl _
  | n + 1 => by
    have := cn_le P n
    by_cases q : P n
    · rw [cn_t q]; omega
    · rw [cn_f q]; omega
theorem cn_not {P : Nat → Prop} : ∀ {n}, cnP P n < n → ∃ k, k < n ∧ ¬ P k
  | 0, h => absurd h (by omega)
  | n + 1, h => by
    by_cases q : P n
    · rw [cn_t q] at h
      obtain ⟨k, hk, h2⟩ := cn_not (P := P) (n := n) (by omega)
      exact ⟨k, by omega, h2⟩
    · exact ⟨n, by omega, q⟩
theorem cn_full {P : Nat → Prop} : ∀ {n}, cnP P n = n → ∀ k, k < n → P k
  | 0, _, k, hk => absurd hk (by omega)
  | n + 1, h, k, hk => by
    have hle := cn_le P n
    by_cases q : P n
    · rw [cn_t q] at h
      by_cases e : k = n
      · rw [e]; exact q
      · exact cn_full (P := P) (n := n) (by omega) k (by omega)
    · rw [cn_f q] at h; omega
/-- hang together by changes of at most t -/
def RcN (n : Nat) (W : Nat → Nat → Nat) (t a b : Nat) : Prop := ∀ X : Nat → Prop, (∀ u v, u < n → v < n → X u → W u v ≤ t → X v) → X a → X b
section TR
variable {n : Nat} {W : Nat → Nat → Nat} {t a b c : Nat} {A A' : Nat → Prop}
theorem rc_refl : RcN n W t a a := fun _ _ h => h
theorem rc_tr (h1 : RcN n W t a b) (h2 : RcN n W t b c) : RcN n W t a c := fun X hX h => h2 X hX (h1 X hX h)
theorem rc_sym (hs : ∀ u v, W u v = W v u) (h : RcN n W t a b) : RcN n W t b a := fun X hX hb => by
  by_cases q : X a
  · exact q
  · exact absurd hb (h (fun u => ¬ X u) (fun u v hu hv hxu hw hxv => hxu (hX v u hv hu hxv (by rw [hs]; exact hw))) q)
theorem rc_edge (ha : a < n) (hb : b < n) (h : W a b ≤ t) : RcN n W t a b := fun _ hX hx => hX a b ha hb hx h
theorem rc_cut (ha : A a) (hb : ¬ A b) (h : RcN n W t a b) : ∃ x y, x < n ∧ y < n ∧ A x ∧ ¬ A y ∧ W x y ≤ t := by
  by_cases q : ∃ x y, x < n ∧ y < n ∧ A x ∧ ¬ A y ∧ W x y ≤ t
  · exact q
  · refine absurd (h A (fun u v hu hv hxu hw => ?_) ha) hb
    by_cases z : A v
    · exact z
    · exact absurd ⟨u, v, hu, hv, hxu, z, hw⟩ q
/-- the parts without any of A -/
noncomputable def cTN (n : Nat) (W : Nat → Nat → Nat) (A : Nat → Prop) (t : Nat) : Nat := cnP (fun q => (∀ r, r < q → ¬ RcN n W t q r) ∧ ∀ p, p < n → A p → ¬ RcN n W t p q) n
theorem least_of (P : Nat → Prop) (h : ∃ k, P k) : ∃ k, P k ∧ ∀ j, j < k → ¬ P j := pk_least P h
theorem ct_step (hs : ∀ u v, W u v = W v u) {q w : Nat} (hq : q < n) (hqA : ¬ A q) (hA : ∀ p, p < n → (A' p ↔ A p ∨ p = q)) (hmin : ∀ p, p < n → A p → ∀ r, r < n → ¬ A r → w ≤ W p r) (hat : ∃ p, p < n ∧ A p ∧ W p q = w) (t : Nat) : ∃ b, cTN n W A' t + b = cTN n W A t ∧ (t < w → b = 1) ∧ (w ≤ t → b = 0) := by
  by_cases h : w ≤ t
  · refine ⟨0, ?_, fun z => by omega, fun _ => rfl⟩
    rw [Nat.add_zero]
    refine cn_congr (fun x hx => ?_)
    obtain ⟨p0, hp0, hA0, hw0⟩ := hat
    have hr : RcN n W t p0 q := rc_edge hp0 hq (by omega)
    constructor
    · rintro ⟨h1, h2⟩
      exact ⟨h1, fun p hp hpA => h2 p hp ((hA p hp).mpr (Or.inl hpA))⟩
    · rintro ⟨h1, h2⟩
      refine ⟨h1, fun p hp hpA hrx => ?_⟩
      rcases (hA p hp).mp hpA with z | rfl
      · exact h2 p hp z hrx
      · exact h2 p0 hp0 hA0 (rc_tr hr hrx)
  · refine ⟨1, ?_, fun _ => rfl, fun z => absurd z h⟩
    obtain ⟨r0, hr0, hmn⟩ := least_of (fun r => RcN n W t q r) ⟨q, rc_refl⟩
    have hr0q : r0 ≤ q := Nat.le_of_not_lt fun z => hmn q z rc_refl
    refine (cn_add (q := r0) ?_ ?_ (by omega) (fun x hx hne => ?_)).symm
    · refine ⟨fun r hr hrr => hmn r hr (rc_tr hr0 hrr), fun p hp hpA hpr => ?_⟩
      obtain ⟨x, y, hx, hy, hxA, hyA, hxy⟩ := rc_cut hpA hqA (rc_tr hpr (rc_sym hs hr0))
      have := hmin x hx hxA y hy hyA
      omega
    · rintro ⟨_, h2⟩
      exact h2 q hq ((hA q hq).mpr (Or.inr rfl)) hr0
    · constructor
      · rintro ⟨h1, h2⟩
        refine ⟨h1, fun p hp hpA hrx => ?_⟩
        rcases (hA p hp).mp hpA with z | rfl
        · exact h2 p hp z hrx
        · have e1 : ¬ r0 < x := fun z => h1 r0 z (rc_tr (rc_sym hs hrx) hr0)
          have e2 : ¬ x < r0 := fun z => hmn x z hrx
          omega
      · rintro ⟨h1, h2⟩
        exact ⟨h1, fun p hp hpA => h2 p hp ((hA p hp).mpr (Or.inl hpA))⟩
noncomputable def PhN (n : Nat) (W : Nat → Nat → Nat) (A : Nat → Prop) : Nat := cTN n W A 0 + cTN n W A 1 + cTN n W A 2 + cTN n W A 3 + cTN n W A 4 + cTN n W A 5
theorem ph_step (hs : ∀ u v, W u v = W v u) {q w : Nat} (hw6 : w ≤ 6) (hq : q < n) (hqA : ¬ A q) (hA : ∀ p, p < n → (A' p ↔ A p ∨ p = q)) (hmin : ∀ p, p < n → A p → ∀ r, r < n → ¬ A r → w ≤ W p r) (hat : ∃ p, p < n ∧ A p ∧ W p q = w) : PhN n W A' + w = PhN n W A := by
  obtain ⟨b0, e0, f0, g0⟩ := ct_step hs hq hqA hA hmin hat 0
  obtain ⟨b1, e1, f1, g1⟩ := ct_step hs hq hqA hA hmin hat 1
  obtain ⟨b2, e2, f2, g2⟩ := ct_step hs hq hqA hA hmin hat 2
  obtain ⟨b3, e3, f3, g3⟩ := ct_step hs hq hqA hA hmin hat 3
  obtain ⟨b4, e4, f4, g4⟩ := ct_step hs hq hqA hA hmin hat 4
  obtain ⟨b5, e5, f5, g5⟩ := ct_step hs hq hqA hA hmin hat 5
  unfold PhN
  omega
theorem ph_full (h : ∀ p, p < n → A p) : PhN n W A = 0 := by
  have z : ∀ t, cTN n W A t = 0 := fun t => cn_none (fun k hk q => q.2 k hk (h k hk) rc_refl)
  unfold PhN
  rw [z, z, z, z, z, z]
end TR
def bA (J : Nat) : Nat → Prop := fun p => bitN J p = 1
theorem bA_or : ∀ J, J < 128 → ∀ q, q < 7 → ∀ p, p < 7 → (bitN (J ||| 2 ^ q) p = 1 ↔ bitN J p = 1 ∨ p = q) := by decide +kernel
theorem bA_1 : ∀ p, p < 7 → (bitN 1 p = 1 ↔ p = 0) := by decide
theorem pow7 : ∀ q, q < 7 → 2 ^ q < 128 := by decide
def wTr (O : Off) (p q : Nat) : Nat := 6 - alk (O.own p) (O.own q) 6
theorem wT_sym (O : Off) (p q : Nat) : wTr O p q = wTr O q p := by unfold wTr; rw [alk_comm]
theorem wT_le (O : Off) (p q : Nat) : wTr O p q ≤ 6 := Nat.sub_le _ _
noncomputable def treN (O : Off) : Nat := PhN O.n (wTr O) (bA 1)
theorem cn_one {n : Nat} (hn : n ≤ 7) (h0 : 0 < n) : cnP (bA 1) n = 1 := by
  rw [cn_add (P := fun _ => False) (P' := bA 1) (q := 0) ((bA_1 0 (by omega)).mpr rfl) (fun z => z) h0 (fun k hk hne => ⟨fun z => absurd ((bA_1 k (by omega)).mp z) hne, fun z => absurd z (fun y => y)⟩), cn_none (fun _ _ z => z)]
def chgN (d e : Nat → Nat) : Nat → Nat
  | 0 => 0
  | k + 1 => chgN d e k + (1 - eqB (d k) (e k))
theorem chg_alk (d e : Nat → Nat) : ∀ k, chgN d e k + alk d e k = k
  | 0 => rfl
  | k + 1 => by
    have ih := chg_alk d e k
    rw [alk_s]
    unfold chgN eqB
    by_cases h : d k = e k
    · rw [if_pos h]; omega
    · rw [if_neg h]; omega
/-- changes to the nearest that is joined -/
def dsN (O : Off) (J q : Nat) : Nat → Nat
  | 0 => 6
  | p + 1 => if bitN J p = 1 then min (dsN O J q p) (wTr O p q) else dsN O J q p
theorem ds_le6 (O : Off) (J q : Nat) : ∀ p, dsN O J q p ≤ 6
  | 0 => Nat.le_refl _
  | p + 1 => by
    have := ds_le6 O J q p
    unfold dsN; split <;> omega
theorem ds_le {O : Off} {J q j : Nat} (h : bitN J j = 1) : ∀ {p}, j < p → dsN O J q p ≤ wTr O j q
  | 0, hj => absurd hj (by omega)
  | p + 1, hj => by
    unfold dsN
    by_cases e : j = p
    · subst e; rw [if_pos h]; omega
    · have := ds_le (O := O) (q := q) h (p := p) (by omega)
      split <;> omega
theorem ds_at {O : Off} {J q : Nat} : ∀ {p}, dsN O J q p = 6 ∨ ∃ j, j < p ∧ bitN J j = 1 ∧ wTr O j q = dsN O J q p
  | 0 => Or.inl rfl
  | p + 1 => by
    have ih := ds_at (O := O) (J := J) (q := q) (p := p)
    unfold dsN
    by_cases e : bitN J p = 1
    · rw [if_pos e]
      by_cases h : dsN O J q p ≤ wTr O p q
      · rw [Nat.min_eq_left h]
        rcases ih with h1 | ⟨j, h1, h2, h3⟩
        · exact Or.inl h1
        · exact Or.inr ⟨j, by omega, h2, h3⟩
      · rw [Nat.min_eq_right (by omega)]; exact Or.inr ⟨p, by omega, e, rfl⟩
    · rw [if_neg e]
      rcases ih with h1 | ⟨j, h1, h2, h3⟩
      · exact Or.inl h1
      · exact Or.inr ⟨j, by omega, h2, h3⟩
theorem ds_hit {O : Off} {J q j : Nat} (hj : j < O.n) (h : bitN J j = 1) : ∃ p, p < O.n ∧ bitN J p = 1 ∧ wTr O p q = dsN O J q O.n := by
  rcases ds_at (O := O) (J := J) (q := q) (p := O.n) with h1 | h1
  · have h2 := ds_le (O := O) (q := q) h hj
    have h3 := wT_le O j q
    exact ⟨j, hj, h, by omega⟩
  · exact h1
theorem min_I {a b : Nat} (ha : a < 2 ^ 31) (hb : b < 2 ^ 31) : (if nI b < nI a then nI b else nI a) = nI (min a b) := by
  by_cases h : b < a
  · rw [if_pos (nI_lt h ha), Nat.min_eq_right (by omega)]
  · rw [if_neg (nI_nlt (by omega) hb), Nat.min_eq_left (by omega)]
section TC
variable {I I' : Nat → Nat → Int32} {J : Nat → Nat → Int64} {K : List (Nat × Nat)} {G : Nat → Nat → Option Nat} {S : Sta} {o : Nat} {O : Off} {P : Nat → Prop}
theorem c_changesTo (hV : VS S) (hC : CW I J S) {B q : Nat} (hB : B < 128) (hq : q < S.o.n) : mj_Ev 125 [.ref 0, .int (nI B), .int (nI q)] (KC, I, J, GC) (KC, I, J, GC) (some (.int (nI (dsN S.o B q S.o.n)))) := by
  refine mj_ev_of ?_
  have hn := hV.o.n
  refine mjT_go 4 (pc' := 6) (L' := [some (.ref 0), some (.int (nI B)), some (.int (nI q)), some (.int (nI 6)), some (.int (nI 0))]) (st' := []) (w1 := (KC, I, J, GC)) rfl ?_
  refine mj_loop (fun k L w => L = [some (.ref 0), some (.int (nI B)), some (.int (nI q)), some (.int (nI (dsN S.o B q k))), some (.int (nI k))] ∧ w = (KC, I, J, GC)) S.o.n (k0 := 0) (Nat.zero_le _) ?_ ?_ ?_
  · exact ⟨rfl, rfl⟩
  · rintro p _ _ hp ⟨rfl, rfl⟩ hc
    have hb := bitN_lt B p
    have hd6 := ds_le6 S.o B q p
    have hal := alk_le (S.o.own p) (S.o.own q) 6
    refine mjT_go 3 (pc' := 12) (L' := [some (.ref 0), some (.int (nI B)), some (.int (nI q)), some (.int (nI (dsN S.o B q p))), some (.int (nI p))]) (st' := [.ref 1, .int (nI p)]) (w1 := (KC, I, J, GC)) rfl ?_
    refine mjT_gfi (v := nI S.o.n) rfl (Or.inl rfl) (pc' := 15) rfl rfl (mo_at (hC.o.n) (by omega) (by omega)) ?_
    refine mjT_go 1 (pc' := if nI S.o.n ≤ nI p then 62 else 18) (L' := [some (.ref 0), some (.int (nI B)), some (.int (nI q)), some (.int (nI (dsN S.o B q p))), some (.int (nI p))]) (st' := []) (w1 := (KC, I, J, GC)) rfl ?_
    refine mjT_ifF (nI_ge (by omega) (by omega)) ?_
    refine mjT_go 4 (pc' := 23) (L' := [some (.ref 0), some (.int (nI B)), some (.int (nI q)), some (.int (nI (dsN S.o B q p))), some (.int (nI p))]) (st' := [.int (nI 1), .int ((nI B) >>> ((nI p) &&& 31))]) (w1 := (KC, I, J, GC)) rfl ?_
    refine mjT_go 1 (pc' := 24) (L' := [some (.ref 0), some (.int (nI B)), some (.int (nI q)), some (.int (nI (dsN S.o B q p))), some (.int (nI p))]) (st' := [.int (((nI B) >>> ((nI p) &&& 31)) &&& (nI 1))]) (w1 := (KC, I, J, GC)) rfl ?_
    rw [bit_at (by omega) (by omega)]
    refine mjT_go 2 (pc' := if ¬ nI (bitN B p) = nI 1 then 56 else 28) (L' := [some (.ref 0), some (.int (nI B)), some (.int (nI q)), some (.int (nI (dsN S.o B q p))), some (.int (nI p))]) (st' := []) (w1 := (KC, I, J, GC)) rfl ?_
    refine mjT_if_ne (u := bitN B p) (v := 1) rfl rfl (by omega) (by omega) (fun h1 => ?_) (fun h1 => ?_)
    · refine mjT_go 2 (pc' := 6) (L' := [some (.ref 0), some (.int (nI B)), some (.int (nI q)), some (.int (nI (dsN S.o B q p))), some (.int ((nI p) + (nI 1)))]) (st' := []) (w1 := (KC, I, J, GC)) rfl ?_
      rw [nI_add, show dsN S.o B q p = dsN S.o B q (p + 1) by show _ = (if _ then _ else _); rw [if_neg h1]]
      exact hc _ _ ⟨rfl, rfl⟩
    · refine mjT_go 5 (pc' := 37) (L' := [some (.ref 0), some (.int (nI B)), some (.int (nI q)), some (.int (nI (dsN S.o B q p))), some (.int (nI p))]) (st' := [.int (nI p), .ref 1, .int (nI 6), .int (nI (dsN S.o B q p))]) (w1 := (KC, I, J, GC)) rfl ?_
      refine mjT_callE (as := [.ref 1, .int (nI p)]) (rest := [.int (nI 6), .int (nI (dsN S.o B q p))]) (r1 := some (.int (nI (rw6 (S.o.own p))))) rfl rfl rfl rfl rfl ⟨rfl, rfl⟩ (c_ownOf hn og_1 hC.o hp) ?_
      refine mjT_go 3 (pc' := 45) (L' := [some (.ref 0), some (.int (nI B)), some (.int (nI q)), some (.int (nI (dsN S.o B q p))), some (.int (nI p))]) (st' := [.int (nI q), .ref 1, .int (nI (rw6 (S.o.own p))), .int (nI 6), .int (nI (dsN S.o B q p))]) (w1 := (KC, I, J, GC)) rfl ?_
      refine mjT_callE (as := [.ref 1, .int (nI q)]) (rest := [.int (nI (rw6 (S.o.own p))), .int (nI 6), .int (nI (dsN S.o B q p))]) (r1 := some (.int (nI (rw6 (S.o.own q))))) rfl rfl rfl rfl rfl ⟨rfl, rfl⟩ (c_ownOf hn og_1 hC.o hq) ?_
      refine mjT_callE (as := [.int (nI (rw6 (S.o.own p))), .int (nI (rw6 (S.o.own q)))]) (rest := [.int (nI 6), .int (nI (dsN S.o B q p))]) (r1 := some (.int (nI (alk (S.o.own p) (S.o.own q) 6)))) rfl rfl rfl rfl rfl ⟨rfl, rfl⟩ (e_alike (hV.o.own p hp) (hV.o.own q hq)) ?_
      refine mjT_go 1 (pc' := 52) (L' := [some (.ref 0), some (.int (nI B)), some (.int (nI q)), some (.int (nI (dsN S.o B q p))), some (.int (nI p))]) (st' := [.int ((nI 6) - (nI (alk (S.o.own p) (S.o.own q) 6))), .int (nI (dsN S.o B q p))]) (w1 := (KC, I, J, GC)) rfl ?_
      rw [pk_sub hal, show 6 - alk (S.o.own p) (S.o.own q) 6 = wTr S.o p q from rfl]
      have hw6 := wT_le S.o p q
      refine mjT_go 1 (pc' := 55) (L' := [some (.ref 0), some (.int (nI B)), some (.int (nI q)), some (.int (nI (dsN S.o B q p))), some (.int (nI p))]) (st' := [.int (if nI (wTr S.o p q) < nI (dsN S.o B q p) then nI (wTr S.o p q) else nI (dsN S.o B q p))]) (w1 := (KC, I, J, GC)) rfl ?_
      rw [min_I (by omega) (by omega), show min (dsN S.o B q p) (wTr S.o p q) = dsN S.o B q (p + 1) by show _ = (if _ then _ else _); rw [if_pos h1]]
      refine mjT_go 3 (pc' := 6) (L' := [some (.ref 0), some (.int (nI B)), some (.int (nI q)), some (.int (nI (dsN S.o B q (p + 1)))), some (.int ((nI p) + (nI 1)))]) (st' := []) (w1 := (KC, I, J, GC)) rfl ?_
      rw [nI_add]
      exact hc _ _ ⟨rfl, rfl⟩
  · rintro _ _ ⟨rfl, rfl⟩
    refine mjT_go 3 (pc' := 12) (L' := [some (.ref 0), some (.int (nI B)), some (.int (nI q)), some (.int (nI (dsN S.o B q S.o.n))), some (.int (nI S.o.n))]) (st' := [.ref 1, .int (nI S.o.n)]) (w1 := (KC, I, J, GC)) rfl ?_
    refine mjT_gfi (v := nI S.o.n) rfl (Or.inl rfl) (pc' := 15) rfl rfl (mo_at (hC.o.n) (by omega) (by omega)) ?_
    refine mjT_go 1 (pc' := if nI S.o.n ≤ nI S.o.n then 62 else 18) (L' := [some (.ref 0), some (.int (nI B)), some (.int (nI q)), some (.int (nI (dsN S.o B q S.o.n))), some (.int (nI S.o.n))]) (st' := []) (w1 := (KC, I, J, GC)) rfl ?_
    refine mjT_ifT (Int32.le_refl _) ?_
    refine mjT_go 1 (pc' := 63) (L' := [some (.ref 0), some (.int (nI B)), some (.int (nI q)), some (.int (nI (dsN S.o B q S.o.n))), some (.int (nI S.o.n))]) (st' := [.int (nI (dsN S.o B q S.o.n))]) (w1 := (KC, I, J, GC)) rfl ?_
    refine mjT_ret rfl rfl rfl ?_
    exact ⟨rfl, rfl⟩
theorem c_nextJoined (hV : VS S) (hC : CW I J S) {B : Nat} (hB : B < 128) (hex : ∃ q, q < S.o.n ∧ ¬ bitN B q = 1) : mj_E 124 [.ref 0, .int (nI B)] (KC, I, J, GC) (fun w' r => w' = (KC, I, J, GC) ∧ ∃ q, r = some (.int (nI q)) ∧ q < S.o.n ∧ ¬ bitN B q = 1 ∧ ∀ x, x < S.o.n → ¬ bitN B x = 1 → dsN S.o B q S.o.n ≤ dsN S.o B x S.o.n) := by
  have hn := hV.o.n
  refine mjT_go 6 (pc' := 8) (L' := [some (.ref 0), some (.int (nI B)), some (.int (nI 0)), some (.int (nI 7)), some (.int (nI 0)), none]) (st' := []) (w1 := (KC, I, J, GC)) rfl ?_
  refine mj_loop (fun k L w => ∃ (q m : Nat) (d : Option Value), L = [some (.ref 0), some (.int (nI B)), some (.int (nI q)), some (.int (nI m)), some (.int (nI k)), d] ∧ w = (KC, I, J, GC) ∧ m ≤ 7 ∧ ((m = 7 ∧ ∀ x, x < k → bitN B x = 1) ∨ (m = dsN S.o B q S.o.n ∧ q < k ∧ ¬ bitN B q = 1 ∧ ∀ x, x < k → ¬ bitN B x = 1 → m ≤ dsN S.o B x S.o.n))) S.o.n (k0 := 0) (Nat.zero_le _) ?_ ?_ ?_
  · exact ⟨0, 7, _, rfl, rfl, by omega, Or.inl ⟨rfl, fun _ h => absurd h (by omega)⟩⟩
  · rintro p _ _ hp ⟨q, m, d, rfl, rfl, hm7, hinv⟩ hc
    have hb := bitN_lt B p
    have hd6 := ds_le6 S.o B p S.o.n
    have hq7 : q < 2 ^ 31 ∨ m = 7 := by
      rcases hinv with h | h
      · exact Or.inr h.1
      · exact Or.inl (by omega)
    refine mjT_go 3 (pc' := 14) (L' := [some (.ref 0), some (.int (nI B)), some (.int (nI q)), some (.int (nI m)), some (.int (nI p)), d]) (st' := [.ref 1, .int (nI p)]) (w1 := (KC, I, J, GC)) rfl ?_
    refine mjT_gfi (v := nI S.o.n) rfl (Or.inl rfl) (pc' := 17) rfl rfl (mo_at (hC.o.n) (by omega) (by omega)) ?_
    refine mjT_go 1 (pc' := if nI S.o.n ≤ nI p then 60 else 20) (L' := [some (.ref 0), some (.int (nI B)), some (.int (nI q)), some (.int (nI m)), some (.int (nI p)), d]) (st' := []) (w1 := (KC, I, J, GC)) rfl ?_
    refine mjT_ifF (nI_ge (by omega) (by omega)) ?_
    refine mjT_go 4 (pc' := 25) (L' := [some (.ref 0), some (.int (nI B)), some (.int (nI q)), some (.int (nI m)), some (.int (nI p)), d]) (st' := [.int (nI 1), .int ((nI B) >>> ((nI p) &&& 31))]) (w1 := (KC, I, J, GC)) rfl ?_
    refine mjT_go 1 (pc' := 26) (L' := [some (.ref 0), some (.int (nI B)), some (.int (nI q)), some (.int (nI m)), some (.int (nI p)), d]) (st' := [.int (((nI B) >>> ((nI p) &&& 31)) &&& (nI 1))]) (w1 := (KC, I, J, GC)) rfl ?_
    rw [bit_at (by omega) (by omega)]
    refine mjT_go 2 (pc' := if ¬ nI (bitN B p) = nI 1 then 33 else 30) (L' := [some (.ref 0), some (.int (nI B)), some (.int (nI q)), some (.int (nI m)), some (.int (nI p)), d]) (st' := []) (w1 := (KC, I, J, GC)) rfl ?_
    refine mjT_if_ne (u := bitN B p) (v := 1) rfl rfl (by omega) (by omega) (fun h1 => ?_) (fun h1 => ?_)
    rotate_left
    · refine mjT_go 3 (pc' := 8) (L' := [some (.ref 0), some (.int (nI B)), some (.int (nI q)), some (.int (nI m)), some (.int ((nI p) + (nI 1))), d]) (st' := []) (w1 := (KC, I, J, GC)) rfl ?_
      rw [nI_add]
      refine hc _ _ ⟨q, m, _, rfl, rfl, hm7, ?_⟩
      rcases hinv with ⟨h2, h3⟩ | ⟨h2, h3, h4, h5⟩
      · refine Or.inl ⟨h2, fun x hx => ?_⟩
        by_cases e : x = p
        · rw [e]; exact h1
        · exact h3 x (by omega)
      · refine Or.inr ⟨h2, by omega, h4, fun x hx hxb => ?_⟩
        by_cases e : x = p
        · rw [e] at hxb; exact absurd h1 hxb
        · exact h5 x (by omega) hxb
    refine mjT_go 3 (pc' := 37) (L' := [some (.ref 0), some (.int (nI B)), some (.int (nI q)), some (.int (nI m)), some (.int (nI p)), d]) (st' := [.int (nI p), .int (nI B), .ref 0]) (w1 := (KC, I, J, GC)) rfl ?_
    refine mjT_callE (as := [.ref 0, .int (nI B), .int (nI p)]) (rest := []) (r1 := some (.int (nI (dsN S.o B p S.o.n)))) rfl rfl rfl rfl rfl ⟨rfl, rfl⟩ (c_changesTo hV hC hB hp) ?_
    refine mjT_go 4 (pc' := if nI m ≤ nI (dsN S.o B p S.o.n) then 54 else 48) (L' := [some (.ref 0), some (.int (nI B)), some (.int (nI q)), some (.int (nI m)), some (.int (nI p)), some (.int (nI (dsN S.o B p S.o.n)))]) (st' := []) (w1 := (KC, I, J, GC)) rfl ?_
    refine mjT_if_le (u := m) (v := dsN S.o B p S.o.n) rfl rfl (by omega) (by omega) (fun h6 => ?_) (fun h6 => ?_)
    · refine mjT_go 2 (pc' := 8) (L' := [some (.ref 0), some (.int (nI B)), some (.int (nI q)), some (.int (nI m)), some (.int ((nI p) + (nI 1))), some (.int (nI (dsN S.o B p S.o.n)))]) (st' := []) (w1 := (KC, I, J, GC)) rfl ?_
      rw [nI_add]
      refine hc _ _ ⟨q, m, _, rfl, rfl, hm7, ?_⟩
      rcases hinv with ⟨h2, h3⟩ | ⟨h2, h3, h4, h5⟩
      · omega
      · refine Or.inr ⟨h2, by omega, h4, fun x hx hxb => ?_⟩
        by_cases e : x = p
        · rw [e]; exact h6
        · exact h5 x (by omega) hxb
    · refine mjT_go 6 (pc' := 8) (L' := [some (.ref 0), some (.int (nI B)), some (.int (nI p)), some (.int (nI (dsN S.o B p S.o.n))), some (.int ((nI p) + (nI 1))), some (.int (nI (dsN S.o B p S.o.n)))]) (st' := []) (w1 := (KC, I, J, GC)) rfl ?_
      rw [nI_add]
      refine hc _ _ ⟨p, dsN S.o B p S.o.n, _, rfl, rfl, by omega, Or.inr ⟨rfl, by omega, h1, fun x hx hxb => ?_⟩⟩
      by_cases e : x = p
      · rw [e]; exact Nat.le_refl _
      · rcases hinv with ⟨h2, h3⟩ | ⟨h2, h3, h4, h5⟩
        · exact absurd (h3 x (by omega)) hxb
        · have := h5 x (by omega) hxb
          omega
  · rintro _ _ ⟨q, m, d, rfl, rfl, hm7, hinv⟩
    refine mjT_go 3 (pc' := 14) (L' := [some (.ref 0), some (.int (nI B)), some (.int (nI q)), some (.int (nI m)), some (.int (nI S.o.n)), d]) (st' := [.ref 1, .int (nI S.o.n)]) (w1 := (KC, I, J, GC)) rfl ?_
    refine mjT_gfi (v := nI S.o.n) rfl (Or.inl rfl) (pc' := 17) rfl rfl (mo_at (hC.o.n) (by omega) (by omega)) ?_
    refine mjT_go 1 (pc' := if nI S.o.n ≤ nI S.o.n then 60 else 20) (L' := [some (.ref 0), some (.int (nI B)), some (.int (nI q)), some (.int (nI m)), some (.int (nI S.o.n)), d]) (st' := []) (w1 := (KC, I, J, GC)) rfl ?_
    refine mjT_ifT (Int32.le_refl _) ?_
    refine mjT_go 1 (pc' := 61) (L' := [some (.ref 0), some (.int (nI B)), some (.int (nI q)), some (.int (nI m)), some (.int (nI S.o.n)), d]) (st' := [.int (nI q)]) (w1 := (KC, I, J, GC)) rfl ?_
    refine mjT_ret rfl rfl rfl ?_
    rcases hinv with ⟨h2, h3⟩ | ⟨h2, h3, h4, h5⟩
    · obtain ⟨x, hx, hxb⟩ := hex
      exact absurd (h3 x hx) hxb
    · exact ⟨rfl, q, rfl, h3, h4, fun x hx hxb => by rw [← h2]; exact h5 x hx hxb⟩
/-- one more is joined -/
theorem join_one {O : Off} (hn : O.n ≤ 7) {B q w s k : Nat} (hB : B < 128) (hw6 : w ≤ 6) (hq : q < O.n) (hqA : ¬ bitN B q = 1) (hmin : ∀ p, p < O.n → bitN B p = 1 → ∀ r, r < O.n → ¬ bitN B r = 1 → w ≤ wTr O p r) (hat : ∃ p, p < O.n ∧ bitN B p = 1 ∧ wTr O p q = w) (hsum : s + PhN O.n (wTr O) (bA B) = treN O) (hcn : cnP (bA B) O.n = k) : (s + w) + PhN O.n (wTr O) (bA (B ||| 2 ^ q)) = treN O ∧ cnP (bA (B ||| 2 ^ q)) O.n = k + 1 ∧ B ||| 2 ^ q < 128 := by
  have hA : ∀ p, p < O.n → (bA (B ||| 2 ^ q) p ↔ bA B p ∨ p = q) := fun p hp => bA_or B hB q (by omega) p (by omega)
  have h1 := ph_step (A := bA B) (A' := bA (B ||| 2 ^ q)) (wT_sym O) hw6 hq hqA hA hmin hat
  refine ⟨by omega, ?_, Nat.or_lt_two_pow (n := 7) hB (pow7 q (by omega))⟩
  rw [cn_add (P := bA B) (P' := bA (B ||| 2 ^ q)) (q := q) ((hA q hq).mpr (Or.inr rfl)) hqA hq (fun x hx hne => (hA x hx).trans ⟨fun z => z.resolve_right hne, Or.inl⟩), hcn]
theorem cc_tree (hV : VS S) (hC : CW I J S) : mj_E 98 [.ref 0] (KC, I, J, GC) (fun w' r => r = some (.int (nI (treN S.o))) ∧ ∃ I' J', w' = (KC, I', J', GC) ∧ CW I' J' S) := by
  have hn := hV.o.n
  refine mjT_go 6 (pc' := 6) (L' := [some (.ref 0), some (.int (nI 0)), some (.int (nI 1)), some (.int (nI 1)), none]) (st' := []) (w1 := (KC, I, J, GC)) rfl ?_
  by_cases hz : S.o.n = 0
  · have e : treN S.o = 0 := ph_full (fun p hp => absurd hp (by omega))
    rw [e]
    refine mjT_go 3 (pc' := 11) (L' := [some (.ref 0), some (.int (nI 0)), some (.int (nI 1)), some (.int (nI 1)), none]) (st' := [.ref 1, .int (nI 1)]) (w1 := (KC, I, J, GC)) rfl ?_
    refine mjT_gfi (v := nI S.o.n) rfl (Or.inl rfl) (pc' := 14) rfl rfl (mo_at (hC.o.n) (by omega) (by omega)) ?_
    refine mjT_go 1 (pc' := if nI S.o.n ≤ nI 1 then 47 else 17) (L' := [some (.ref 0), some (.int (nI 0)), some (.int (nI 1)), some (.int (nI 1)), none]) (st' := []) (w1 := (KC, I, J, GC)) rfl ?_
    refine mjT_ifT (nI_le (by omega) (by omega)) ?_
    refine mjT_go 1 (pc' := 48) (L' := [some (.ref 0), some (.int (nI 0)), some (.int (nI 1)), some (.int (nI 1)), none]) (st' := [.int (nI 0)]) (w1 := (KC, I, J, GC)) rfl ?_
    refine mjT_ret rfl rfl rfl ?_
    exact ⟨rfl, _, _, rfl, hC⟩
  refine mj_loop (fun k L w => ∃ (s B : Nat) (d : Option Value), L = [some (.ref 0), some (.int (nI s)), some (.int (nI B)), some (.int (nI (k + 1))), d] ∧ w = (KC, I, J, GC) ∧ s + PhN S.o.n (wTr S.o) (bA B) = treN S.o ∧ cnP (bA B) S.o.n = k + 1 ∧ B < 128 ∧ s ≤ 6 * k ∧ bitN B 0 = 1) (S.o.n - 1) (k0 := 0) (Nat.zero_le _) ?_ ?_ ?_
  · exact ⟨0, 1, _, rfl, rfl, by rw [Nat.zero_add]; rfl, cn_one hn (by omega), by omega, by omega, by decide⟩
  · rintro k _ _ hk ⟨s, B, d, rfl, rfl, hsum, hcn, hB, hs, hb0⟩ hc
    obtain ⟨x, hx, hxB⟩ := cn_not (P := bA B) (n := S.o.n) (by omega)
    refine mjT_go 3 (pc' := 11) (L' := [some (.ref 0), some (.int (nI s)), some (.int (nI B)), some (.int (nI (k + 1))), d]) (st' := [.ref 1, .int (nI (k + 1))]) (w1 := (KC, I, J, GC)) rfl ?_
    refine mjT_gfi (v := nI S.o.n) rfl (Or.inl rfl) (pc' := 14) rfl rfl (mo_at (hC.o.n) (by omega) (by omega)) ?_
    refine mjT_go 1 (pc' := if nI S.o.n ≤ nI (k + 1) then 47 else 17) (L' := [some (.ref 0), some (.int (nI s)), some (.int (nI B)), some (.int (nI (k + 1))), d]) (st' := []) (w1 := (KC, I, J, GC)) rfl ?_
    refine mjT_ifF (nI_ge (by omega) (by omega)) ?_
    refine mjT_go 2 (pc' := 19) (L' := [some (.ref 0), some (.int (nI s)), some (.int (nI B)), some (.int (nI (k + 1))), d]) (st' := [.int (nI B), .ref 0]) (w1 := (KC, I, J, GC)) rfl ?_
    refine mjT_call (as := [.ref 0, .int (nI B)]) (rest := []) rfl rfl rfl rfl rfl ⟨rfl, rfl⟩ (c_nextJoined hV hC hB ⟨x, hx, hxB⟩) ?_
    rintro _ _ ⟨rfl, q, rfl, hq, hqB, hmin⟩
    have hd6 := ds_le6 S.o B q S.o.n
    have hsh := shb 1 (by omega) q (by omega)
    rw [Nat.one_mul] at hsh
    obtain ⟨j1, j2, j3⟩ := join_one hn hB hd6 hq hqB (fun p hp hpB r hr hrB => Nat.le_trans (hmin r hr hrB) (ds_le hpB hp)) (ds_hit (show 0 < S.o.n by omega) hb0) hsum hcn
    have hb1 : bitN (B ||| 2 ^ q) 0 = 1 := (bA_or B hB q (by omega) 0 (by omega)).mpr (Or.inl hb0)
    refine mjT_go 5 (pc' := 29) (L' := [some (.ref 0), some (.int (nI s)), some (.int (nI B)), some (.int (nI (k + 1))), some (.int (nI q))]) (st' := [.int (nI q), .int (nI B), .ref 0, .int (nI s)]) (w1 := (KC, I, J, GC)) rfl ?_
    refine mjT_callE (as := [.ref 0, .int (nI B), .int (nI q)]) (rest := [.int (nI s)]) (r1 := some (.int (nI (dsN S.o B q S.o.n)))) rfl rfl rfl rfl rfl ⟨rfl, rfl⟩ (c_changesTo hV hC hB hq) ?_
    refine mjT_go 6 (pc' := 39) (L' := [some (.ref 0), some (.int ((nI s) + (nI (dsN S.o B q S.o.n)))), some (.int (nI B)), some (.int (nI (k + 1))), some (.int (nI q))]) (st' := [.int ((nI 1) <<< ((nI q) &&& 31)), .int (nI B)]) (w1 := (KC, I, J, GC)) rfl ?_
    refine mjT_go 1 (pc' := 40) (L' := [some (.ref 0), some (.int ((nI s) + (nI (dsN S.o B q S.o.n)))), some (.int (nI B)), some (.int (nI (k + 1))), some (.int (nI q))]) (st' := [.int ((nI B) ||| ((nI 1) <<< ((nI q) &&& 31)))]) (w1 := (KC, I, J, GC)) rfl ?_
    rw [hsh, nI_or]
    refine mjT_go 3 (pc' := 6) (L' := [some (.ref 0), some (.int ((nI s) + (nI (dsN S.o B q S.o.n)))), some (.int (nI (B ||| 2 ^ q))), some (.int ((nI (k + 1)) + (nI 1))), some (.int (nI q))]) (st' := []) (w1 := (KC, I, J, GC)) rfl ?_
    rw [nI_add, nI_add]
    exact hc _ _ ⟨_, _, _, rfl, rfl, j1, j2, j3, by omega, hb1⟩
  · rintro _ _ ⟨s, B, d, rfl, rfl, hsum, hcn, hB, hs, hb0⟩
    have e : PhN S.o.n (wTr S.o) (bA B) = 0 := ph_full (cn_full (by omega))
    refine mjT_go 3 (pc' := 11) (L' := [some (.ref 0), some (.int (nI s)), some (.int (nI B)), some (.int (nI (S.o.n - 1 + 1))), d]) (st' := [.ref 1, .int (nI (S.o.n - 1 + 1))]) (w1 := (KC, I, J, GC)) rfl ?_
    refine mjT_gfi (v := nI S.o.n) rfl (Or.inl rfl) (pc' := 14) rfl rfl (mo_at (hC.o.n) (by omega) (by omega)) ?_
    refine mjT_go 1 (pc' := if nI S.o.n ≤ nI (S.o.n - 1 + 1) then 47 else 17) (L' := [some (.ref 0), some (.int (nI s)), some (.int (nI B)), some (.int (nI (S.o.n - 1 + 1))), d]) (st' := []) (w1 := (KC, I, J, GC)) rfl ?_
    refine mjT_ifT (nI_le (by omega) (by omega)) ?_
    refine mjT_go 1 (pc' := 48) (L' := [some (.ref 0), some (.int (nI s)), some (.int (nI B)), some (.int (nI (S.o.n - 1 + 1))), d]) (st' := [.int (nI s)]) (w1 := (KC, I, J, GC)) rfl ?_
    refine mjT_ret rfl rfl rfl ?_
    exact ⟨by rw [show s = treN S.o by omega], _, _, rfl, hC⟩
theorem m_changes (hV : VO O) (hO : MO I 0 O) {p q : Nat} (hp : p < O.n) (hq : q < O.n) : mj_Ev 196 [.ref 0, .int (nI p), .int (nI q)] (KM, I, J, GM) (KM, I, J, GM) (some (.int (nI (wTr O p q)))) := by
  refine mj_ev_of ?_
  have hn := hV.n
  have hwc : wTr O p q = chgN (O.own p) (O.own q) 6 := by
    have := chg_alk (O.own p) (O.own q) 6
    unfold wTr; omega
  rw [hwc]
  refine mjT_go 4 (pc' := 5) (L' := [some (.ref 0), some (.int (nI p)), some (.int (nI q)), some (.int (nI 0)), some (.int (nI 0))]) (st' := []) (w1 := (KM, I, J, GM)) rfl ?_
  refine mj_loop (fun k L w => L = [some (.ref 0), some (.int (nI p)), some (.int (nI q)), some (.int (nI (chgN (O.own p) (O.own q) k))), some (.int (nI k))] ∧ w = (KM, I, J, GM)) 6 (k0 := 0) (Nat.zero_le _) ?_ ?_ ?_
  · exact ⟨rfl, rfl⟩
  · rintro k _ _ hk ⟨rfl, rfl⟩ hc
    have h1 := hV.own p hp k hk
    have h2 := hV.own q hq k hk
    refine mjT_go 3 (pc' := if nI 6 ≤ nI k then 60 else 12) (L' := [some (.ref 0), some (.int (nI p)), some (.int (nI q)), some (.int (nI (chgN (O.own p) (O.own q) k))), some (.int (nI k))]) (st' := []) (w1 := (KM, I, J, GM)) rfl ?_
    refine mjT_ifF (nI_ge (by omega) (by omega)) ?_
    refine mjT_go 10 (pc' := 26) (L' := [some (.ref 0), some (.int (nI p)), some (.int (nI q)), some (.int (nI (chgN (O.own p) (O.own q) k))), some (.int (nI k))]) (st' := [.int ((((nI 21) * (nI p)) + (nI 3)) + (nI k)), .ref 1, .int (nI (chgN (O.own p) (O.own q) k))]) (w1 := (KM, I, J, GM)) rfl ?_
    refine mjT_ial (v := nI (O.own p k)) (((21 * p) + 3) + k) 1840 rfl (pc' := 27) rfl rfl (by simp only [nI_add, pk_mul]) (by omega) (by omega) (mo_at (show I 1 (21 * p + 3 + k) = nI (O.own p k) from (mo_at (hO.own p hp k hk) rfl (by omega))) (by omega) (by omega)) ?_
    refine mjT_go 9 (pc' := 40) (L' := [some (.ref 0), some (.int (nI p)), some (.int (nI q)), some (.int (nI (chgN (O.own p) (O.own q) k))), some (.int (nI k))]) (st' := [.int ((((nI 21) * (nI q)) + (nI 3)) + (nI k)), .ref 1, .int (nI (O.own p k)), .int (nI (chgN (O.own p) (O.own q) k))]) (w1 := (KM, I, J, GM)) rfl ?_
    refine mjT_ial (v := nI (O.own q k)) (((21 * q) + 3) + k) 1840 rfl (pc' := 41) rfl rfl (by simp only [nI_add, pk_mul]) (by omega) (by omega) (mo_at (show I 1 (21 * q + 3 + k) = nI (O.own q k) from (mo_at (hO.own q hq k hk) rfl (by omega))) (by omega) (by omega)) ?_
    refine mjT_go 1 (pc' := if nI (O.own p k) = nI (O.own q k) then 48 else 44) (L' := [some (.ref 0), some (.int (nI p)), some (.int (nI q)), some (.int (nI (chgN (O.own p) (O.own q) k))), some (.int (nI k))]) (st' := [.int (nI (chgN (O.own p) (O.own q) k))]) (w1 := (KM, I, J, GM)) rfl ?_
    refine mjT_if_eq (u := O.own p k) (v := O.own q k) rfl rfl (by omega) (by omega) (fun h3 => ?_) (fun h3 => ?_)
    · refine mjT_go 1 (pc' := 49) (L' := [some (.ref 0), some (.int (nI p)), some (.int (nI q)), some (.int (nI (chgN (O.own p) (O.own q) k))), some (.int (nI k))]) (st' := [.int (nI 0), .int (nI (chgN (O.own p) (O.own q) k))]) (w1 := (KM, I, J, GM)) rfl ?_
      refine mjT_callE (as := [.int (nI 0)]) (rest := [.int (nI (chgN (O.own p) (O.own q) k))]) (r1 := some (.int (nI 0))) rfl rfl rfl rfl rfl ⟨rfl, rfl⟩ (m_one (by omega) _) ?_
      refine mjT_go 4 (pc' := 5) (L' := [some (.ref 0), some (.int (nI p)), some (.int (nI q)), some (.int ((nI (chgN (O.own p) (O.own q) k)) + (nI 0))), some (.int ((nI k) + (nI 1)))]) (st' := []) (w1 := (KM, I, J, GM)) rfl ?_
      rw [nI_add, nI_add, show chgN (O.own p) (O.own q) k + 0 = chgN (O.own p) (O.own q) (k + 1) by show _ = _ + (1 - eqB _ _); unfold eqB; rw [if_pos h3]]
      exact hc _ _ ⟨rfl, rfl⟩
    · refine mjT_go 2 (pc' := 49) (L' := [some (.ref 0), some (.int (nI p)), some (.int (nI q)), some (.int (nI (chgN (O.own p) (O.own q) k))), some (.int (nI k))]) (st' := [.int (nI 1), .int (nI (chgN (O.own p) (O.own q) k))]) (w1 := (KM, I, J, GM)) rfl ?_
      refine mjT_callE (as := [.int (nI 1)]) (rest := [.int (nI (chgN (O.own p) (O.own q) k))]) (r1 := some (.int (nI 1))) rfl rfl rfl rfl rfl ⟨rfl, rfl⟩ (m_one (by omega) _) ?_
      refine mjT_go 4 (pc' := 5) (L' := [some (.ref 0), some (.int (nI p)), some (.int (nI q)), some (.int ((nI (chgN (O.own p) (O.own q) k)) + (nI 1))), some (.int ((nI k) + (nI 1)))]) (st' := []) (w1 := (KM, I, J, GM)) rfl ?_
      rw [nI_add, nI_add, show chgN (O.own p) (O.own q) k + 1 = chgN (O.own p) (O.own q) (k + 1) by show _ = _ + (1 - eqB _ _); unfold eqB; rw [if_neg h3]]
      exact hc _ _ ⟨rfl, rfl⟩
  · rintro _ _ ⟨rfl, rfl⟩
    refine mjT_go 3 (pc' := if nI 6 ≤ nI 6 then 60 else 12) (L' := [some (.ref 0), some (.int (nI p)), some (.int (nI q)), some (.int (nI (chgN (O.own p) (O.own q) 6))), some (.int (nI 6))]) (st' := []) (w1 := (KM, I, J, GM)) rfl ?_
    refine mjT_ifT (Int32.le_refl _) ?_
    refine mjT_go 1 (pc' := 61) (L' := [some (.ref 0), some (.int (nI p)), some (.int (nI q)), some (.int (nI (chgN (O.own p) (O.own q) 6))), some (.int (nI 6))]) (st' := [.int (nI (chgN (O.own p) (O.own q) 6))]) (w1 := (KM, I, J, GM)) rfl ?_
    refine mjT_ret rfl rfl rfl ?_
    exact ⟨rfl, rfl⟩
/-- what is known of the best pair so far -/
def bpN (O : Off) (B b m : Nat) : Prop := m = 99 ∨ (m ≤ 6 ∧ ∃ q p, b = q + 1 ∧ q < O.n ∧ p < O.n ∧ bitN B p = 1 ∧ ¬ bitN B q = 1 ∧ wTr O p q = m)
theorem mm_tree (hV : VS S) (hM : MW I J S) : mj_E 197 [.ref 0] (KM, I, J, GM) (fun w' r => r = some (.int (nI (treN S.o))) ∧ ∃ I' J', w' = (KM, I', J', GM) ∧ MW I' J' S) := by
  have hn := hV.o.n
  have hoL := hM.o
  refine mjT_go 6 (pc' := 6) (L' := [some (.ref 0), some (.int (nI 1)), some (.int (nI 0)), some (.int (nI 1)), none, none, none, none]) (st' := []) (w1 := (KM, I, J, GM)) rfl ?_
  by_cases hz : S.o.n = 0
  · have e : treN S.o = 0 := ph_full (fun p hp => absurd hp (by omega))
    rw [e]
    refine mjT_go 4 (pc' := 14) (L' := [some (.ref 0), some (.int (nI 1)), some (.int (nI 0)), some (.int (nI 1)), none, none, none, none]) (st' := [.int (nI 147), .ref 1, .int (nI 1)]) (w1 := (KM, I, J, GM)) rfl ?_
    refine mjT_ial (v := nI S.o.n) 147 1840 rfl (pc' := 15) rfl rfl rfl (by omega) (by omega) (mo_at hM.o.n rfl (by omega)) ?_
    refine mjT_go 1 (pc' := if nI S.o.n ≤ nI 1 then 133 else 18) (L' := [some (.ref 0), some (.int (nI 1)), some (.int (nI 0)), some (.int (nI 1)), none, none, none, none]) (st' := []) (w1 := (KM, I, J, GM)) rfl ?_
    refine mjT_ifT (nI_le (by omega) (by omega)) ?_
    refine mjT_go 1 (pc' := 134) (L' := [some (.ref 0), some (.int (nI 1)), some (.int (nI 0)), some (.int (nI 1)), none, none, none, none]) (st' := [.int (nI 0)]) (w1 := (KM, I, J, GM)) rfl ?_
    refine mjT_ret rfl rfl rfl ?_
    exact ⟨rfl, _, _, rfl, hM⟩
  refine mjT_gen fun Q hQ => ?_
  refine mj_loop (fun k L w => ∃ (s B : Nat) (d e f g : Option Value), L = [some (.ref 0), some (.int (nI B)), some (.int (nI s)), some (.int (nI (k + 1))), d, e, f, g] ∧ w = (KM, I, J, GM) ∧ s + PhN S.o.n (wTr S.o) (bA B) = treN S.o ∧ cnP (bA B) S.o.n = k + 1 ∧ B < 128 ∧ s ≤ 6 * k ∧ bitN B 0 = 1) (S.o.n - 1) (k0 := 0) (Nat.zero_le _) ?_ ?_ ?_
  · exact ⟨0, 1, _, _, _, _, rfl, rfl, by rw [Nat.zero_add]; rfl, cn_one hn (by omega), by omega, by omega, by decide⟩
  · rintro kk _ _ hk ⟨s, B, d, e, f, g, rfl, rfl, hsum, hcn, hB, hs, hb0⟩ hc
    obtain ⟨x, hx, hxB⟩ := cn_not (P := bA B) (n := S.o.n) (by omega)
    have hc1 : ∀ (q w : Nat) (f g : Option Value), w ≤ 6 → q < S.o.n → ¬ bitN B q = 1 → (∀ p, p < S.o.n → bitN B p = 1 → ∀ r, r < S.o.n → ¬ bitN B r = 1 → w ≤ wTr S.o p r) → (∃ p, p < S.o.n ∧ bitN B p = 1 ∧ wTr S.o p q = w) → mj_To 197 115 [some (.ref 0), some (.int (nI B)), some (.int (nI s)), some (.int (nI (kk + 1))), some (.int (nI q)), some (.int (nI w)), f, g] [] (KM, I, J, GM) Q := fun q w f g hw6 hq hqB hmin hat => by
      obtain ⟨j1, j2, j3⟩ := join_one hn hB hw6 hq hqB hmin hat hsum hcn
      have hb1 : bitN (B ||| 2 ^ q) 0 = 1 := (bA_or B hB q (by omega) 0 (by omega)).mpr (Or.inl hb0)
      have hsh := shb 1 (by omega) q (by omega)
      rw [Nat.one_mul] at hsh
      refine mjT_go 4 (pc' := 120) (L' := [some (.ref 0), some (.int (nI B)), some (.int (nI s)), some (.int (nI (kk + 1))), some (.int (nI q)), some (.int (nI w)), f, g]) (st' := [.int ((nI 1) <<< ((nI q) &&& 31)), .int (nI B)]) (w1 := (KM, I, J, GM)) rfl ?_
      refine mjT_go 1 (pc' := 121) (L' := [some (.ref 0), some (.int (nI B)), some (.int (nI s)), some (.int (nI (kk + 1))), some (.int (nI q)), some (.int (nI w)), f, g]) (st' := [.int ((nI B) ||| ((nI 1) <<< ((nI q) &&& 31)))]) (w1 := (KM, I, J, GM)) rfl ?_
      rw [hsh, nI_or]
      refine mjT_go 7 (pc' := 6) (L' := [some (.ref 0), some (.int (nI (B ||| 2 ^ q))), some (.int ((nI s) + (nI w))), some (.int ((nI (kk + 1)) + (nI 1))), some (.int (nI q)), some (.int (nI w)), f, g]) (st' := []) (w1 := (KM, I, J, GM)) rfl ?_
      rw [nI_add, nI_add]
      exact hc _ _ ⟨_, _, _, _, _, _, rfl, rfl, j1, j2, j3, by omega, hb1⟩
    refine mjT_go 4 (pc' := 14) (L' := [some (.ref 0), some (.int (nI B)), some (.int (nI s)), some (.int (nI (kk + 1))), d, e, f, g]) (st' := [.int (nI 147), .ref 1, .int (nI (kk + 1))]) (w1 := (KM, I, J, GM)) rfl ?_
    refine mjT_ial (v := nI S.o.n) 147 1840 rfl (pc' := 15) rfl rfl rfl (by omega) (by omega) (mo_at hM.o.n rfl (by omega)) ?_
    refine mjT_go 1 (pc' := if nI S.o.n ≤ nI (kk + 1) then 133 else 18) (L' := [some (.ref 0), some (.int (nI B)), some (.int (nI s)), some (.int (nI (kk + 1))), d, e, f, g]) (st' := []) (w1 := (KM, I, J, GM)) rfl ?_
    refine mjT_ifF (nI_ge (by omega) (by omega)) ?_
    refine mjT_go 6 (pc' := 29) (L' := [some (.ref 0), some (.int (nI B)), some (.int (nI s)), some (.int (nI (kk + 1))), some (.int (-4)), some (.int (nI 99)), some (.int (nI 0)), g]) (st' := []) (w1 := (KM, I, J, GM)) rfl ?_
    refine mj_loop (fun k L w => ∃ (b m : Nat) (g : Option Value), L = [some (.ref 0), some (.int (nI B)), some (.int (nI s)), some (.int (nI (kk + 1))), some (.int (tI b)), some (.int (nI m)), some (.int (nI k)), g] ∧ w = (KM, I, J, GM) ∧ bpN S.o B b m ∧ ∀ p, p < k → bitN B p = 1 → ∀ r, r < S.o.n → ¬ bitN B r = 1 → m ≤ wTr S.o p r) S.o.n (k0 := 0) (Nat.zero_le _) ?_ ?_ ?_
    · exact ⟨0, 99, _, rfl, rfl, Or.inl rfl, fun _ h => absurd h (by omega)⟩
    · rintro p _ _ hp ⟨b, m, g, rfl, rfl, hbp, hall⟩ hcp
      have hm99 : m ≤ 99 := by rcases hbp with h | h <;> omega
      refine mjT_go 4 (pc' := 38) (L' := [some (.ref 0), some (.int (nI B)), some (.int (nI s)), some (.int (nI (kk + 1))), some (.int (tI b)), some (.int (nI m)), some (.int (nI p)), g]) (st' := [.int (nI 147), .ref 1, .int (nI p)]) (w1 := (KM, I, J, GM)) rfl ?_
      refine mjT_ial (v := nI S.o.n) 147 1840 rfl (pc' := 39) rfl rfl rfl (by omega) (by omega) (mo_at hM.o.n rfl (by omega)) ?_
      refine mjT_go 1 (pc' := if nI S.o.n ≤ nI p then 115 else 42) (L' := [some (.ref 0), some (.int (nI B)), some (.int (nI s)), some (.int (nI (kk + 1))), some (.int (tI b)), some (.int (nI m)), some (.int (nI p)), g]) (st' := []) (w1 := (KM, I, J, GM)) rfl ?_
      refine mjT_ifF (nI_ge (by omega) (by omega)) ?_
      refine mjT_go 2 (pc' := 45) (L' := [some (.ref 0), some (.int (nI B)), some (.int (nI s)), some (.int (nI (kk + 1))), some (.int (tI b)), some (.int (nI m)), some (.int (nI p)), some (.int (nI 0))]) (st' := []) (w1 := (KM, I, J, GM)) rfl ?_
      refine mj_loop (fun k L w => ∃ (b m : Nat), L = [some (.ref 0), some (.int (nI B)), some (.int (nI s)), some (.int (nI (kk + 1))), some (.int (tI b)), some (.int (nI m)), some (.int (nI p)), some (.int (nI k))] ∧ w = (KM, I, J, GM) ∧ bpN S.o B b m ∧ (∀ u, u < p → bitN B u = 1 → ∀ r, r < S.o.n → ¬ bitN B r = 1 → m ≤ wTr S.o u r) ∧ (bitN B p = 1 → ∀ r, r < k → ¬ bitN B r = 1 → m ≤ wTr S.o p r)) S.o.n (k0 := 0) (Nat.zero_le _) ?_ ?_ ?_
      · exact ⟨b, m, rfl, rfl, hbp, hall, fun _ _ h => absurd h (by omega)⟩
      · rintro q _ _ hq ⟨b, m, rfl, rfl, hbp, hall, hq1⟩ hcq
        have hm99 : m ≤ 99 := by rcases hbp with h | h <;> omega
        have hbt := bitN_lt B p
        have hbt2 := bitN_lt B q
        have hw6 := wT_le S.o p q
        have keep : (bitN B p = 1 → ¬ bitN B q = 1 → m ≤ wTr S.o p q) → mj_To 197 103 [some (.ref 0), some (.int (nI B)), some (.int (nI s)), some (.int (nI (kk + 1))), some (.int (tI b)), some (.int (nI m)), some (.int (nI p)), some (.int (nI q))] [] (KM, I, J, GM) Q := fun h => by
          refine mjT_go 2 (pc' := 45) (L' := [some (.ref 0), some (.int (nI B)), some (.int (nI s)), some (.int (nI (kk + 1))), some (.int (tI b)), some (.int (nI m)), some (.int (nI p)), some (.int ((nI q) + (nI 1)))]) (st' := []) (w1 := (KM, I, J, GM)) rfl ?_
          rw [nI_add]
          refine hcq _ _ ⟨b, m, rfl, rfl, hbp, hall, fun h1 r hr hrB => ?_⟩
          by_cases e : r = q
          · rw [e] at hrB ⊢; exact h h1 hrB
          · exact hq1 h1 r (by omega) hrB
        refine mjT_go 4 (pc' := 54) (L' := [some (.ref 0), some (.int (nI B)), some (.int (nI s)), some (.int (nI (kk + 1))), some (.int (tI b)), some (.int (nI m)), some (.int (nI p)), some (.int (nI q))]) (st' := [.int (nI 147), .ref 1, .int (nI q)]) (w1 := (KM, I, J, GM)) rfl ?_
        refine mjT_ial (v := nI S.o.n) 147 1840 rfl (pc' := 55) rfl rfl rfl (by omega) (by omega) (mo_at hM.o.n rfl (by omega)) ?_
        refine mjT_go 1 (pc' := if nI S.o.n ≤ nI q then 109 else 58) (L' := [some (.ref 0), some (.int (nI B)), some (.int (nI s)), some (.int (nI (kk + 1))), some (.int (tI b)), some (.int (nI m)), some (.int (nI p)), some (.int (nI q))]) (st' := []) (w1 := (KM, I, J, GM)) rfl ?_
        refine mjT_ifF (nI_ge (by omega) (by omega)) ?_
        refine mjT_go 2 (pc' := 61) (L' := [some (.ref 0), some (.int (nI B)), some (.int (nI s)), some (.int (nI (kk + 1))), some (.int (tI b)), some (.int (nI m)), some (.int (nI p)), some (.int (nI q))]) (st' := [.int (nI p), .int (nI B)]) (w1 := (KM, I, J, GM)) rfl ?_
        refine mjT_callE (as := [.int (nI B), .int (nI p)]) (rest := []) (r1 := some (.int (nI (bitN B p)))) rfl rfl rfl rfl rfl ⟨rfl, rfl⟩ (m_has (by omega) (by omega)) ?_
        refine mjT_go 1 (pc' := if nI (bitN B p) = 0 then 103 else 67) (L' := [some (.ref 0), some (.int (nI B)), some (.int (nI s)), some (.int (nI (kk + 1))), some (.int (tI b)), some (.int (nI m)), some (.int (nI p)), some (.int (nI q))]) (st' := []) (w1 := (KM, I, J, GM)) rfl ?_
        refine mjT_if_eq (u := bitN B p) (v := 0) rfl nI_0.symm (by omega) (by omega) (fun h1 => ?_) (fun h1 => ?_)
        · exact keep (fun z => by omega)
        refine mjT_go 2 (pc' := 70) (L' := [some (.ref 0), some (.int (nI B)), some (.int (nI s)), some (.int (nI (kk + 1))), some (.int (tI b)), some (.int (nI m)), some (.int (nI p)), some (.int (nI q))]) (st' := [.int (nI q), .int (nI B)]) (w1 := (KM, I, J, GM)) rfl ?_
        refine mjT_callE (as := [.int (nI B), .int (nI q)]) (rest := []) (r1 := some (.int (nI (bitN B q)))) rfl rfl rfl rfl rfl ⟨rfl, rfl⟩ (m_has (by omega) (by omega)) ?_
        refine mjT_go 1 (pc' := if ¬ nI (bitN B q) = 0 then 103 else 76) (L' := [some (.ref 0), some (.int (nI B)), some (.int (nI s)), some (.int (nI (kk + 1))), some (.int (tI b)), some (.int (nI m)), some (.int (nI p)), some (.int (nI q))]) (st' := []) (w1 := (KM, I, J, GM)) rfl ?_
        refine mjT_if_ne (u := bitN B q) (v := 0) rfl nI_0.symm (by omega) (by omega) (fun h2 => ?_) (fun h2 => ?_)
        · exact keep (fun _ z => absurd (by omega) z)
        refine mjT_go 3 (pc' := 81) (L' := [some (.ref 0), some (.int (nI B)), some (.int (nI s)), some (.int (nI (kk + 1))), some (.int (tI b)), some (.int (nI m)), some (.int (nI p)), some (.int (nI q))]) (st' := [.int (nI q), .int (nI p), .ref 0]) (w1 := (KM, I, J, GM)) rfl ?_
        refine mjT_callE (as := [.ref 0, .int (nI p), .int (nI q)]) (rest := []) (r1 := some (.int (nI (wTr S.o p q)))) rfl rfl rfl rfl rfl ⟨rfl, rfl⟩ (m_changes hV.o hoL hp hq) ?_
        refine mjT_go 2 (pc' := if nI m ≤ nI (wTr S.o p q) then 103 else 89) (L' := [some (.ref 0), some (.int (nI B)), some (.int (nI s)), some (.int (nI (kk + 1))), some (.int (tI b)), some (.int (nI m)), some (.int (nI p)), some (.int (nI q))]) (st' := []) (w1 := (KM, I, J, GM)) rfl ?_
        refine mjT_if_le (u := m) (v := wTr S.o p q) rfl rfl (by omega) (by omega) (fun h3 => ?_) (fun h3 => ?_)
        · exact keep (fun _ _ => h3)
        refine mjT_go 5 (pc' := 98) (L' := [some (.ref 0), some (.int (nI B)), some (.int (nI s)), some (.int (nI (kk + 1))), some (.int (nI q)), some (.int (nI m)), some (.int (nI p)), some (.int (nI q))]) (st' := [.int (nI q), .int (nI p), .ref 0]) (w1 := (KM, I, J, GM)) rfl ?_
        refine mjT_callE (as := [.ref 0, .int (nI p), .int (nI q)]) (rest := []) (r1 := some (.int (nI (wTr S.o p q)))) rfl rfl rfl rfl rfl ⟨rfl, rfl⟩ (m_changes hV.o hoL hp hq) ?_
        refine mjT_go 3 (pc' := 45) (L' := [some (.ref 0), some (.int (nI B)), some (.int (nI s)), some (.int (nI (kk + 1))), some (.int (nI q)), some (.int (nI (wTr S.o p q))), some (.int (nI p)), some (.int ((nI q) + (nI 1)))]) (st' := []) (w1 := (KM, I, J, GM)) rfl ?_
        rw [nI_add, ← tI_s q]
        refine hcq _ _ ⟨q + 1, wTr S.o p q, rfl, rfl, Or.inr ⟨hw6, q, p, rfl, hq, hp, by omega, by omega, rfl⟩, fun p' hp' hb' r hr hrB => ?_, fun h1' r hr hrB => ?_⟩
        · have := hall p' hp' hb' r hr hrB
          omega
        · by_cases e : r = q
          · rw [e]; exact Nat.le_refl _
          · have := hq1 h1' r (by omega) hrB
            omega
      · rintro _ _ ⟨b, m, rfl, rfl, hbp, hall, hq1⟩
        refine mjT_go 4 (pc' := 54) (L' := [some (.ref 0), some (.int (nI B)), some (.int (nI s)), some (.int (nI (kk + 1))), some (.int (tI b)), some (.int (nI m)), some (.int (nI p)), some (.int (nI S.o.n))]) (st' := [.int (nI 147), .ref 1, .int (nI S.o.n)]) (w1 := (KM, I, J, GM)) rfl ?_
        refine mjT_ial (v := nI S.o.n) 147 1840 rfl (pc' := 55) rfl rfl rfl (by omega) (by omega) (mo_at hM.o.n rfl (by omega)) ?_
        refine mjT_go 1 (pc' := if nI S.o.n ≤ nI S.o.n then 109 else 58) (L' := [some (.ref 0), some (.int (nI B)), some (.int (nI s)), some (.int (nI (kk + 1))), some (.int (tI b)), some (.int (nI m)), some (.int (nI p)), some (.int (nI S.o.n))]) (st' := []) (w1 := (KM, I, J, GM)) rfl ?_
        refine mjT_ifT (Int32.le_refl _) ?_
        refine mjT_go 2 (pc' := 29) (L' := [some (.ref 0), some (.int (nI B)), some (.int (nI s)), some (.int (nI (kk + 1))), some (.int (tI b)), some (.int (nI m)), some (.int ((nI p) + (nI 1))), some (.int (nI S.o.n))]) (st' := []) (w1 := (KM, I, J, GM)) rfl ?_
        rw [nI_add]
        refine hcp _ _ ⟨b, m, _, rfl, rfl, hbp, fun p' hp' hb' r hr hrB => ?_⟩
        by_cases e : p' = p
        · rw [e] at hb' ⊢; exact hq1 hb' r hr hrB
        · exact hall p' (by omega) hb' r hr hrB
    · rintro _ _ ⟨b, m, g, rfl, rfl, hbp, hall⟩
      refine mjT_go 4 (pc' := 38) (L' := [some (.ref 0), some (.int (nI B)), some (.int (nI s)), some (.int (nI (kk + 1))), some (.int (tI b)), some (.int (nI m)), some (.int (nI S.o.n)), g]) (st' := [.int (nI 147), .ref 1, .int (nI S.o.n)]) (w1 := (KM, I, J, GM)) rfl ?_
      refine mjT_ial (v := nI S.o.n) 147 1840 rfl (pc' := 39) rfl rfl rfl (by omega) (by omega) (mo_at hM.o.n rfl (by omega)) ?_
      refine mjT_go 1 (pc' := if nI S.o.n ≤ nI S.o.n then 115 else 42) (L' := [some (.ref 0), some (.int (nI B)), some (.int (nI s)), some (.int (nI (kk + 1))), some (.int (tI b)), some (.int (nI m)), some (.int (nI S.o.n)), g]) (st' := []) (w1 := (KM, I, J, GM)) rfl ?_
      refine mjT_ifT (Int32.le_refl _) ?_
      have h00 := hall 0 (by omega) hb0 x hx hxB
      have hw0 := wT_le S.o 0 x
      rcases hbp with h | ⟨hm6, q, p, rfl, hq, hp, hpB, hqB, hwq⟩
      · omega
      · exact hc1 q m _ _ hm6 hq hqB hall ⟨p, hp, hpB, hwq⟩
  · rintro _ _ ⟨s, B, d, e, f, g, rfl, rfl, hsum, hcn, hB, hs, hb0⟩
    have eP : PhN S.o.n (wTr S.o) (bA B) = 0 := ph_full (cn_full (by omega))
    refine mjT_go 4 (pc' := 14) (L' := [some (.ref 0), some (.int (nI B)), some (.int (nI s)), some (.int (nI (S.o.n - 1 + 1))), d, e, f, g]) (st' := [.int (nI 147), .ref 1, .int (nI (S.o.n - 1 + 1))]) (w1 := (KM, I, J, GM)) rfl ?_
    refine mjT_ial (v := nI S.o.n) 147 1840 rfl (pc' := 15) rfl rfl rfl (by omega) (by omega) (mo_at hM.o.n rfl (by omega)) ?_
    refine mjT_go 1 (pc' := if nI S.o.n ≤ nI (S.o.n - 1 + 1) then 133 else 18) (L' := [some (.ref 0), some (.int (nI B)), some (.int (nI s)), some (.int (nI (S.o.n - 1 + 1))), d, e, f, g]) (st' := []) (w1 := (KM, I, J, GM)) rfl ?_
    refine mjT_ifT (nI_le (by omega) (by omega)) ?_
    refine mjT_go 1 (pc' := 134) (L' := [some (.ref 0), some (.int (nI B)), some (.int (nI s)), some (.int (nI (S.o.n - 1 + 1))), d, e, f, g]) (st' := [.int (nI s)]) (w1 := (KM, I, J, GM)) rfl ?_
    refine mjT_ret rfl rfl rfl ?_
    exact hQ _ _ ⟨by rw [show s = treN S.o by omega], _, _, rfl, hM⟩
theorem sim_tree : SimO 98 197 [] := fun S _ _ _ _ hV hC hM => ⟨S, _, hV, cc_tree hV hC, mm_tree hV hM⟩
end TC
