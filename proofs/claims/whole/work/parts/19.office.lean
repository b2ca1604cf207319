/-! from there the method comes back, and then Q -/
def mj_To (y pc : Nat) (L : mjL) (st : List Value) (w : mjW) (Q : mjW → Option Value → Prop) : Prop := ∃ w' r, mj_Go y pc L st w w' r ∧ Q w' r
def mj_E (z : Nat) (as : List Value) (w : mjW) (Q : mjW → Option Value → Prop) : Prop := mj_To z 0 (mj_entry z as) [] w Q
section TO
variable {y pc pc' : Nat} {L L' : mjL} {st st' : List Value} {w w1 : mjW} {Q : mjW → Option Value → Prop}
theorem mj_lift {y' : Nat} (h : ∀ w' r, mj_Go y' pc' L' st' w1 w' r → mj_Go y pc L st w w' r) (g : mj_To y' pc' L' st' w1 Q) : mj_To y pc L st w Q := by
  obtain ⟨w', r, g1, q⟩ := g
  exact ⟨w', r, h _ _ g1, q⟩
theorem mjT_if {cd : Prop} [Decidable cd] {t f : Nat} (h1 : cd → mj_To y t L st w Q) (h2 : ¬ cd → mj_To y f L st w Q) : mj_To y (if cd then t else f) L st w Q := by
  by_cases h : cd
  · rw [if_pos h]; exact h1 h
  · rw [if_neg h]; exact h2 h
theorem mjT_if_le {u v : Nat} {x z : Int32} {t f : Nat} (hx : x = nI u) (hz : z = nI v) (hu : u < 2 ^ 31) (hv : v < 2 ^ 31) (h1 : u ≤ v → mj_To y t L st w Q) (h2 : v < u → mj_To y f L st w Q) : mj_To y (if x ≤ z then t else f) L st w Q := by
  subst hx; subst hz
  exact mjT_if (fun h => h1 ((nI_leI hu hv).mp h)) (fun h => h2 (Nat.lt_of_not_le fun q => h ((nI_leI hu hv).mpr q)))
theorem mjT_if_lt {u v : Nat} {x z : Int32} {t f : Nat} (hx : x = nI u) (hz : z = nI v) (hu : u < 2 ^ 31) (hv : v < 2 ^ 31) (h1 : u < v → mj_To y t L st w Q) (h2 : v ≤ u → mj_To y f L st w Q) : mj_To y (if x < z then t else f) L st w Q := by
  subst hx; subst hz
  exact mjT_if (fun h => h1 ((nI_ltI hu hv).mp h)) (fun h => h2 (Nat.le_of_not_lt fun q => h ((nI_ltI hu hv).mpr q)))
theorem mjT_if_eq {u v : Nat} {x z : Int32} {t f : Nat} (hx : x = nI u) (hz : z = nI v) (hu : u < 2 ^ 31) (hv : v < 2 ^ 31) (h1 : u = v → mj_To y t L st w Q) (h2 : u ≠ v → mj_To y f L st w Q) : mj_To y (if x = z then t else f) L st w Q := by
  subst hx; subst hz
  exact mjT_if (fun h => h1 ((nI_eq hu hv).mp h)) (fun h => h2 (fun q => h ((nI_eq hu hv).mpr q)))
theorem mjT_if_ne {u v : Nat} {x z : Int32} {t f : Nat} (hx : x = nI u) (hz : z = nI v) (hu : u < 2 ^ 31) (hv : v < 2 ^ 31) (h1 : u ≠ v → mj_To y t L st w Q) (h2 : u = v → mj_To y f L st w Q) : mj_To y (if ¬ x = z then t else f) L st w Q := by
  subst hx; subst hz
  exact mjT_if (fun h => h1 (fun q => h ((nI_eq hu hv).mpr q))) (fun h => h2 (Decidable.byContradiction fun q => h (fun z => q ((nI_eq hu hv).mp z))))
theorem mjT_ret {w' : mjW} {r : Option Value} {e : mjE} (hc : mj_code y pc = some e) (ho : mj_op e = 1) (h : mj_rtn y e st w = some (w', r)) (q : Q w' r) : mj_To y pc L st w Q := ⟨w', r, mj_ret1 hc ho h, q⟩
theorem mjT_retb {v : Int32} {l a b d : Nat} {k : Int} (hc : mj_code y pc = some (.ireturn, l, a, b, d, k)) (ht : mj_ret y = some .boolean) (hv : v = 0 ∨ v = 1) (q : Q w (some (.int v))) : mj_To y pc L [.int v] w Q := by
  refine mjT_ret hc rfl ?_ q
  simp only [mj_rtn, ht]
  exact if_pos hv
theorem mjT_call {e : mjE} {z : Nat} {as rest : List Value} {Q1 : mjW → Option Value → Prop} (hc : mj_code y pc = some e) (ho : mj_op e = 2) (hz : e.2.2.2.1 = z) (ha : mj_call e st w = some (as, rest)) (hk : mj_cok y z L as rest w 0 0 = true) (hm : mj_mc z = 0 ∧ mj_ms z = 0) (ev : mj_E z as w Q1)
    (g : ∀ w1 r1, Q1 w1 r1 → mj_To y (pc + 3) L (r1.toList ++ rest) w1 Q) : mj_To y pc L st w Q := by
  obtain ⟨w1, r1, e1, q1⟩ := ev
  obtain ⟨w', r, g1, q⟩ := g w1 r1 q1
  exact ⟨w', r, mj_callE hc ho hz ha hk hm e1 g1, q⟩
theorem mjT_cut {P : Nat → Prop} {pc1 : Nat} {L1 : Nat → mjL} {st1 : Nat → List Value} {w1 : Nat → mjW} (h : ∀ b, P b → mj_To y pc1 (L1 b) (st1 b) (w1 b) Q) (g : (∀ b, P b → mj_To y pc1 (L1 b) (st1 b) (w1 b) Q) → mj_To y pc L st w Q) : mj_To y pc L st w Q := g h
theorem mjT_gen (h : ∀ Q', (∀ w r, Q w r → Q' w r) → mj_To y pc L st w Q') : mj_To y pc L st w Q := h Q (fun _ _ q => q)
theorem mj_ev_of {z : Nat} {as : List Value} {r : Option Value} (h : mj_E z as w (fun w' r' => w' = w ∧ r' = r)) : mj_Ev z as w w r := by
  obtain ⟨_, _, g, rfl, rfl⟩ := h
  exact g
theorem mj_E_mono {z : Nat} {as : List Value} {Q' : mjW → Option Value → Prop} (h : mj_E z as w Q') (q : ∀ w' r, Q' w' r → Q w' r) : mj_E z as w Q := by
  obtain ⟨w', r, g, q1⟩ := h
  exact ⟨w', r, g, q _ _ q1⟩
theorem mj_loop_n {H : Nat} (Inv : Nat → mjL → mjW → Prop) (N : Nat) (step : ∀ k L w, k < N → Inv k L w → (∀ L' w', Inv (k + 1) L' w' → mj_To y H L' [] w' Q) → mj_To y H L [] w Q) (exit : ∀ L w, Inv N L w → mj_To y H L [] w Q) : ∀ n k, k ≤ N → N - k = n → ∀ L w, Inv k L w → mj_To y H L [] w Q := by
  intro n
  induction n with
  | zero =>
    intro k hk hn L w h
    obtain rfl : k = N := by omega
    exact exit _ _ h
  | succ n ih =>
    intro k hk hn L w h
    exact step k L w (by omega) h (fun L' w' h' => ih (k + 1) (by omega) (by omega) L' w' h')
theorem mj_loop {H : Nat} (Inv : Nat → mjL → mjW → Prop) (N : Nat) {k0 : Nat} (hk : k0 ≤ N) (h0 : Inv k0 L w) (step : ∀ k L w, k < N → Inv k L w → (∀ L' w', Inv (k + 1) L' w' → mj_To y H L' [] w' Q) → mj_To y H L [] w Q) (exit : ∀ L w, Inv N L w → mj_To y H L [] w Q) : mj_To y H L [] w Q :=
  mj_loop_n Inv N step exit _ k0 hk rfl _ _ h0
end TO
section TO2
variable {y pc pc' h n i : Nat} {L L' : mjL} {st st' : List Value} {K : List (Nat × Nat)} {I I' : Nat → Nat → Int32} {J J' : Nat → Nat → Int64} {G : Nat → Nat → Option Nat} {ix a b d : Nat} {w w1 : mjW} {r1 : Option Value} {Q : mjW → Option Value → Prop}
theorem mjT_go (k : Nat) (h : mj_steps k y (pc, L, st, w, 0, 0) = some (pc', L', st', w1, 0, 0)) (g : mj_To y pc' L' st' w1 Q) : mj_To y pc L st w Q := mj_lift (fun _ _ g => mj_go k h g) g
theorem mjT_gfi {k : Int} {v : Int32} (hc : mj_code y pc = some (.getfield ix, 3, a, b, d, k)) (hk0 : k = 0 ∨ k = 1) (hp : pc + 3 = pc') (hk : mj_kd (K, I, J, G) h = (0, a)) (hv : I h b = v) (g : mj_To y pc' L (.int v :: st) (K, I, J, G) Q) : mj_To y pc L (.ref h :: st) (K, I, J, G) Q := mj_lift (fun _ _ g => mj_gfi hc hk0 hp hk hv g) g
theorem mjT_gfr {h' : Nat} (hc : mj_code y pc = some (.getfield ix, 3, a, b, d, 2)) (hp : pc + 3 = pc') (hk : mj_kd (K, I, J, G) h = (0, a)) (hg : G h b = some h') (g : mj_To y pc' L (.ref h' :: st) (K, I, J, G) Q) : mj_To y pc L (.ref h :: st) (K, I, J, G) Q := mj_lift (fun _ _ g => mj_gfr hc hp hk hg g) g
theorem mjT_pfi {v : Int32} (hc : mj_code y pc = some (.putfield ix, 3, a, b, d, 0)) (hp : pc + 3 = pc') (hk : mj_kd (K, I, J, G) h = (0, a)) (hI : mj_row I h (va_up (I h) b v) = I') (g : mj_To y pc' L st (K, I', J, G) Q) : mj_To y pc L (.int v :: .ref h :: st) (K, I, J, G) Q := mj_lift (fun _ _ g => mj_pfi hc hp hk hI g) g
theorem mjT_pfb {v : Int32} (hc : mj_code y pc = some (.putfield ix, 3, a, b, d, 1)) (hp : pc + 3 = pc') (hk : mj_kd (K, I, J, G) h = (0, a)) (hv : v = 0 ∨ v = 1) (hI : mj_row I h (va_up (I h) b v) = I') (g : mj_To y pc' L st (K, I', J, G) Q) : mj_To y pc L (.int v :: .ref h :: st) (K, I, J, G) Q := mj_lift (fun _ _ g => mj_pfb hc hp hk hv hI g) g
theorem mjT_ial {x v : Int32} (i n : Nat) (hc : mj_code y pc = some (.iaload, 1, a, b, d, 0)) (hp : pc + 1 = pc') (hk : mj_kd (K, I, J, G) h = (1, n)) (hx : x = nI i) (hi : i < n) (hn : n < 2 ^ 31) (hv : I h i = v) (g : mj_To y pc' L (.int v :: st) (K, I, J, G) Q) : mj_To y pc L (.int x :: .ref h :: st) (K, I, J, G) Q := mj_lift (fun _ _ g => mj_ial i n hc hp hk hx hi hn hv g) g
theorem mjT_ias {x v : Int32} (i n : Nat) (hc : mj_code y pc = some (.iastore, 1, a, b, d, 0)) (hp : pc + 1 = pc') (hk : mj_kd (K, I, J, G) h = (1, n)) (hx : x = nI i) (hi : i < n) (hn : n < 2 ^ 31) (hI : mj_row I h (va_up (I h) i v) = I') (g : mj_To y pc' L st (K, I', J, G) Q) : mj_To y pc L (.int v :: .int x :: .ref h :: st) (K, I, J, G) Q := mj_lift (fun _ _ g => mj_ias i n hc hp hk hx hi hn hI g) g
theorem mjT_lal {x : Int32} {v : Int64} (i n : Nat) (hc : mj_code y pc = some (.laload, 1, a, b, d, 0)) (hp : pc + 1 = pc') (hk : mj_kd (K, I, J, G) h = (2, n)) (hx : x = nI i) (hi : i < n) (hn : n < 2 ^ 31) (hv : J h i = v) (g : mj_To y pc' L (.long v :: st) (K, I, J, G) Q) : mj_To y pc L (.int x :: .ref h :: st) (K, I, J, G) Q := mj_lift (fun _ _ g => mj_lal i n hc hp hk hx hi hn hv g) g
theorem mjT_las {x : Int32} {v : Int64} (i n : Nat) (hc : mj_code y pc = some (.lastore, 1, a, b, d, 0)) (hp : pc + 1 = pc') (hk : mj_kd (K, I, J, G) h = (2, n)) (hx : x = nI i) (hi : i < n) (hn : n < 2 ^ 31) (hJ : mj_row J h (va_up (J h) i v) = J') (g : mj_To y pc' L st (K, I, J', G) Q) : mj_To y pc L (.long v :: .int x :: .ref h :: st) (K, I, J, G) Q := mj_lift (fun _ _ g => mj_las i n hc hp hk hx hi hn hJ g) g
theorem mjT_aal {x : Int32} {kd h' : Nat} (i n : Nat) (hc : mj_code y pc = some (.aaload, 1, a, b, d, 0)) (hp : pc + 1 = pc') (hkd : kd = 3 ∨ kd = 4) (hk : mj_kd (K, I, J, G) h = (kd, n)) (hx : x = nI i) (hi : i < n) (hn : n < 2 ^ 31) (hv : G h i = some h') (g : mj_To y pc' L (.ref h' :: st) (K, I, J, G) Q) : mj_To y pc L (.int x :: .ref h :: st) (K, I, J, G) Q := mj_lift (fun _ _ g => mj_aal i n hc hp hkd hk hx hi hn hv g) g
theorem mjT_cpi {h2 n2 sp dp m : Nat} {xs xd xn : Int32} (hc : mj_code y pc = some (.invokestatic ix, 3, 6, b, d, 0)) (hp : pc + 3 = pc') (hk : mj_kd (K, I, J, G) h = (1, n)) (hk2 : mj_kd (K, I, J, G) h2 = (1, n2)) (hs : xs = nI sp) (hd : xd = nI dp) (hn : xn = nI m) (h1 : sp + m ≤ n) (h2' : dp + m ≤ n2) (hb : n < 2 ^ 31 ∧ n2 < 2 ^ 31) (hr8 : (st.map Value.category).sum ≤ 8) (hI : mj_row I h2 (va_cpy (I h) (I h2) sp dp m) = I') (g : mj_To y pc' L st (K, I', J, G) Q) : mj_To y pc L (.int xn :: .int xd :: .ref h2 :: .int xs :: .ref h :: st) (K, I, J, G) Q := mj_lift (fun _ _ g => mj_cpi hc hp hk hk2 hs hd hn h1 h2' hb hr8 hI g) g
theorem mjT_divN {y pc pc' u v a b d : Nat} {L : mjL} {st : List Value} {w : mjW} {x z : Int32} (hc : mj_code y pc = some (.idiv, 1, a, b, d, 0)) (hp : pc + 1 = pc') (hx : x = nI u) (hz : z = nI v) (hu : u < 2 ^ 31) (hv : 0 < v) (hv2 : v < 2 ^ 31) (g : mj_To y pc' L (.int (nI (u / v)) :: st) w Q) : mj_To y pc L (.int z :: .int x :: st) w Q := mj_lift (fun _ _ g => mj_divN hc hp hx hz hu hv hv2 g) g
theorem mjT_remN {y pc pc' u v a b d : Nat} {L : mjL} {st : List Value} {w : mjW} {x z : Int32} (hc : mj_code y pc = some (.irem, 1, a, b, d, 0)) (hp : pc + 1 = pc') (hx : x = nI u) (hz : z = nI v) (hu : u < 2 ^ 31) (hv : 0 < v) (hv2 : v < 2 ^ 31) (g : mj_To y pc' L (.int (nI (u % v)) :: st) w Q) : mj_To y pc L (.int z :: .int x :: st) w Q := mj_lift (fun _ _ g => mj_remN hc hp hx hz hu hv hv2 g) g
theorem mjT_callE {e : mjE} {z : Nat} {as rest : List Value} (hc : mj_code y pc = some e) (ho : mj_op e = 2) (hz : e.2.2.2.1 = z) (ha : mj_call e st w = some (as, rest)) (hk : mj_cok y z L as rest w 0 0 = true) (hm : mj_mc z = 0 ∧ mj_ms z = 0) (ev : mj_Ev z as w w1 r1) (g : mj_To y (pc + 3) L (r1.toList ++ rest) w1 Q) : mj_To y pc L st w Q := mj_lift (fun _ _ g => mj_callE hc ho hz ha hk hm ev g) g
theorem mjT_ifT {cd : Prop} [Decidable cd] {t f : Nat} (hcd : cd) (g : mj_To y t L st w Q) : mj_To y (if cd then t else f) L st w Q := by rw [if_pos hcd]; exact g
theorem mjT_ifF {cd : Prop} [Decidable cd] {t f : Nat} (hcd : ¬ cd) (g : mj_To y f L st w Q) : mj_To y (if cd then t else f) L st w Q := by rw [if_neg hcd]; exact g
end TO2
/-! offices -/
def Off : Type := Nat × Nat × Nat × Nat × Nat × Nat × (Nat → Nat) × (Nat → Nat) × (Nat → Nat) × (Nat → Nat → Nat) × (Nat → Nat → Nat) × (Nat → Nat → Nat)
def Off.n (O : Off) : Nat := O.1
def Off.day (O : Off) : Nat := O.2.1
def Off.wet (O : Off) : Nat := O.2.2.1
def Off.dry (O : Off) : Nat := O.2.2.2.1
def Off.las (O : Off) : Nat := O.2.2.2.2.1
def Off.draw (O : Off) : Nat := O.2.2.2.2.2.1
def Off.kind (O : Off) : Nat → Nat := O.2.2.2.2.2.2.1
def Off.str (O : Off) : Nat → Nat := O.2.2.2.2.2.2.2.1
def Off.chair (O : Off) : Nat → Nat := O.2.2.2.2.2.2.2.2.1
def Off.own (O : Off) : Nat → Nat → Nat := O.2.2.2.2.2.2.2.2.2.1
def Off.wr (O : Off) : Nat → Nat → Nat := O.2.2.2.2.2.2.2.2.2.2.1
def Off.till (O : Off) : Nat → Nat → Nat := O.2.2.2.2.2.2.2.2.2.2.2
def mkO (n : Nat) (day : Nat) (wet : Nat) (dry : Nat) (las : Nat) (draw : Nat) (kind : Nat → Nat) (str : Nat → Nat) (chair : Nat → Nat) (own : Nat → Nat → Nat) (wr : Nat → Nat → Nat) (till : Nat → Nat → Nat) : Off := (n, day, wet, dry, las, draw, kind, str, chair, own, wr, till)
/-- none: 0; the day d: d + 1 -/
noncomputable def tI : Nat → Int32
  | 0 => -4
  | d + 1 => nI d
/-- nobody: 0 -/
noncomputable def sI : Nat → Int32
  | 0 => -1
  | p + 1 => nI p
/-- who sits there: none 0 -/
def sitL (O : Off) (c : Nat) : Nat → Nat
  | 0 => 0
  | p + 1 => if O.chair p = c then p + 1 else sitL O c p
def sitr (O : Off) (c : Nat) : Nat := sitL O c O.n
abbrev VO (O : Off) : Prop :=
  (O.n ≤ 7) ∧
  (O.day ≤ 20000) ∧
  (O.wet < 2 ^ 30) ∧
  (O.dry < 256) ∧
  (1 ≤ O.las ∧ O.las ≤ 30) ∧
  (O.draw < 2 ^ 31) ∧
  (∀ p, p < O.n → O.kind p < 4) ∧
  (∀ p, p < O.n → O.str p < 10) ∧
  (∀ p, p < O.n → O.chair p < 8) ∧
  (∀ p q, p < O.n → q < O.n → O.chair p = O.chair q → p = q) ∧
  (∀ p, p < O.n → dgo (O.own p)) ∧
  (∀ p, p < O.n → dgo (O.wr p)) ∧
  (∀ p, p < O.n → ∀ k, k < 6 → O.till p k ≤ 30000)
theorem VO.n {O : Off} (zz : VO O) : O.n ≤ 7 := zz.1
theorem VO.day {O : Off} (zz : VO O) : O.day ≤ 20000 := zz.2.1
theorem VO.wet {O : Off} (zz : VO O) : O.wet < 2 ^ 30 := zz.2.2.1
theorem VO.dry {O : Off} (zz : VO O) : O.dry < 256 := zz.2.2.2.1
theorem VO.las {O : Off} (zz : VO O) : 1 ≤ O.las ∧ O.las ≤ 30 := zz.2.2.2.2.1
theorem VO.draw {O : Off} (zz : VO O) : O.draw < 2 ^ 31 := zz.2.2.2.2.2.1
theorem VO.kind {O : Off} (zz : VO O) : ∀ p, p < O.n → O.kind p < 4 := zz.2.2.2.2.2.2.1
theorem VO.str {O : Off} (zz : VO O) : ∀ p, p < O.n → O.str p < 10 := zz.2.2.2.2.2.2.2.1
theorem VO.chair {O : Off} (zz : VO O) : ∀ p, p < O.n → O.chair p < 8 := zz.2.2.2.2.2.2.2.2.1
theorem VO.inj {O : Off} (zz : VO O) : ∀ p q, p < O.n → q < O.n → O.chair p = O.chair q → p = q := zz.2.2.2.2.2.2.2.2.2.1
theorem VO.own {O : Off} (zz : VO O) : ∀ p, p < O.n → dgo (O.own p) := zz.2.2.2.2.2.2.2.2.2.2.1
theorem VO.wr {O : Off} (zz : VO O) : ∀ p, p < O.n → dgo (O.wr p) := zz.2.2.2.2.2.2.2.2.2.2.2.1
theorem VO.till {O : Off} (zz : VO O) : ∀ p, p < O.n → ∀ k, k < 6 → O.till p k ≤ 30000 := zz.2.2.2.2.2.2.2.2.2.2.2.2
theorem mo_at {α : Type} {I : Nat → Nat → α} {h h' a b : Nat} {v : α} (e : I h a = v) (eh : h' = h) (eb : b = a) : I h' b = v := by subst eh; subst eb; exact e
/-! a day -/
def bitN (s k : Nat) : Nat := s / 2 ^ k % 2
theorem bitN_lt (s k : Nat) : bitN s k < 2 := Nat.mod_lt _ (by omega)
def lastsN (O : Off) (p : Nat) : Nat := if O.kind p = 1 then 2 * O.las else if O.kind p = 3 then 2 * O.las + 7 else O.las
abbrev mayN (O : Off) (p q : Nat) : Prop := (O.chair q = O.chair p + 1 ∨ O.chair p = O.chair q + 1) ∧ bitN O.dry (O.chair q) = 0 ∧ O.str p < O.str q
/-- of whom one of the first takes; none 0 -/
def looksN (O : Off) (p : Nat) : Nat → Nat
  | 0 => 0
  | q + 1 => if mayN O p q ∧ (looksN O p q = 0 ∨ O.str (looksN O p q - 1) < O.str q) then q + 1 else looksN O p q
def modelN (O : Off) (p : Nat) : Nat := if O.kind p = 3 ∨ bitN O.dry (O.chair p) = 1 then 0 else looksN O p O.n
def gvN (O : Off) (p k : Nat) : Nat := if O.till p k = O.day + 1 then O.own p k else O.wr p k
def gtN (O : Off) (p k : Nat) : Nat := if O.till p k = O.day + 1 then 0 else O.till p k
def fdN (f g : Nat → Nat) : Nat := if f 0 ≠ g 0 then 0 else if f 1 ≠ g 1 then 1 else if f 2 ≠ g 2 then 2 else if f 3 ≠ g 3 then 3 else if f 4 ≠ g 4 then 4 else if f 5 ≠ g 5 then 5 else 6
def seenN (O : Off) (p k : Nat) : Nat := if O.kind p = 2 then 7 - gvN O (modelN O p - 1) k else gvN O (modelN O p - 1) k
def takeN (O : Off) (p : Nat) : Nat := if modelN O p = 0 then 6 else fdN (seenN O p) (gvN O p)
/-- behind the takes of the first q -/
def midO (O : Off) (wet q : Nat) : Off := mkO O.n O.day O.wet O.dry O.las O.draw O.kind O.str O.chair O.own
  (fun p k => if wet = 1 ∧ p < q ∧ takeN O p = k then seenN O p k else gvN O p k)
  (fun p k => if wet = 1 ∧ p < q ∧ takeN O p = k then O.day + lastsN O (modelN O p - 1) + 1 else gtN O p k)
def dayO (O : Off) (d : Nat) : Off := mkO O.n d O.wet O.dry O.las O.draw O.kind O.str O.chair O.own O.wr O.till
def passO (O : Off) (wet : Nat) : Off := dayO (midO O wet O.n) (O.day + 1)
def tookN (O : Off) (wet : Nat) : Nat → Nat
  | 0 => 0
  | q + 1 => tookN O wet q + if wet = 1 ∧ takeN O q < 6 then 1 else 0
def wetN (O : Off) : Nat := bitN O.wet (O.day % 30)
def goO (O : Off) : Nat → Off
  | 0 => O
  | k + 1 => passO (goO O k) (wetN (goO O k))
theorem fd_at {f g : Nat → Nat} {k : Nat} (hk : k < 6) (h : ∀ j, j < k → f j = g j) (hn : f k ≠ g k) : fdN f g = k := by
  unfold fdN
  rcases lt6 hk with rfl | rfl | rfl | rfl | rfl | rfl
  · rw [if_pos hn]
  · rw [if_neg (fun q => q (h 0 (by omega))), if_pos hn]
  · rw [if_neg (fun q => q (h 0 (by omega))), if_neg (fun q => q (h 1 (by omega))), if_pos hn]
  · rw [if_neg (fun q => q (h 0 (by omega))), if_neg (fun q => q (h 1 (by omega))), if_neg (fun q => q (h 2 (by omega))), if_pos hn]
  · rw [if_neg (fun q => q (h 0 (by omega))), if_neg (fun q => q (h 1 (by omega))), if_neg (fun q => q (h 2 (by omega))), if_neg (fun q => q (h 3 (by omega))), if_pos hn]
  · rw [if_neg (fun q => q (h 0 (by omega))), if_neg (fun q => q (h 1 (by omega))), if_neg (fun q => q (h 2 (by omega))), if_neg (fun q => q (h 3 (by omega))), if_neg (fun q => q (h 4 (by omega))), if_pos hn]
theorem fd_no {f g : Nat → Nat} (h : ∀ j, j < 6 → f j = g j) : fdN f g = 6 := by
  unfold fdN
  rw [if_neg (fun q => q (h 0 (by omega))), if_neg (fun q => q (h 1 (by omega))), if_neg (fun q => q (h 2 (by omega))), if_neg (fun q => q (h 3 (by omega))), if_neg (fun q => q (h 4 (by omega))), if_neg (fun q => q (h 5 (by omega)))]
theorem sh30 : ∀ p, p < 31 → ((nI p &&& 31).toBitVec.smod 32).toNat = p := by decide
theorem and1 {n : Nat} (h : n < 2 ^ 31) : nI n &&& nI 1 = nI (n % 2) := pk_andN (k := 1) (by omega) (by decide)
theorem bit_at {s k : Nat} (hs : s < 2 ^ 31) (hk : k < 31) : (nI s >>> (nI k &&& 31)) &&& nI 1 = nI (bitN s k) := by
  have : s / 2 ^ k ≤ s := Nat.div_le_self _ _
  rw [pk_shrN hs _ _ (sh30 k hk), and1 (by omega)]; rfl
theorem tI_neg {a : Nat} (h : a < 2 ^ 31) : tI a < 0 ↔ a = 0 := by
  cases a with
  | zero => exact ⟨fun _ => rfl, fun _ => by decide⟩
  | succ d => exact ⟨fun q => absurd q (nI_pos (by omega)), fun q => by omega⟩
theorem tI_eq {a d : Nat} (ha : a < 2 ^ 31) (hd : d < 2 ^ 31) : tI a = nI d ↔ a = d + 1 := by
  cases a with
  | zero => exact ⟨fun q => absurd (show nI d < 0 by rw [← q]; decide) (nI_pos hd), fun q => by omega⟩
  | succ e =>
    show nI e = nI d ↔ _
    rw [nI_eq (by omega) hd]; omega
theorem tI_m4 {a : Nat} (h : a < 2 ^ 31) : tI a = -4 ↔ a = 0 := by
  cases a with
  | zero => exact ⟨fun _ => rfl, fun _ => rfl⟩
  | succ d => exact ⟨fun q => absurd (show nI d < 0 by show tI (d + 1) < 0; rw [q]; decide) (nI_pos (by omega)), fun q => by omega⟩
theorem sI_m1 {a : Nat} (h : a < 2 ^ 31) : sI a = -1 ↔ a = 0 := by
  cases a with
  | zero => exact ⟨fun _ => rfl, fun _ => rfl⟩
  | succ d => exact ⟨fun q => absurd (show nI d < 0 by show sI (d + 1) < 0; rw [q]; decide) (nI_pos (by omega)), fun q => by omega⟩
theorem sI_eq {a p : Nat} (ha : a < 2 ^ 31) (hp : p < 2 ^ 31) : sI a = nI p ↔ a = p + 1 := by
  cases a with
  | zero => exact ⟨fun q => absurd (show nI p < 0 by rw [← q]; decide) (nI_pos hp), fun q => by omega⟩
  | succ e =>
    show nI e = nI p ↔ _
    rw [nI_eq (by omega) hp]; omega
theorem tI_0 : tI 0 = -4 := rfl
theorem tI_s (d : Nat) : tI (d + 1) = nI d := rfl
theorem sI_0 : sI 0 = -1 := rfl
theorem sI_s (d : Nat) : sI (d + 1) = nI d := rfl
/-- strokes that are another's -/
def tillsN (O : Off) (p : Nat) : Nat → Nat
  | 0 => 0
  | k + 1 => tillsN O p k + if O.till p k = 0 then 0 else 1
theorem tillsN_le (O : Off) (p : Nat) : ∀ k, tillsN O p k ≤ k
  | 0 => Nat.le_refl _
  | k + 1 => by have := tillsN_le O p k; unfold tillsN; split <;> omega
theorem far_1 : ∀ a, a < 8 → ∀ b, b < 8 → (nI a - nI b = nI 1 ↔ a = b + 1) := by decide
theorem far_m : ∀ a, a < 8 → ∀ b, b < 8 → (nI a - nI b = -1 ↔ b = a + 1) := by decide
theorem sitL_le (O : Off) (c : Nat) : ∀ q, sitL O c q ≤ q
  | 0 => Nat.le_refl _
  | q + 1 => by have := sitL_le O c q; unfold sitL; split <;> omega
theorem looksN_le (O : Off) (p : Nat) : ∀ q, looksN O p q ≤ q
  | 0 => Nat.le_refl _
  | q + 1 => by have := looksN_le O p q; unfold looksN; split <;> omega
/-- the model's array holds an office from x on -/
abbrev MO (I : Nat → Nat → Int32) (x : Nat) (O : Off) : Prop :=
  (I 1 (x + 147) = nI O.n) ∧
  (I 1 (x + 148) = nI O.day) ∧
  (I 1 (x + 149) = nI O.wet) ∧
  (I 1 (x + 150) = nI O.dry) ∧
  (I 1 (x + 151) = nI O.las) ∧
  (I 1 (x + 152) = nI O.draw) ∧
  (∀ p, p < O.n → I 1 (x + 21 * p) = nI (O.kind p)) ∧
  (∀ p, p < O.n → I 1 (x + 21 * p + 1) = nI (O.str p)) ∧
  (∀ p, p < O.n → I 1 (x + 21 * p + 2) = nI (O.chair p)) ∧
  (∀ p, p < O.n → ∀ k, k < 6 → I 1 (x + 21 * p + 3 + k) = nI (O.own p k)) ∧
  (∀ p, p < O.n → ∀ k, k < 6 → I 1 (x + 21 * p + 9 + k) = nI (O.wr p k)) ∧
  (∀ p, p < O.n → ∀ k, k < 6 → I 1 (x + 21 * p + 15 + k) = tI (O.till p k))
theorem MO.n {I : Nat → Nat → Int32} {x : Nat} {O : Off} (zz : MO I x O) : I 1 (x + 147) = nI O.n := zz.1
theorem MO.day {I : Nat → Nat → Int32} {x : Nat} {O : Off} (zz : MO I x O) : I 1 (x + 148) = nI O.day := zz.2.1
theorem MO.wet {I : Nat → Nat → Int32} {x : Nat} {O : Off} (zz : MO I x O) : I 1 (x + 149) = nI O.wet := zz.2.2.1
theorem MO.dry {I : Nat → Nat → Int32} {x : Nat} {O : Off} (zz : MO I x O) : I 1 (x + 150) = nI O.dry := zz.2.2.2.1
theorem MO.las {I : Nat → Nat → Int32} {x : Nat} {O : Off} (zz : MO I x O) : I 1 (x + 151) = nI O.las := zz.2.2.2.2.1
theorem MO.draw {I : Nat → Nat → Int32} {x : Nat} {O : Off} (zz : MO I x O) : I 1 (x + 152) = nI O.draw := zz.2.2.2.2.2.1
theorem MO.kind {I : Nat → Nat → Int32} {x : Nat} {O : Off} (zz : MO I x O) : ∀ p, p < O.n → I 1 (x + 21 * p) = nI (O.kind p) := zz.2.2.2.2.2.2.1
theorem MO.str {I : Nat → Nat → Int32} {x : Nat} {O : Off} (zz : MO I x O) : ∀ p, p < O.n → I 1 (x + 21 * p + 1) = nI (O.str p) := zz.2.2.2.2.2.2.2.1
theorem MO.chair {I : Nat → Nat → Int32} {x : Nat} {O : Off} (zz : MO I x O) : ∀ p, p < O.n → I 1 (x + 21 * p + 2) = nI (O.chair p) := zz.2.2.2.2.2.2.2.2.1
theorem MO.own {I : Nat → Nat → Int32} {x : Nat} {O : Off} (zz : MO I x O) : ∀ p, p < O.n → ∀ k, k < 6 → I 1 (x + 21 * p + 3 + k) = nI (O.own p k) := zz.2.2.2.2.2.2.2.2.2.1
theorem MO.wr {I : Nat → Nat → Int32} {x : Nat} {O : Off} (zz : MO I x O) : ∀ p, p < O.n → ∀ k, k < 6 → I 1 (x + 21 * p + 9 + k) = nI (O.wr p k) := zz.2.2.2.2.2.2.2.2.2.2.1
theorem MO.till {I : Nat → Nat → Int32} {x : Nat} {O : Off} (zz : MO I x O) : ∀ p, p < O.n → ∀ k, k < 6 → I 1 (x + 21 * p + 15 + k) = tI (O.till p k) := zz.2.2.2.2.2.2.2.2.2.2.2
/-- the class's office at o; the hands of those in P -/
abbrev RO (I : Nat → Nat → Int32) (o : Nat) (O : Off) (P : Nat → Prop) : Prop :=
  (I o 0 = nI O.n) ∧
  (I o 1 = nI O.dry) ∧
  (I o 2 = nI O.wet) ∧
  (I o 3 = nI O.las) ∧
  (I o 4 = nI O.draw) ∧
  (I (o + 1) 0 = nI O.day) ∧
  (∀ p, p < O.n → I (o + 4) p = nI (O.kind p)) ∧
  (∀ p, p < O.n → I (o + 5) p = nI (O.str p)) ∧
  (∀ p, p < O.n → I (o + 6) p = nI (rw6 (O.own p))) ∧
  (∀ c, c < 8 → I (o + 7) c = sI (sitr O c)) ∧
  (∀ p, p < O.n → P p → I (o + 2) p = nI (rw6 (O.wr p))) ∧
  (∀ p, p < O.n → P p → ∀ k, k < 6 → I (o + 3) (6 * p + k) = tI (O.till p k))
theorem RO.n {I : Nat → Nat → Int32} {o : Nat} {O : Off} {P : Nat → Prop} (zz : RO I o O P) : I o 0 = nI O.n := zz.1
theorem RO.dry {I : Nat → Nat → Int32} {o : Nat} {O : Off} {P : Nat → Prop} (zz : RO I o O P) : I o 1 = nI O.dry := zz.2.1
theorem RO.wet {I : Nat → Nat → Int32} {o : Nat} {O : Off} {P : Nat → Prop} (zz : RO I o O P) : I o 2 = nI O.wet := zz.2.2.1
theorem RO.las {I : Nat → Nat → Int32} {o : Nat} {O : Off} {P : Nat → Prop} (zz : RO I o O P) : I o 3 = nI O.las := zz.2.2.2.1
theorem RO.draw {I : Nat → Nat → Int32} {o : Nat} {O : Off} {P : Nat → Prop} (zz : RO I o O P) : I o 4 = nI O.draw := zz.2.2.2.2.1
theorem RO.day {I : Nat → Nat → Int32} {o : Nat} {O : Off} {P : Nat → Prop} (zz : RO I o O P) : I (o + 1) 0 = nI O.day := zz.2.2.2.2.2.1
theorem RO.kind {I : Nat → Nat → Int32} {o : Nat} {O : Off} {P : Nat → Prop} (zz : RO I o O P) : ∀ p, p < O.n → I (o + 4) p = nI (O.kind p) := zz.2.2.2.2.2.2.1
theorem RO.str {I : Nat → Nat → Int32} {o : Nat} {O : Off} {P : Nat → Prop} (zz : RO I o O P) : ∀ p, p < O.n → I (o + 5) p = nI (O.str p) := zz.2.2.2.2.2.2.2.1
theorem RO.own {I : Nat → Nat → Int32} {o : Nat} {O : Off} {P : Nat → Prop} (zz : RO I o O P) : ∀ p, p < O.n → I (o + 6) p = nI (rw6 (O.own p)) := zz.2.2.2.2.2.2.2.2.1
theorem RO.sit {I : Nat → Nat → Int32} {o : Nat} {O : Off} {P : Nat → Prop} (zz : RO I o O P) : ∀ c, c < 8 → I (o + 7) c = sI (sitr O c) := zz.2.2.2.2.2.2.2.2.2.1
theorem RO.wr {I : Nat → Nat → Int32} {o : Nat} {O : Off} {P : Nat → Prop} (zz : RO I o O P) : ∀ p, p < O.n → P p → I (o + 2) p = nI (rw6 (O.wr p)) := zz.2.2.2.2.2.2.2.2.2.2.1
theorem RO.till {I : Nat → Nat → Int32} {o : Nat} {O : Off} {P : Nat → Prop} (zz : RO I o O P) : ∀ p, p < O.n → P p → ∀ k, k < 6 → I (o + 3) (6 * p + k) = tI (O.till p k) := zz.2.2.2.2.2.2.2.2.2.2.2
abbrev HaG (q : Nat) : Prop :=
  (KC.getD q (99, 0) = (0, 0)) ∧
  (KC.getD (q + 1) (99, 0) = (1, 7)) ∧
  (KC.getD (q + 2) (99, 0) = (1, 42)) ∧
  (GC q 1 = some (q + 1)) ∧
  (GC q 2 = some (q + 2))
theorem HaG.k0 {q : Nat} (zz : HaG q) : KC.getD q (99, 0) = (0, 0) := zz.1
theorem HaG.k1 {q : Nat} (zz : HaG q) : KC.getD (q + 1) (99, 0) = (1, 7) := zz.2.1
theorem HaG.k2 {q : Nat} (zz : HaG q) : KC.getD (q + 2) (99, 0) = (1, 42) := zz.2.2.1
theorem HaG.r1 {q : Nat} (zz : HaG q) : GC q 1 = some (q + 1) := zz.2.2.2.1
theorem HaG.r2 {q : Nat} (zz : HaG q) : GC q 2 = some (q + 2) := zz.2.2.2.2
abbrev OfG (o : Nat) : Prop :=
  (KC.getD o (99, 0) = (0, 1)) ∧
  (KC.getD (o + 1) (99, 0) = (0, 0)) ∧
  (KC.getD (o + 2) (99, 0) = (1, 7)) ∧
  (KC.getD (o + 3) (99, 0) = (1, 42)) ∧
  (KC.getD (o + 4) (99, 0) = (1, 7)) ∧
  (KC.getD (o + 5) (99, 0) = (1, 7)) ∧
  (KC.getD (o + 6) (99, 0) = (1, 7)) ∧
  (KC.getD (o + 7) (99, 0) = (1, 8)) ∧
  (KC.getD (o + 8) (99, 0) = (1, 7)) ∧
  (KC.getD (o + 9) (99, 0) = (1, 7)) ∧
  (KC.getD (o + 10) (99, 0) = (1, 7)) ∧
  (GC o 5 = some (o + 1)) ∧
  (GC (o + 1) 1 = some (o + 2)) ∧
  (GC (o + 1) 2 = some (o + 3)) ∧
  (GC o 6 = some (o + 4)) ∧
  (GC o 7 = some (o + 5)) ∧
  (GC o 8 = some (o + 6)) ∧
  (GC o 9 = some (o + 7)) ∧
  (GC o 11 = some (o + 8)) ∧
  (GC o 12 = some (o + 9)) ∧
  (GC o 13 = some (o + 10))
theorem OfG.k0 {o : Nat} (zz : OfG o) : KC.getD o (99, 0) = (0, 1) := zz.1
theorem OfG.k1 {o : Nat} (zz : OfG o) : KC.getD (o + 1) (99, 0) = (0, 0) := zz.2.1
theorem OfG.k2 {o : Nat} (zz : OfG o) : KC.getD (o + 2) (99, 0) = (1, 7) := zz.2.2.1
theorem OfG.k3 {o : Nat} (zz : OfG o) : KC.getD (o + 3) (99, 0) = (1, 42) := zz.2.2.2.1
theorem OfG.k4 {o : Nat} (zz : OfG o) : KC.getD (o + 4) (99, 0) = (1, 7) := zz.2.2.2.2.1
theorem OfG.k5 {o : Nat} (zz : OfG o) : KC.getD (o + 5) (99, 0) = (1, 7) := zz.2.2.2.2.2.1
theorem OfG.k6 {o : Nat} (zz : OfG o) : KC.getD (o + 6) (99, 0) = (1, 7) := zz.2.2.2.2.2.2.1
theorem OfG.k7 {o : Nat} (zz : OfG o) : KC.getD (o + 7) (99, 0) = (1, 8) := zz.2.2.2.2.2.2.2.1
theorem OfG.k8 {o : Nat} (zz : OfG o) : KC.getD (o + 8) (99, 0) = (1, 7) := zz.2.2.2.2.2.2.2.2.1
theorem OfG.k9 {o : Nat} (zz : OfG o) : KC.getD (o + 9) (99, 0) = (1, 7) := zz.2.2.2.2.2.2.2.2.2.1
theorem OfG.k10 {o : Nat} (zz : OfG o) : KC.getD (o + 10) (99, 0) = (1, 7) := zz.2.2.2.2.2.2.2.2.2.2.1
theorem OfG.r1 {o : Nat} (zz : OfG o) : GC o 5 = some (o + 1) := zz.2.2.2.2.2.2.2.2.2.2.2.1
theorem OfG.r2 {o : Nat} (zz : OfG o) : GC (o + 1) 1 = some (o + 2) := zz.2.2.2.2.2.2.2.2.2.2.2.2.1
theorem OfG.r3 {o : Nat} (zz : OfG o) : GC (o + 1) 2 = some (o + 3) := zz.2.2.2.2.2.2.2.2.2.2.2.2.2.1
theorem OfG.r4 {o : Nat} (zz : OfG o) : GC o 6 = some (o + 4) := zz.2.2.2.2.2.2.2.2.2.2.2.2.2.2.1
theorem OfG.r5 {o : Nat} (zz : OfG o) : GC o 7 = some (o + 5) := zz.2.2.2.2.2.2.2.2.2.2.2.2.2.2.2.1
theorem OfG.r6 {o : Nat} (zz : OfG o) : GC o 8 = some (o + 6) := zz.2.2.2.2.2.2.2.2.2.2.2.2.2.2.2.2.1
theorem OfG.r7 {o : Nat} (zz : OfG o) : GC o 9 = some (o + 7) := zz.2.2.2.2.2.2.2.2.2.2.2.2.2.2.2.2.2.1
theorem OfG.r8 {o : Nat} (zz : OfG o) : GC o 11 = some (o + 8) := zz.2.2.2.2.2.2.2.2.2.2.2.2.2.2.2.2.2.2.1
theorem OfG.r9 {o : Nat} (zz : OfG o) : GC o 12 = some (o + 9) := zz.2.2.2.2.2.2.2.2.2.2.2.2.2.2.2.2.2.2.2.1
theorem OfG.r10 {o : Nat} (zz : OfG o) : GC o 13 = some (o + 10) := zz.2.2.2.2.2.2.2.2.2.2.2.2.2.2.2.2.2.2.2.2
theorem og_1 : OfG 1 := ⟨rfl, rfl, rfl, rfl, rfl, rfl, rfl, rfl, rfl, rfl, rfl, rfl, rfl, rfl, rfl, rfl, rfl, rfl, rfl, rfl, rfl⟩
theorem og_38 : OfG 38 := ⟨rfl, rfl, rfl, rfl, rfl, rfl, rfl, rfl, rfl, rfl, rfl, rfl, rfl, rfl, rfl, rfl, rfl, rfl, rfl, rfl, rfl⟩
theorem og_75 : OfG 75 := ⟨rfl, rfl, rfl, rfl, rfl, rfl, rfl, rfl, rfl, rfl, rfl, rfl, rfl, rfl, rfl, rfl, rfl, rfl, rfl, rfl, rfl⟩
/-! what no method of an office makes otherwise -/
theorem ad_of {d e : Nat → Nat} (h : ∀ k, k < 6 → d k = e k) : ∀ k, k ≤ 6 → fg d k = fg e k
  | 0, _ => rfl
  | k + 1, hk => by unfold fg; rw [ad_of h k (by omega), h k (by omega)]
