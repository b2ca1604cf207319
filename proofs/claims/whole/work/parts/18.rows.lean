/-! rows of six strokes -/
theorem mj_divN {y pc pc' u v a b d : Nat} {L : mjL} {st : List Value} {w w' : mjW} {r : Option Value} {x z : Int32} (hc : mj_code y pc = some (.idiv, 1, a, b, d, 0)) (hp : pc + 1 = pc') (hx : x = nI u) (hz : z = nI v) (hu : u < 2 ^ 31) (hv : 0 < v) (hv2 : v < 2 ^ 31) (g : mj_Go y pc' L (.int (nI (u / v)) :: st) w w' r) : mj_Go y pc L (.int z :: .int x :: st) w w' r := by
  subst hp; subst hx; subst hz
  refine mj_step1 (C := (pc + 1, L, .int (nI (u / v)) :: st, w, 0, 0)) hc rfl ?_ rfl g
  simp only [mj_sim, mj_p2]
  rw [if_neg (nI_ne0 hv hv2), pk_div hu hv hv2]
theorem mj_remN {y pc pc' u v a b d : Nat} {L : mjL} {st : List Value} {w w' : mjW} {r : Option Value} {x z : Int32} (hc : mj_code y pc = some (.irem, 1, a, b, d, 0)) (hp : pc + 1 = pc') (hx : x = nI u) (hz : z = nI v) (hu : u < 2 ^ 31) (hv : 0 < v) (hv2 : v < 2 ^ 31) (g : mj_Go y pc' L (.int (nI (u % v)) :: st) w w' r) : mj_Go y pc L (.int z :: .int x :: st) w w' r := by
  subst hp; subst hx; subst hz
  refine mj_step1 (C := (pc + 1, L, .int (nI (u % v)) :: st, w, 0, 0)) hc rfl ?_ rfl g
  simp only [mj_sim, mj_p2]
  rw [if_neg (nI_ne0 hv hv2), pk_rem hu hv hv2]
/-- six strokes as one number, the first highest -/
def rw6 (d : Nat → Nat) : Nat := ((((d 0 * 8 + d 1) * 8 + d 2) * 8 + d 3) * 8 + d 4) * 8 + d 5
def dgo (d : Nat → Nat) : Prop := ∀ k, k < 6 → d k < 8
/-- six figures -/
def fg (d : Nat → Nat) : Nat → Nat
  | 0 => 0
  | k + 1 => 10 * fg d k + d k
def alk (d e : Nat → Nat) : Nat → Nat
  | 0 => 0
  | k + 1 => alk d e k + if d k = e k then 1 else 0
theorem lt6 {k : Nat} (h : k < 6) : k = 0 ∨ k = 1 ∨ k = 2 ∨ k = 3 ∨ k = 4 ∨ k = 5 := by omega
theorem dgo_all {d : Nat → Nat} (h : dgo d) : d 0 < 8 ∧ d 1 < 8 ∧ d 2 < 8 ∧ d 3 < 8 ∧ d 4 < 8 ∧ d 5 < 8 := ⟨h 0 (by omega), h 1 (by omega), h 2 (by omega), h 3 (by omega), h 4 (by omega), h 5 (by omega)⟩
theorem rw6_lt {d : Nat → Nat} (h : dgo d) : rw6 d < 262144 := by
  obtain ⟨h0, h1, h2, h3, h4, h5⟩ := dgo_all h
  unfold rw6; omega
theorem rw6_at {d : Nat → Nat} (h : dgo d) {k : Nat} (hk : k < 6) : rw6 d / 2 ^ (15 - 3 * k) % 8 = d k := by
  obtain ⟨h0, h1, h2, h3, h4, h5⟩ := dgo_all h
  rcases lt6 hk with rfl | rfl | rfl | rfl | rfl | rfl <;> simp only [rw6, Nat.reduceMul, Nat.reduceSub, Nat.reducePow] <;> omega
theorem rw6_inj {d e : Nat → Nat} (h : dgo d) (h' : dgo e) (q : rw6 d = rw6 e) : ∀ k, k < 6 → d k = e k := fun k hk => by rw [← rw6_at h hk, ← rw6_at h' hk, q]
theorem rw6_congr {d e : Nat → Nat} (h : ∀ k, k < 6 → d k = e k) : rw6 d = rw6 e := by
  unfold rw6
  rw [h 0 (by omega), h 1 (by omega), h 2 (by omega), h 3 (by omega), h 4 (by omega), h 5 (by omega)]
theorem alk_s (d e : Nat → Nat) (k : Nat) : alk d e (k + 1) = alk d e k + if d k = e k then 1 else 0 := rfl
theorem alk_le (d e : Nat → Nat) : ∀ k, alk d e k ≤ k
  | 0 => Nat.le_refl _
  | k + 1 => by have := alk_le d e k; unfold alk; split <;> omega
theorem fg_lt {d : Nat → Nat} (h : dgo d) : ∀ k, k ≤ 6 → fg d k < 10 ^ k
  | 0, _ => Nat.zero_lt_one
  | k + 1, hk => by
    have h1 := fg_lt h k (by omega)
    have h2 := h k (by omega)
    have : 10 ^ (k + 1) = 10 * 10 ^ k := by rw [Nat.pow_succ]; omega
    unfold fg; omega
theorem sh15 : ∀ p, p < 6 → (((nI 15 - nI 3 * nI p) &&& 31).toBitVec.smod 32).toNat = 15 - 3 * p := by decide
theorem and7 {n : Nat} (h : n < 2 ^ 31) : nI n &&& nI 7 = nI (n % 8) := pk_andN (k := 3) (by omega) (by decide)
theorem e_stroke {d : Nat → Nat} (h : dgo d) {k : Nat} (hk : k < 6) (w : mjW) : mj_Ev 56 [.int (nI (rw6 d)), .int (nI k)] w w (some (.int (nI (d k)))) := by
  have h1 := rw6_lt h
  have e : (nI (rw6 d) >>> ((nI 15 - nI 3 * nI k) &&& 31)) &&& nI 7 = nI (d k) := by
    have h2 : rw6 d / 2 ^ (15 - 3 * k) ≤ rw6 d := Nat.div_le_self _ _
    rw [pk_shrN (by omega) _ _ (sh15 k hk), and7 (by omega), rw6_at h hk]
  rw [← e]
  refine mj_go 9 (pc' := 11) (L' := [some (.int (nI (rw6 d))), some (.int (nI k))]) (st' := [.int ((nI (rw6 d) >>> ((nI 15 - nI 3 * nI k) &&& 31)) &&& nI 7)]) (w1 := w) rfl ?_
  exact mj_ret1 rfl rfl rfl
theorem e_alike_lp {d e : Nat → Nat} (h : dgo d) (h' : dgo e) {I : Nat → Nat → Int32} {J : Nat → Nat → Int64} {KC : List (Nat × Nat)} {GC : Nat → Nat → Option Nat} : ∀ n k, k ≤ 6 → 6 - k = n → mj_Go 58 4 [some (.int (nI (rw6 d))), some (.int (nI (rw6 e))), some (.int (nI (alk d e k))), some (.int (nI k))] [] (KC, I, J, GC) (KC, I, J, GC) (some (.int (nI (alk d e 6)))) := by
  intro n
  induction n with
  | zero =>
    intro k hk hn
    obtain rfl : k = 6 := by omega
    refine mj_go 3 (pc' := if nI 6 ≤ nI 6 then 32 else 10) (L' := [some (.int (nI (rw6 d))), some (.int (nI (rw6 e))), some (.int (nI (alk d e 6))), some (.int (nI 6))]) (st' := []) (w1 := (KC, I, J, GC)) rfl ?_
    refine mj_ifT (Int32.le_refl _) ?_
    refine mj_go 1 (pc' := 33) (L' := [some (.int (nI (rw6 d))), some (.int (nI (rw6 e))), some (.int (nI (alk d e 6))), some (.int (nI 6))]) (st' := [.int (nI (alk d e 6))]) (w1 := (KC, I, J, GC)) rfl ?_
    exact mj_ret1 rfl rfl rfl
  | succ n ih =>
    intro k hk hn
    have hal := alk_le d e k
    have g := ih (k + 1) (by omega) (by omega)
    refine mj_go 3 (pc' := if nI 6 ≤ nI k then 32 else 10) (L' := [some (.int (nI (rw6 d))), some (.int (nI (rw6 e))), some (.int (nI (alk d e k))), some (.int (nI k))]) (st' := []) (w1 := (KC, I, J, GC)) rfl ?_
    refine mj_ifF (nI_ge (by omega) (by omega)) ?_
    refine mj_go 2 (pc' := 12) (L' := [some (.int (nI (rw6 d))), some (.int (nI (rw6 e))), some (.int (nI (alk d e k))), some (.int (nI k))]) (st' := [.int (nI k), .int (nI (rw6 d))]) (w1 := (KC, I, J, GC)) rfl ?_
    refine mj_callE (as := [.int (nI (rw6 d)), .int (nI k)]) (rest := []) rfl rfl rfl rfl rfl ⟨rfl, rfl⟩ (e_stroke h (by omega) _) ?_
    refine mj_go 2 (pc' := 17) (L' := [some (.int (nI (rw6 d))), some (.int (nI (rw6 e))), some (.int (nI (alk d e k))), some (.int (nI k))]) (st' := [.int (nI k), .int (nI (rw6 e)), .int (nI (d k))]) (w1 := (KC, I, J, GC)) rfl ?_
    refine mj_callE (as := [.int (nI (rw6 e)), .int (nI k)]) (rest := [.int (nI (d k))]) rfl rfl rfl rfl rfl ⟨rfl, rfl⟩ (e_stroke h' (by omega) _) ?_
    refine mj_go 1 (pc' := if ¬ nI (d k) = nI (e k) then 26 else 23) (L' := [some (.int (nI (rw6 d))), some (.int (nI (rw6 e))), some (.int (nI (alk d e k))), some (.int (nI k))]) (st' := []) (w1 := (KC, I, J, GC)) rfl ?_
    have hd := h k (by omega)
    have he := h' k (by omega)
    refine mj_if_ne (u := d k) (v := e k) rfl rfl (by omega) (by omega) (fun hc => ?_) (fun hc => ?_)
    · rw [alk_s, if_neg hc, Nat.add_zero] at g
      refine mj_go 2 (pc' := 4) (L' := [some (.int (nI (rw6 d))), some (.int (nI (rw6 e))), some (.int (nI (alk d e k))), some (.int ((nI k) + (nI 1)))]) (st' := []) (w1 := (KC, I, J, GC)) rfl ?_
      rw [nI_add]
      exact g
    · refine mj_go 1 (pc' := 26) (L' := [some (.int (nI (rw6 d))), some (.int (nI (rw6 e))), some (.int ((nI (alk d e k)) + (nI 1))), some (.int (nI k))]) (st' := []) (w1 := (KC, I, J, GC)) rfl ?_
      rw [alk_s, if_pos hc] at g
      refine mj_go 2 (pc' := 4) (L' := [some (.int (nI (rw6 d))), some (.int (nI (rw6 e))), some (.int ((nI (alk d e k)) + (nI 1))), some (.int ((nI k) + (nI 1)))]) (st' := []) (w1 := (KC, I, J, GC)) rfl ?_
      rw [nI_add, nI_add]
      exact g
theorem e_alike {d e : Nat → Nat} (h : dgo d) (h' : dgo e) {I : Nat → Nat → Int32} {J : Nat → Nat → Int64} {KC : List (Nat × Nat)} {GC : Nat → Nat → Option Nat} : mj_Ev 58 [.int (nI (rw6 d)), .int (nI (rw6 e))] (KC, I, J, GC) (KC, I, J, GC) (some (.int (nI (alk d e 6)))) := by
  refine mj_go 4 (pc' := 4) (L' := [some (.int (nI (rw6 d))), some (.int (nI (rw6 e))), some (.int (nI 0)), some (.int (nI 0))]) (st' := []) (w1 := (KC, I, J, GC)) rfl ?_
  exact e_alike_lp h h' 6 0 (by omega) rfl
/-! figures -/
theorem e_figures_lp {d : Nat → Nat} (h : dgo d) {I : Nat → Nat → Int32} {J : Nat → Nat → Int64} {KC : List (Nat × Nat)} {GC : Nat → Nat → Option Nat} : ∀ n k, k ≤ 6 → 6 - k = n → mj_Go 55 4 [some (.int (nI (rw6 d))), some (.int (nI (fg d k))), some (.int (nI k))] [] (KC, I, J, GC) (KC, I, J, GC) (some (.int (nI (fg d 6)))) := by
  intro n
  induction n with
  | zero =>
    intro k hk hn
    obtain rfl : k = 6 := by omega
    refine mj_go 3 (pc' := if nI 6 ≤ nI 6 then 27 else 10) (L' := [some (.int (nI (rw6 d))), some (.int (nI (fg d 6))), some (.int (nI 6))]) (st' := []) (w1 := (KC, I, J, GC)) rfl ?_
    refine mj_ifT (Int32.le_refl _) ?_
    refine mj_go 1 (pc' := 28) (L' := [some (.int (nI (rw6 d))), some (.int (nI (fg d 6))), some (.int (nI 6))]) (st' := [.int (nI (fg d 6))]) (w1 := (KC, I, J, GC)) rfl ?_
    exact mj_ret1 rfl rfl rfl
  | succ n ih =>
    intro k hk hn
    have g := ih (k + 1) (by omega) (by omega)
    refine mj_go 3 (pc' := if nI 6 ≤ nI k then 27 else 10) (L' := [some (.int (nI (rw6 d))), some (.int (nI (fg d k))), some (.int (nI k))]) (st' := []) (w1 := (KC, I, J, GC)) rfl ?_
    refine mj_ifF (nI_ge (by omega) (by omega)) ?_
    refine mj_go 5 (pc' := 16) (L' := [some (.int (nI (rw6 d))), some (.int (nI (fg d k))), some (.int (nI k))]) (st' := [.int (nI k), .int (nI (rw6 d)), .int ((nI 10) * (nI (fg d k)))]) (w1 := (KC, I, J, GC)) rfl ?_
    refine mj_callE (as := [.int (nI (rw6 d)), .int (nI k)]) (rest := [.int ((nI 10) * (nI (fg d k)))]) rfl rfl rfl rfl rfl ⟨rfl, rfl⟩ (e_stroke h (by omega) _) ?_
    refine mj_go 4 (pc' := 4) (L' := [some (.int (nI (rw6 d))), some (.int (((nI 10) * (nI (fg d k))) + (nI (d k)))), some (.int ((nI k) + (nI 1)))]) (st' := []) (w1 := (KC, I, J, GC)) rfl ?_
    rw [pk_mul, nI_add, nI_add]
    exact g
theorem e_figures {d : Nat → Nat} (h : dgo d) {I : Nat → Nat → Int32} {J : Nat → Nat → Int64} {KC : List (Nat × Nat)} {GC : Nat → Nat → Option Nat} : mj_Ev 55 [.int (nI (rw6 d))] (KC, I, J, GC) (KC, I, J, GC) (some (.int (nI (fg d 6)))) := by
  refine mj_go 4 (pc' := 4) (L' := [some (.int (nI (rw6 d))), some (.int (nI 0)), some (.int (nI 0))]) (st' := []) (w1 := (KC, I, J, GC)) rfl ?_
  exact e_figures_lp h 6 0 (by omega) rfl
/-! firstStrokes -/
theorem sh18 : ∀ k, k ≤ 6 → ((nI 3 * (nI 6 - nI k) &&& 31).toBitVec.smod 32).toNat = 3 * (6 - k) := by decide
theorem e_firstStrokes {d : Nat → Nat} (h : dgo d) {k : Nat} (hk : k ≤ 6) {I : Nat → Nat → Int32} {J : Nat → Nat → Int64} {KC : List (Nat × Nat)} {GC : Nat → Nat → Option Nat} : mj_Ev 57 [.int (nI (rw6 d)), .int (nI k)] (KC, I, J, GC) (KC, I, J, GC) (some (.int (nI (rw6 d / 2 ^ (3 * (6 - k)))))) := by
  have h1 := rw6_lt h
  rw [← pk_shrN (by omega) _ _ (sh18 k hk)]
  refine mj_go 7 (pc' := 8) (L' := [some (.int (nI (rw6 d))), some (.int (nI k))]) (st' := [.int ((nI (rw6 d)) >>> (((nI 3) * ((nI 6) - (nI k))) &&& 31))]) (w1 := (KC, I, J, GC)) rfl ?_
  exact mj_ret1 rfl rfl rfl
theorem first_eq {d e : Nat → Nat} (h : dgo d) (h' : dgo e) {k : Nat} (hk : k ≤ 6) : rw6 d / 2 ^ (3 * (6 - k)) = rw6 e / 2 ^ (3 * (6 - k)) ↔ ∀ j, j < k → d j = e j := by
  obtain ⟨h0, h1, h2, h3, h4, h5⟩ := dgo_all h
  obtain ⟨g0, g1, g2, g3, g4, g5⟩ := dgo_all h'
  have key : (∀ j, j < k → d j = e j) ↔ ((0 < k → d 0 = e 0) ∧ (1 < k → d 1 = e 1) ∧ (2 < k → d 2 = e 2) ∧ (3 < k → d 3 = e 3) ∧ (4 < k → d 4 = e 4) ∧ (5 < k → d 5 = e 5)) := by
    constructor
    · intro q; exact ⟨q 0, q 1, q 2, q 3, q 4, q 5⟩
    · rintro ⟨q0, q1, q2, q3, q4, q5⟩ j hj
      have : j < 6 := by omega
      rcases lt6 this with rfl | rfl | rfl | rfl | rfl | rfl
      · exact q0 hj
      · exact q1 hj
      · exact q2 hj
      · exact q3 hj
      · exact q4 hj
      · exact q5 hj
  rw [key]
  have hk7 : k = 0 ∨ k = 1 ∨ k = 2 ∨ k = 3 ∨ k = 4 ∨ k = 5 ∨ k = 6 := by omega
  rcases hk7 with rfl | rfl | rfl | rfl | rfl | rfl | rfl <;> simp only [rw6, Nat.reduceMul, Nat.reduceSub, Nat.reducePow] <;> omega
