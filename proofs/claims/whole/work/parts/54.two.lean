/-! signature, two, film -/
section OP7
variable {I I' : Nat → Nat → Int32} {J : Nat → Nat → Int64} {K : List (Nat × Nat)} {G : Nat → Nat → Option Nat} {S : Sta} {o : Nat} {O : Off} {P : Nat → Prop}
theorem lt16 {k : Nat} (h : 1 ≤ k) (h6 : k ≤ 6) : k = 1 ∨ k = 2 ∨ k = 3 ∨ k = 4 ∨ k = 5 ∨ k = 6 := by omega
theorem pre_iff {d e : Nat → Nat} (hd : dgo d) (he : dgo e) {k : Nat} (h1 : 1 ≤ k) (h6 : k ≤ 6) : rw6 d / 2 ^ (3 * (6 - k)) = rw6 e / 2 ^ (3 * (6 - k)) ↔ ∀ j, j < k → d j = e j := by
  obtain ⟨a0, a1, a2, a3, a4, a5⟩ := dgo_all hd
  obtain ⟨b0, b1, b2, b3, b4, b5⟩ := dgo_all he
  unfold rw6
  rcases lt16 h1 h6 with rfl | rfl | rfl | rfl | rfl | rfl
  · constructor
    · intro q j hj
      obtain rfl : j = 0 := by omega
      omega
    · intro q
      have q0 := q 0 (by omega)
      omega
  · constructor
    · intro q j hj
      obtain rfl | rfl : j = 0 ∨ j = 1 := by omega
      · omega
      · omega
    · intro q
      have q0 := q 0 (by omega)
      have q1 := q 1 (by omega)
      omega
  · constructor
    · intro q j hj
      obtain rfl | rfl | rfl : j = 0 ∨ j = 1 ∨ j = 2 := by omega
      · omega
      · omega
      · omega
    · intro q
      have q0 := q 0 (by omega)
      have q1 := q 1 (by omega)
      have q2 := q 2 (by omega)
      omega
  · constructor
    · intro q j hj
      obtain rfl | rfl | rfl | rfl : j = 0 ∨ j = 1 ∨ j = 2 ∨ j = 3 := by omega
      · omega
      · omega
      · omega
      · omega
    · intro q
      have q0 := q 0 (by omega)
      have q1 := q 1 (by omega)
      have q2 := q 2 (by omega)
      have q3 := q 3 (by omega)
      omega
  · constructor
    · intro q j hj
      obtain rfl | rfl | rfl | rfl | rfl : j = 0 ∨ j = 1 ∨ j = 2 ∨ j = 3 ∨ j = 4 := by omega
      · omega
      · omega
      · omega
      · omega
      · omega
    · intro q
      have q0 := q 0 (by omega)
      have q1 := q 1 (by omega)
      have q2 := q 2 (by omega)
      have q3 := q 3 (by omega)
      have q4 := q 4 (by omega)
      omega
  · constructor
    · intro q j hj
      rcases lt6 hj with rfl | rfl | rfl | rfl | rfl | rfl
      · omega
      · omega
      · omega
      · omega
      · omega
      · omega
    · intro q
      have q0 := q 0 (by omega)
      have q1 := q 1 (by omega)
      have q2 := q 2 (by omega)
      have q3 := q 3 (by omega)
      have q4 := q 4 (by omega)
      have q5 := q 5 (by omega)
      omega
theorem fd_pre {d e : Nat → Nat} {k : Nat} (h6 : k ≤ 6) : (∀ j, j < k → d j = e j) ↔ k ≤ fdN d e := by
  rcases fd_cases d e with ⟨h1, h2⟩ | ⟨h1, h2, h3⟩
  · exact ⟨fun _ => by omega, fun _ j hj => h2 j (by omega)⟩
  · constructor
    · intro q
      exact Nat.le_of_not_lt fun z => h2 (q _ z)
    · intro q j hj; exact h3 j (by omega)
theorem fd_le (d e : Nat → Nat) : fdN d e ≤ 6 := by
  rcases fd_cases d e with ⟨h1, _⟩ | ⟨h1, _, _⟩ <;> omega
theorem c_firstStrokes {row k : Nat} (hr : row < 2 ^ 31) (h1 : 1 ≤ k) (h6 : k ≤ 6) : mj_Ev 57 [.int (nI row), .int (nI k)] (K, I, J, G) (K, I, J, G) (some (.int (nI (row / 2 ^ (3 * (6 - k)))))) := by
  refine mj_ev_of ?_
  refine mjT_go 7 (pc' := 8) (L' := [some (.int (nI row)), some (.int (nI k))]) (st' := [.int ((nI row) >>> (((nI 3) * ((nI 6) - (nI k))) &&& 31))]) (w1 := (K, I, J, G)) rfl ?_
  refine mjT_ret rfl rfl rfl ?_
  exact ⟨rfl, by rw [pk_shrN hr _ _ (sh18 k h6)]⟩
def blL (O : Off) (p k : Nat) : Nat → Nat
  | 0 => 0
  | q + 1 => if q ≠ p ∧ k ≤ fdN (O.wr q) (O.own p) then 1 else blL O p k q
def sgL (O : Off) (p : Nat) : Nat → Nat
  | 0 => 1
  | q + 1 => if q ≠ p ∧ sgL O p q < fdN (O.wr q) (O.own p) + 1 then fdN (O.wr q) (O.own p) + 1 else sgL O p q
theorem blL_lt (O : Off) (p k : Nat) : ∀ q, blL O p k q < 2
  | 0 => Nat.zero_lt_two
  | q + 1 => by
    have := blL_lt O p k q
    unfold blL; split <;> omega
theorem sgL_le (O : Off) (p : Nat) : ∀ q, 1 ≤ sgL O p q ∧ sgL O p q ≤ 7
  | 0 => by unfold sgL; omega
  | q + 1 => by
    have h1 := sgL_le O p q
    have h2 := fd_le (O.wr q) (O.own p)
    unfold sgL; split <;> omega
theorem bl_sg (O : Off) (p : Nat) {k : Nat} (h1 : 1 ≤ k) : ∀ q, blL O p k q = 1 ↔ k < sgL O p q
  | 0 => by unfold blL sgL; omega
  | q + 1 => by
    have ih := bl_sg O p h1 q
    have hb := blL_lt O p k q
    unfold blL sgL
    by_cases e : q ≠ p
    · by_cases h2 : k ≤ fdN (O.wr q) (O.own p)
      · rw [if_pos ⟨e, h2⟩]
        by_cases h3 : sgL O p q < fdN (O.wr q) (O.own p) + 1
        · rw [if_pos ⟨e, h3⟩]; omega
        · rw [if_neg (fun z => h3 z.2)]; omega
      · rw [if_neg (fun z => h2 z.2), ih]
        by_cases h3 : sgL O p q < fdN (O.wr q) (O.own p) + 1
        · rw [if_pos ⟨e, h3⟩]; omega
        · rw [if_neg (fun z => h3 z.2)]
    · rw [if_neg (fun z => e z.1), if_neg (fun z => e z.1)]; exact ih
theorem bl_one {O : Off} {p k q : Nat} (h : q ≠ p ∧ k ≤ fdN (O.wr q) (O.own p)) : ∀ {n}, q < n → blL O p k n = 1
  | 0, hq => absurd hq (by omega)
  | n + 1, hq => by
    by_cases e : q = n
    · subst e; exact if_pos h
    · unfold blL
      rw [bl_one h (n := n) (by omega), ite_self]
theorem c_beginsLike (hV : VO O) (hG : OfG o) (hO : RO I o O TT) {p kk : Nat} (hp : p < O.n) (h1 : 1 ≤ kk) (h6 : kk ≤ 6) : mj_Ev 26 [.ref o, .int (nI p), .int (nI kk)] (KC, I, J, GC) (KC, I, J, GC) (some (.int (nI (blL O p kk O.n)))) := by
  refine mj_ev_of ?_
  have hn := hV.n
  have hol := rw6_lt (hV.own p hp)
  refine mjT_go 1 (pc' := 1) (L' := [some (.ref o), some (.int (nI p)), some (.int (nI kk)), none, none]) (st' := [.ref o]) (w1 := (KC, I, J, GC)) rfl ?_
  refine mjT_gfr (h' := (o + 6)) rfl (pc' := 4) rfl hG.k0 hG.r6 ?_
  refine mjT_go 1 (pc' := 5) (L' := [some (.ref o), some (.int (nI p)), some (.int (nI kk)), none, none]) (st' := [.int (nI p), .ref (o + 6)]) (w1 := (KC, I, J, GC)) rfl ?_
  refine mjT_ial (v := nI (rw6 (O.own p))) p 7 rfl (pc' := 6) rfl hG.k6 rfl (by omega) (by omega) (mo_at (hO.own p (show p < O.n by omega)) (by omega) (by omega)) ?_
  refine mjT_go 1 (pc' := 7) (L' := [some (.ref o), some (.int (nI p)), some (.int (nI kk)), none, none]) (st' := [.int (nI kk), .int (nI (rw6 (O.own p)))]) (w1 := (KC, I, J, GC)) rfl ?_
  refine mjT_callE (as := [.int (nI (rw6 (O.own p))), .int (nI kk)]) (rest := []) (r1 := some (.int (nI (rw6 (O.own p) / 2 ^ (3 * (6 - kk)))))) rfl rfl rfl rfl rfl ⟨rfl, rfl⟩ (c_firstStrokes (by omega) h1 h6) ?_
  refine mjT_go 3 (pc' := 14) (L' := [some (.ref o), some (.int (nI p)), some (.int (nI kk)), some (.int (nI (rw6 (O.own p) / 2 ^ (3 * (6 - kk))))), some (.int (nI 0))]) (st' := []) (w1 := (KC, I, J, GC)) rfl ?_
  refine mj_loop (fun k L w => L = [some (.ref o), some (.int (nI p)), some (.int (nI kk)), some (.int (nI (rw6 (O.own p) / 2 ^ (3 * (6 - kk))))), some (.int (nI k))] ∧ w = (KC, I, J, GC) ∧ blL O p kk k = 0) O.n (k0 := 0) (Nat.zero_le _) ?_ ?_ ?_
  · exact ⟨rfl, rfl, rfl⟩
  · rintro q _ _ hq ⟨rfl, rfl, hb⟩ hc
    have hwl := rw6_lt (hV.wr q hq)
    have hd1 : rw6 (O.own p) / 2 ^ (3 * (6 - kk)) ≤ rw6 (O.own p) := Nat.div_le_self _ _
    have hd2 : rw6 (O.wr q) / 2 ^ (3 * (6 - kk)) ≤ rw6 (O.wr q) := Nat.div_le_self _ _
    have hpre : rw6 (O.wr q) / 2 ^ (3 * (6 - kk)) = rw6 (O.own p) / 2 ^ (3 * (6 - kk)) ↔ kk ≤ fdN (O.wr q) (O.own p) := by rw [pre_iff (hV.wr q hq) (hV.own p hp) h1 h6, fd_pre h6]
    refine mjT_go 2 (pc' := 17) (L' := [some (.ref o), some (.int (nI p)), some (.int (nI kk)), some (.int (nI (rw6 (O.own p) / 2 ^ (3 * (6 - kk))))), some (.int (nI q))]) (st' := [.ref o, .int (nI q)]) (w1 := (KC, I, J, GC)) rfl ?_
    refine mjT_gfi (v := nI O.n) rfl (Or.inl rfl) (pc' := 20) rfl hG.k0 (mo_at (hO.n) (by omega) (by omega)) ?_
    refine mjT_go 1 (pc' := if nI O.n ≤ nI q then 55 else 23) (L' := [some (.ref o), some (.int (nI p)), some (.int (nI kk)), some (.int (nI (rw6 (O.own p) / 2 ^ (3 * (6 - kk))))), some (.int (nI q))]) (st' := []) (w1 := (KC, I, J, GC)) rfl ?_
    refine mjT_ifF (nI_ge (by omega) (by omega)) ?_
    refine mjT_go 3 (pc' := if nI q = nI p then 49 else 29) (L' := [some (.ref o), some (.int (nI p)), some (.int (nI kk)), some (.int (nI (rw6 (O.own p) / 2 ^ (3 * (6 - kk))))), some (.int (nI q))]) (st' := []) (w1 := (KC, I, J, GC)) rfl ?_
    refine mjT_if_eq (u := q) (v := p) rfl rfl (by omega) (by omega) (fun h2 => ?_) (fun h2 => ?_)
    · refine mjT_go 2 (pc' := 14) (L' := [some (.ref o), some (.int (nI p)), some (.int (nI kk)), some (.int (nI (rw6 (O.own p) / 2 ^ (3 * (6 - kk))))), some (.int ((nI q) + (nI 1)))]) (st' := []) (w1 := (KC, I, J, GC)) rfl ?_
      rw [nI_add]
      exact hc _ _ ⟨rfl, rfl, by unfold blL; rw [if_neg (fun z => z.1 h2)]; exact hb⟩
    · refine mjT_go 1 (pc' := 30) (L' := [some (.ref o), some (.int (nI p)), some (.int (nI kk)), some (.int (nI (rw6 (O.own p) / 2 ^ (3 * (6 - kk))))), some (.int (nI q))]) (st' := [.ref o]) (w1 := (KC, I, J, GC)) rfl ?_
      refine mjT_gfr (h' := (o + 1)) rfl (pc' := 33) rfl hG.k0 hG.r1 ?_
      refine mjT_gfr (h' := (o + 2)) rfl (pc' := 36) rfl hG.k1 hG.r2 ?_
      refine mjT_go 1 (pc' := 38) (L' := [some (.ref o), some (.int (nI p)), some (.int (nI kk)), some (.int (nI (rw6 (O.own p) / 2 ^ (3 * (6 - kk))))), some (.int (nI q))]) (st' := [.int (nI q), .ref (o + 2)]) (w1 := (KC, I, J, GC)) rfl ?_
      refine mjT_ial (v := nI (rw6 (O.wr q))) q 7 rfl (pc' := 39) rfl hG.k2 rfl (by omega) (by omega) (mo_at (hO.wr q (show q < O.n by omega) (by first | trivial | assumption | simp_all)) (by omega) (by omega)) ?_
      refine mjT_go 1 (pc' := 40) (L' := [some (.ref o), some (.int (nI p)), some (.int (nI kk)), some (.int (nI (rw6 (O.own p) / 2 ^ (3 * (6 - kk))))), some (.int (nI q))]) (st' := [.int (nI kk), .int (nI (rw6 (O.wr q)))]) (w1 := (KC, I, J, GC)) rfl ?_
      refine mjT_callE (as := [.int (nI (rw6 (O.wr q))), .int (nI kk)]) (rest := []) (r1 := some (.int (nI (rw6 (O.wr q) / 2 ^ (3 * (6 - kk)))))) rfl rfl rfl rfl rfl ⟨rfl, rfl⟩ (c_firstStrokes (by omega) h1 h6) ?_
      refine mjT_go 2 (pc' := if ¬ nI (rw6 (O.wr q) / 2 ^ (3 * (6 - kk))) = nI (rw6 (O.own p) / 2 ^ (3 * (6 - kk))) then 49 else 47) (L' := [some (.ref o), some (.int (nI p)), some (.int (nI kk)), some (.int (nI (rw6 (O.own p) / 2 ^ (3 * (6 - kk))))), some (.int (nI q))]) (st' := []) (w1 := (KC, I, J, GC)) rfl ?_
      refine mjT_if_ne (u := rw6 (O.wr q) / 2 ^ (3 * (6 - kk))) (v := rw6 (O.own p) / 2 ^ (3 * (6 - kk))) rfl rfl (by omega) (by omega) (fun h3 => ?_) (fun h3 => ?_)
      · rw [Ne, hpre] at h3
        refine mjT_go 2 (pc' := 14) (L' := [some (.ref o), some (.int (nI p)), some (.int (nI kk)), some (.int (nI (rw6 (O.own p) / 2 ^ (3 * (6 - kk))))), some (.int ((nI q) + (nI 1)))]) (st' := []) (w1 := (KC, I, J, GC)) rfl ?_
        rw [nI_add]
        exact hc _ _ ⟨rfl, rfl, by unfold blL; rw [if_neg (fun z => h3 z.2)]; exact hb⟩
      · rw [hpre] at h3
        refine mjT_go 1 (pc' := 48) (L' := [some (.ref o), some (.int (nI p)), some (.int (nI kk)), some (.int (nI (rw6 (O.own p) / 2 ^ (3 * (6 - kk))))), some (.int (nI q))]) (st' := [.int (nI 1)]) (w1 := (KC, I, J, GC)) rfl ?_
        refine mjT_retb rfl rfl (by decide) ?_
        exact ⟨rfl, by rw [bl_one ⟨h2, h3⟩ hq]⟩
  · rintro _ _ ⟨rfl, rfl, hb⟩
    refine mjT_go 2 (pc' := 17) (L' := [some (.ref o), some (.int (nI p)), some (.int (nI kk)), some (.int (nI (rw6 (O.own p) / 2 ^ (3 * (6 - kk))))), some (.int (nI O.n))]) (st' := [.ref o, .int (nI O.n)]) (w1 := (KC, I, J, GC)) rfl ?_
    refine mjT_gfi (v := nI O.n) rfl (Or.inl rfl) (pc' := 20) rfl hG.k0 (mo_at (hO.n) (by omega) (by omega)) ?_
    refine mjT_go 1 (pc' := if nI O.n ≤ nI O.n then 55 else 23) (L' := [some (.ref o), some (.int (nI p)), some (.int (nI kk)), some (.int (nI (rw6 (O.own p) / 2 ^ (3 * (6 - kk))))), some (.int (nI O.n))]) (st' := []) (w1 := (KC, I, J, GC)) rfl ?_
    refine mjT_ifT (Int32.le_refl _) ?_
    refine mjT_go 1 (pc' := 56) (L' := [some (.ref o), some (.int (nI p)), some (.int (nI kk)), some (.int (nI (rw6 (O.own p) / 2 ^ (3 * (6 - kk))))), some (.int (nI O.n))]) (st' := [.int (nI 0)]) (w1 := (KC, I, J, GC)) rfl ?_
    refine mjT_retb rfl rfl (by decide) ?_
    exact ⟨rfl, by rw [hb]⟩
noncomputable def aSignature (S : Sta) (x : Int32) : Int32 := if iP x S.o.n = 1 then (if sgL S.o (nn x) S.o.n ≤ 6 then nI (sgL S.o (nn x) S.o.n) else -4) else -1
theorem cc_signature (hV : VS S) (hC : CW I J S) {x : Int32} : mj_E 99 [.ref 0, .int x] (KC, I, J, GC) (fun w' r => r = some (.int (aSignature S x)) ∧ ∃ I' J', w' = (KC, I', J', GC) ∧ CW I' J' S) := by
  have hn := hV.o.n
  have hp01 := ip01 x S.o.n
  unfold aSignature
  refine mjT_go 3 (pc' := 5) (L' := [some (.ref 0), some (.int x), none]) (st' := [.int x, .ref 1]) (w1 := (KC, I, J, GC)) rfl ?_
  refine mjT_callE (as := [.ref 1, .int x]) (rest := []) (r1 := some (.int (nI (iP x S.o.n)))) rfl rfl rfl rfl rfl ⟨rfl, rfl⟩ (c_has hV.o og_1 hC.o) ?_
  refine mjT_go 1 (pc' := if ¬ nI (iP x S.o.n) = 0 then 13 else 11) (L' := [some (.ref 0), some (.int x), none]) (st' := []) (w1 := (KC, I, J, GC)) rfl ?_
  refine mjT_if_ne (u := iP x S.o.n) (v := 0) rfl nI_0.symm (by omega) (by omega) (fun h1 => ?_) (fun h1 => ?_)
  rotate_left
  · rw [if_neg (by omega)]
    refine mjT_go 1 (pc' := 12) (L' := [some (.ref 0), some (.int x), none]) (st' := [.int (-1)]) (w1 := (KC, I, J, GC)) rfl ?_
    refine mjT_ret rfl rfl rfl ?_
    exact ⟨rfl, _, _, rfl, hC⟩
  rw [if_pos (show iP x S.o.n = 1 by omega)]
  obtain ⟨p, hp, rfl⟩ := iP_1 (x := x) (n := S.o.n) (by omega) (by omega)
  rw [nn_N (by omega)]
  have hsl := sgL_le S.o p S.o.n
  refine mjT_go 2 (pc' := 15) (L' := [some (.ref 0), some (.int (nI p)), some (.int (nI 1))]) (st' := []) (w1 := (KC, I, J, GC)) rfl ?_
  refine mj_loop (fun k L w => L = [some (.ref 0), some (.int (nI p)), some (.int (nI (k + 1)))] ∧ w = (KC, I, J, GC) ∧ k + 1 ≤ sgL S.o p S.o.n) 6 (k0 := 0) (Nat.zero_le _) ?_ ?_ ?_
  · exact ⟨rfl, rfl, hsl.1⟩
  · rintro k _ _ hk ⟨rfl, rfl, hb⟩ hc
    have hbs := bl_sg S.o p (k := k + 1) (by omega) S.o.n
    have hbl := blL_lt S.o p (k + 1) S.o.n
    refine mjT_go 3 (pc' := if nI 6 < nI (k + 1) then 41 else 21) (L' := [some (.ref 0), some (.int (nI p)), some (.int (nI (k + 1)))]) (st' := []) (w1 := (KC, I, J, GC)) rfl ?_
    refine mjT_ifF (nI_nlt (by omega) (by omega)) ?_
    refine mjT_go 4 (pc' := 27) (L' := [some (.ref 0), some (.int (nI p)), some (.int (nI (k + 1)))]) (st' := [.int (nI (k + 1)), .int (nI p), .ref 1]) (w1 := (KC, I, J, GC)) rfl ?_
    refine mjT_callE (as := [.ref 1, .int (nI p), .int (nI (k + 1))]) (rest := []) (r1 := some (.int (nI (blL S.o p (k + 1) S.o.n)))) rfl rfl rfl rfl rfl ⟨rfl, rfl⟩ (c_beginsLike hV.o og_1 hC.o hp (by omega) (by omega)) ?_
    refine mjT_go 1 (pc' := if ¬ nI (blL S.o p (k + 1) S.o.n) = 0 then 35 else 33) (L' := [some (.ref 0), some (.int (nI p)), some (.int (nI (k + 1)))]) (st' := []) (w1 := (KC, I, J, GC)) rfl ?_
    refine mjT_if_ne (u := blL S.o p (k + 1) S.o.n) (v := 0) rfl nI_0.symm (by omega) (by omega) (fun h3 => ?_) (fun h3 => ?_)
    · refine mjT_go 2 (pc' := 15) (L' := [some (.ref 0), some (.int (nI p)), some (.int ((nI (k + 1)) + (nI 1)))]) (st' := []) (w1 := (KC, I, J, GC)) rfl ?_
      rw [nI_add]
      exact hc _ _ ⟨rfl, rfl, by omega⟩
    · refine mjT_go 1 (pc' := 34) (L' := [some (.ref 0), some (.int (nI p)), some (.int (nI (k + 1)))]) (st' := [.int (nI (k + 1))]) (w1 := (KC, I, J, GC)) rfl ?_
      refine mjT_ret rfl rfl rfl ?_
      exact ⟨by rw [if_pos (by omega), show sgL S.o p S.o.n = k + 1 by omega], _, _, rfl, hC⟩
  · rintro _ _ ⟨rfl, rfl, hb⟩
    refine mjT_go 3 (pc' := if nI 6 < nI (6 + 1) then 41 else 21) (L' := [some (.ref 0), some (.int (nI p)), some (.int (nI (6 + 1)))]) (st' := []) (w1 := (KC, I, J, GC)) rfl ?_
    refine mjT_ifT (by decide) ?_
    refine mjT_go 1 (pc' := 43) (L' := [some (.ref 0), some (.int (nI p)), some (.int (nI (6 + 1)))]) (st' := [.int (-4)]) (w1 := (KC, I, J, GC)) rfl ?_
    refine mjT_ret rfl rfl rfl ?_
    exact ⟨by rw [if_neg (by omega)], _, _, rfl, hC⟩
theorem mm_signature (hV : VS S) (hM : MW I J S) {x : Int32} : mj_E 198 [.ref 0, .int x] (KM, I, J, GM) (fun w' r => r = some (.int (aSignature S x)) ∧ ∃ I' J', w' = (KM, I', J', GM) ∧ MW I' J' S) := by
  have hn := hV.o.n
  have hp01 := ip01 x S.o.n
  have hoL := hM.o
  unfold aSignature
  refine mjT_go 2 (pc' := 2) (L' := [some (.ref 0), some (.int x), none, none, none]) (st' := [.int x, .ref 0]) (w1 := (KM, I, J, GM)) rfl ?_
  refine mjT_callE (as := [.ref 0, .int x]) (rest := []) (r1 := some (.int (nI (iP x S.o.n)))) rfl rfl rfl rfl rfl ⟨rfl, rfl⟩ (m_isPerson hV.o hM.o) ?_
  refine mjT_go 1 (pc' := if ¬ nI (iP x S.o.n) = 0 then 10 else 8) (L' := [some (.ref 0), some (.int x), none, none, none]) (st' := []) (w1 := (KM, I, J, GM)) rfl ?_
  refine mjT_if_ne (u := iP x S.o.n) (v := 0) rfl nI_0.symm (by omega) (by omega) (fun h1 => ?_) (fun h1 => ?_)
  rotate_left
  · rw [if_neg (by omega)]
    refine mjT_go 1 (pc' := 9) (L' := [some (.ref 0), some (.int x), none, none, none]) (st' := [.int (-1)]) (w1 := (KM, I, J, GM)) rfl ?_
    refine mjT_ret rfl rfl rfl ?_
    exact ⟨rfl, _, _, rfl, hM⟩
  rw [if_pos (show iP x S.o.n = 1 by omega)]
  obtain ⟨p, hp, rfl⟩ := iP_1 (x := x) (n := S.o.n) (by omega) (by omega)
  rw [nn_N (by omega)]
  have hsl := sgL_le S.o p S.o.n
  refine mjT_go 4 (pc' := 14) (L' := [some (.ref 0), some (.int (nI p)), some (.int (nI 1)), some (.int (nI 0)), none]) (st' := []) (w1 := (KM, I, J, GM)) rfl ?_
  refine mj_loop (fun k L w => ∃ d : Option Value, L = [some (.ref 0), some (.int (nI p)), some (.int (nI (sgL S.o p k))), some (.int (nI k)), d] ∧ w = (KM, I, J, GM)) S.o.n (k0 := 0) (Nat.zero_le _) ?_ ?_ ?_
  · exact ⟨_, rfl, rfl⟩
  · rintro q _ _ hq ⟨d, rfl, rfl⟩ hc
    have hsq := sgL_le S.o p q
    have hfl := fd_le (S.o.wr q) (S.o.own p)
    refine mjT_go 4 (pc' := 22) (L' := [some (.ref 0), some (.int (nI p)), some (.int (nI (sgL S.o p q))), some (.int (nI q)), d]) (st' := [.int (nI 147), .ref 1, .int (nI q)]) (w1 := (KM, I, J, GM)) rfl ?_
    refine mjT_ial (v := nI S.o.n) 147 1840 rfl (pc' := 23) rfl rfl rfl (by omega) (by omega) (mo_at hoL.n rfl (by omega)) ?_
    refine mjT_go 1 (pc' := if nI S.o.n ≤ nI q then 107 else 26) (L' := [some (.ref 0), some (.int (nI p)), some (.int (nI (sgL S.o p q))), some (.int (nI q)), d]) (st' := []) (w1 := (KM, I, J, GM)) rfl ?_
    refine mjT_ifF (nI_ge (by omega) (by omega)) ?_
    refine mjT_go 2 (pc' := 29) (L' := [some (.ref 0), some (.int (nI p)), some (.int (nI (sgL S.o p q))), some (.int (nI q)), some (.int (nI 0))]) (st' := []) (w1 := (KM, I, J, GM)) rfl ?_
    by_cases hqp : q = p
    · have e : sgL S.o p (q + 1) = sgL S.o p q := if_neg (fun z => z.1 hqp)
      refine mjT_go 3 (pc' := if nI q = nI p then 79 else 34) (L' := [some (.ref 0), some (.int (nI p)), some (.int (nI (sgL S.o p q))), some (.int (nI q)), some (.int (nI 0))]) (st' := []) (w1 := (KM, I, J, GM)) rfl ?_
      refine mjT_ifT (by rw [hqp]) ?_
      refine mjT_go 3 (pc' := if nI q = nI p then 99 else 84) (L' := [some (.ref 0), some (.int (nI p)), some (.int (nI (sgL S.o p q))), some (.int (nI q)), some (.int (nI 0))]) (st' := []) (w1 := (KM, I, J, GM)) rfl ?_
      refine mjT_ifT (by rw [hqp]) ?_
      refine mjT_go 4 (pc' := 14) (L' := [some (.ref 0), some (.int (nI p)), some (.int (nI (sgL S.o p q))), some (.int ((nI q) + (nI 1))), some (.int (nI 0))]) (st' := []) (w1 := (KM, I, J, GM)) rfl ?_
      rw [nI_add, ← e]
      exact hc _ _ ⟨_, rfl, rfl⟩
    · have hne : ¬ nI q = nI p := fun z => hqp ((nI_eq (by omega) (by omega)).mp z)
      obtain ⟨f, hf⟩ : ∃ f, fdN (S.o.wr q) (S.o.own p) = f := ⟨_, rfl⟩
      rw [hf] at hfl
      refine mj_loop (fun k L w => L = [some (.ref 0), some (.int (nI p)), some (.int (nI (sgL S.o p q))), some (.int (nI q)), some (.int (nI k))] ∧ w = (KM, I, J, GM)) f (k0 := 0) (Nat.zero_le _) ?_ ?_ ?_
      · exact ⟨rfl, rfl⟩
      · rintro k _ _ hk ⟨rfl, rfl⟩ hcq
        have heq : S.o.wr q k = S.o.own p k := (fd_pre (k := f) (d := S.o.wr q) (e := S.o.own p) hfl).mpr (by omega) k hk
        have hw8 := hV.o.wr q hq k (by omega)
        refine mjT_go 3 (pc' := if nI q = nI p then 79 else 34) (L' := [some (.ref 0), some (.int (nI p)), some (.int (nI (sgL S.o p q))), some (.int (nI q)), some (.int (nI k))]) (st' := []) (w1 := (KM, I, J, GM)) rfl ?_
        refine mjT_ifF hne ?_
        refine mjT_go 3 (pc' := if nI 6 ≤ nI k then 79 else 41) (L' := [some (.ref 0), some (.int (nI p)), some (.int (nI (sgL S.o p q))), some (.int (nI q)), some (.int (nI k))]) (st' := []) (w1 := (KM, I, J, GM)) rfl ?_
        refine mjT_ifF (nI_ge (by omega) (by omega)) ?_
        refine mjT_go 9 (pc' := 55) (L' := [some (.ref 0), some (.int (nI p)), some (.int (nI (sgL S.o p q))), some (.int (nI q)), some (.int (nI k))]) (st' := [.int ((((nI 21) * (nI q)) + (nI 9)) + (nI k)), .ref 1]) (w1 := (KM, I, J, GM)) rfl ?_
        refine mjT_ial (v := nI (S.o.wr q k)) (((21 * q) + 9) + k) 1840 rfl (pc' := 56) rfl rfl (by simp only [nI_add, pk_mul]) (by omega) (by omega) (mo_at (show I 1 (21 * q + 9 + k) = nI (S.o.wr q k) from (mo_at (hoL.wr q hq k (by omega)) rfl (by omega))) (by omega) (by omega)) ?_
        refine mjT_go 9 (pc' := 69) (L' := [some (.ref 0), some (.int (nI p)), some (.int (nI (sgL S.o p q))), some (.int (nI q)), some (.int (nI k))]) (st' := [.int ((((nI 21) * (nI p)) + (nI 3)) + (nI k)), .ref 1, .int (nI (S.o.wr q k))]) (w1 := (KM, I, J, GM)) rfl ?_
        refine mjT_ial (v := nI (S.o.own p k)) (((21 * p) + 3) + k) 1840 rfl (pc' := 70) rfl rfl (by simp only [nI_add, pk_mul]) (by omega) (by omega) (mo_at (show I 1 (21 * p + 3 + k) = nI (S.o.own p k) from (mo_at (hoL.own p hp k (by omega)) rfl (by omega))) (by omega) (by omega)) ?_
        refine mjT_go 1 (pc' := if ¬ nI (S.o.wr q k) = nI (S.o.own p k) then 79 else 73) (L' := [some (.ref 0), some (.int (nI p)), some (.int (nI (sgL S.o p q))), some (.int (nI q)), some (.int (nI k))]) (st' := []) (w1 := (KM, I, J, GM)) rfl ?_
        refine mjT_ifF (fun z => z (by rw [heq])) ?_
        refine mjT_go 2 (pc' := 29) (L' := [some (.ref 0), some (.int (nI p)), some (.int (nI (sgL S.o p q))), some (.int (nI q)), some (.int ((nI k) + (nI 1)))]) (st' := []) (w1 := (KM, I, J, GM)) rfl ?_
        rw [nI_add]
        exact hcq _ _ ⟨rfl, rfl⟩
      · rintro _ _ ⟨rfl, rfl⟩
        refine mjT_cut (P := fun _ => True) (pc1 := 79) (L1 := fun _ => [some (.ref 0), some (.int (nI p)), some (.int (nI (sgL S.o p q))), some (.int (nI q)), some (.int (nI f))]) (st1 := fun _ => []) (w1 := fun _ => (KM, I, J, GM)) (fun b _ => ?_) (fun cut => ?_)
        · refine mjT_go 3 (pc' := if nI q = nI p then 99 else 84) (L' := [some (.ref 0), some (.int (nI p)), some (.int (nI (sgL S.o p q))), some (.int (nI q)), some (.int (nI f))]) (st' := []) (w1 := (KM, I, J, GM)) rfl ?_
          refine mjT_ifF hne ?_
          refine mjT_go 3 (pc' := 88) (L' := [some (.ref 0), some (.int (nI p)), some (.int (nI (sgL S.o p q))), some (.int (nI q)), some (.int (nI f))]) (st' := [.int ((nI f) + (nI 1))]) (w1 := (KM, I, J, GM)) rfl ?_
          refine mjT_go 1 (pc' := 89) (L' := [some (.ref 0), some (.int (nI p)), some (.int (nI (sgL S.o p q))), some (.int (nI q)), some (.int (nI f))]) (st' := [.int (nI (sgL S.o p q)), .int ((nI f) + (nI 1))]) (w1 := (KM, I, J, GM)) rfl ?_
          rw [nI_add]
          refine mjT_go 1 (pc' := if nI (f + 1) ≤ nI (sgL S.o p q) then 99 else 92) (L' := [some (.ref 0), some (.int (nI p)), some (.int (nI (sgL S.o p q))), some (.int (nI q)), some (.int (nI f))]) (st' := []) (w1 := (KM, I, J, GM)) rfl ?_
          refine mjT_if_le (u := f + 1) (v := sgL S.o p q) rfl rfl (by omega) (by omega) (fun h4 => ?_) (fun h4 => ?_)
          · have e : sgL S.o p (q + 1) = sgL S.o p q := if_neg (fun z => by rw [hf] at z; omega)
            refine mjT_go 4 (pc' := 14) (L' := [some (.ref 0), some (.int (nI p)), some (.int (nI (sgL S.o p q))), some (.int ((nI q) + (nI 1))), some (.int (nI f))]) (st' := []) (w1 := (KM, I, J, GM)) rfl ?_
            rw [nI_add, ← e]
            exact hc _ _ ⟨_, rfl, rfl⟩
          · have e : sgL S.o p (q + 1) = f + 1 := by unfold sgL; rw [hf, if_pos ⟨hqp, h4⟩]
            refine mjT_go 7 (pc' := 14) (L' := [some (.ref 0), some (.int (nI p)), some (.int ((nI f) + (nI 1))), some (.int ((nI q) + (nI 1))), some (.int (nI f))]) (st' := []) (w1 := (KM, I, J, GM)) rfl ?_
            rw [nI_add, nI_add, ← e]
            exact hc _ _ ⟨_, rfl, rfl⟩
        · refine mjT_go 3 (pc' := if nI q = nI p then 79 else 34) (L' := [some (.ref 0), some (.int (nI p)), some (.int (nI (sgL S.o p q))), some (.int (nI q)), some (.int (nI f))]) (st' := []) (w1 := (KM, I, J, GM)) rfl ?_
          refine mjT_ifF hne ?_
          refine mjT_go 3 (pc' := if nI 6 ≤ nI f then 79 else 41) (L' := [some (.ref 0), some (.int (nI p)), some (.int (nI (sgL S.o p q))), some (.int (nI q)), some (.int (nI f))]) (st' := []) (w1 := (KM, I, J, GM)) rfl ?_
          refine mjT_if_le (u := 6) (v := f) rfl rfl (by omega) (by omega) (fun h5 => ?_) (fun h5 => ?_)
          · exact cut 0 trivial
          · have hd : S.o.wr q f ≠ S.o.own p f := fun z => by
              rcases fd_cases (S.o.wr q) (S.o.own p) with ⟨g1, _⟩ | ⟨g1, g2, _⟩
              · omega
              · rw [hf] at g2; exact g2 z
            have hw8 := hV.o.wr q hq f (by omega)
            have ho8 := hV.o.own p hp f (by omega)
            refine mjT_go 9 (pc' := 55) (L' := [some (.ref 0), some (.int (nI p)), some (.int (nI (sgL S.o p q))), some (.int (nI q)), some (.int (nI f))]) (st' := [.int ((((nI 21) * (nI q)) + (nI 9)) + (nI f)), .ref 1]) (w1 := (KM, I, J, GM)) rfl ?_
            refine mjT_ial (v := nI (S.o.wr q f)) (((21 * q) + 9) + f) 1840 rfl (pc' := 56) rfl rfl (by simp only [nI_add, pk_mul]) (by omega) (by omega) (mo_at (show I 1 (21 * q + 9 + f) = nI (S.o.wr q f) from (mo_at (hoL.wr q hq f (by omega)) rfl (by omega))) (by omega) (by omega)) ?_
            refine mjT_go 9 (pc' := 69) (L' := [some (.ref 0), some (.int (nI p)), some (.int (nI (sgL S.o p q))), some (.int (nI q)), some (.int (nI f))]) (st' := [.int ((((nI 21) * (nI p)) + (nI 3)) + (nI f)), .ref 1, .int (nI (S.o.wr q f))]) (w1 := (KM, I, J, GM)) rfl ?_
            refine mjT_ial (v := nI (S.o.own p f)) (((21 * p) + 3) + f) 1840 rfl (pc' := 70) rfl rfl (by simp only [nI_add, pk_mul]) (by omega) (by omega) (mo_at (show I 1 (21 * p + 3 + f) = nI (S.o.own p f) from (mo_at (hoL.own p hp f (by omega)) rfl (by omega))) (by omega) (by omega)) ?_
            refine mjT_go 1 (pc' := if ¬ nI (S.o.wr q f) = nI (S.o.own p f) then 79 else 73) (L' := [some (.ref 0), some (.int (nI p)), some (.int (nI (sgL S.o p q))), some (.int (nI q)), some (.int (nI f))]) (st' := []) (w1 := (KM, I, J, GM)) rfl ?_
            refine mjT_ifT (fun z => hd ((nI_eq (by omega) (by omega)).mp z)) ?_
            exact cut 0 trivial
  · rintro _ _ ⟨d, rfl, rfl⟩
    refine mjT_go 4 (pc' := 22) (L' := [some (.ref 0), some (.int (nI p)), some (.int (nI (sgL S.o p S.o.n))), some (.int (nI S.o.n)), d]) (st' := [.int (nI 147), .ref 1, .int (nI S.o.n)]) (w1 := (KM, I, J, GM)) rfl ?_
    refine mjT_ial (v := nI S.o.n) 147 1840 rfl (pc' := 23) rfl rfl rfl (by omega) (by omega) (mo_at hoL.n rfl (by omega)) ?_
    refine mjT_go 1 (pc' := if nI S.o.n ≤ nI S.o.n then 107 else 26) (L' := [some (.ref 0), some (.int (nI p)), some (.int (nI (sgL S.o p S.o.n))), some (.int (nI S.o.n)), d]) (st' := []) (w1 := (KM, I, J, GM)) rfl ?_
    refine mjT_ifT (Int32.le_refl _) ?_
    refine mjT_go 3 (pc' := if nI (sgL S.o p S.o.n) ≤ nI 6 then 118 else 113) (L' := [some (.ref 0), some (.int (nI p)), some (.int (nI (sgL S.o p S.o.n))), some (.int (nI S.o.n)), d]) (st' := []) (w1 := (KM, I, J, GM)) rfl ?_
    refine mjT_if_le (u := sgL S.o p S.o.n) (v := 6) rfl rfl (by omega) (by omega) (fun h6 => ?_) (fun h6 => ?_)
    · refine mjT_go 1 (pc' := 119) (L' := [some (.ref 0), some (.int (nI p)), some (.int (nI (sgL S.o p S.o.n))), some (.int (nI S.o.n)), d]) (st' := [.int (nI (sgL S.o p S.o.n))]) (w1 := (KM, I, J, GM)) rfl ?_
      refine mjT_ret rfl rfl rfl ?_
      exact ⟨by rw [if_pos h6], _, _, rfl, hM⟩
    · refine mjT_go 2 (pc' := 119) (L' := [some (.ref 0), some (.int (nI p)), some (.int (nI (sgL S.o p S.o.n))), some (.int (nI S.o.n)), d]) (st' := [.int (-4)]) (w1 := (KM, I, J, GM)) rfl ?_
      refine mjT_ret rfl rfl rfl ?_
      exact ⟨by rw [if_neg (by omega)], _, _, rfl, hM⟩
theorem sim_signature {x : Int32} : SimO 99 198 [.int x] := fun S _ _ _ _ hV hC hM => ⟨S, _, hV, cc_signature hV hC, mm_signature hV hM⟩
end OP7
