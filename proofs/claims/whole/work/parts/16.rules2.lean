/-! rules on cells, with facts for what is read -/
section RU
variable {y pc pc' h n i : Nat} {L : mjL} {st : List Value} {K : List (Nat × Nat)} {I I' : Nat → Nat → Int32} {J J' : Nat → Nat → Int64} {G : Nat → Nat → Option Nat} {ix a b d : Nat} {w' : mjW} {r : Option Value}
theorem mj_gfi {k : Int} {v : Int32} (hc : mj_code y pc = some (.getfield ix, 3, a, b, d, k)) (hk0 : k = 0 ∨ k = 1) (hp : pc + 3 = pc') (hk : mj_kd (K, I, J, G) h = (0, a)) (hv : I h b = v) (g : mj_Go y pc' L (.int v :: st) (K, I, J, G) w' r) : mj_Go y pc L (.ref h :: st) (K, I, J, G) w' r := by
  subst hp
  subst hv
  refine mj_step1 (C := (pc + 3, L, .int (I h b) :: st, (K, I, J, G), 0, 0)) hc rfl ?_ rfl g
  rcases hk0 with rfl | rfl <;> simp [mj_sim, mj_pr, hk]
theorem mj_gfr {h' : Nat} (hc : mj_code y pc = some (.getfield ix, 3, a, b, d, 2)) (hp : pc + 3 = pc') (hk : mj_kd (K, I, J, G) h = (0, a)) (hg : G h b = some h') (g : mj_Go y pc' L (.ref h' :: st) (K, I, J, G) w' r) : mj_Go y pc L (.ref h :: st) (K, I, J, G) w' r := by
  subst hp
  refine mj_step1 (C := (pc + 3, L, .ref h' :: st, (K, I, J, G), 0, 0)) hc rfl ?_ rfl g
  simp only [mj_sim, mj_pr]
  rw [if_pos hk]
  show some (pc + 3, L, va_rf (G h b) :: st, (K, I, J, G), 0, 0) = _
  rw [hg]
  rfl
theorem mj_pfi {v : Int32} (hc : mj_code y pc = some (.putfield ix, 3, a, b, d, 0)) (hp : pc + 3 = pc') (hk : mj_kd (K, I, J, G) h = (0, a)) (hI : mj_row I h (va_up (I h) b v) = I') (g : mj_Go y pc' L st (K, I', J, G) w' r) : mj_Go y pc L (.int v :: .ref h :: st) (K, I, J, G) w' r := by
  subst hp
  subst hI
  refine mj_step1 (C := (pc + 3, L, st, (K, mj_row I h (va_up (I h) b v), J, G), 0, 0)) hc rfl ?_ rfl g
  simp only [mj_sim, mj_pir]
  rw [if_pos hk]
  rfl
theorem mj_pfb {v : Int32} (hc : mj_code y pc = some (.putfield ix, 3, a, b, d, 1)) (hp : pc + 3 = pc') (hk : mj_kd (K, I, J, G) h = (0, a)) (hv : v = 0 ∨ v = 1) (hI : mj_row I h (va_up (I h) b v) = I') (g : mj_Go y pc' L st (K, I', J, G) w' r) : mj_Go y pc L (.int v :: .ref h :: st) (K, I, J, G) w' r := by
  subst hp
  subst hI
  refine mj_step1 (C := (pc + 3, L, st, (K, mj_row I h (va_up (I h) b v), J, G), 0, 0)) hc rfl ?_ rfl g
  simp only [mj_sim, mj_pir]
  rw [if_pos hk, if_pos hv]
  exact if_pos hk
theorem mj_ix_ok {w : mjW} {kd : Nat} {x : Int32} {f : Option mjC} (hk : mj_kd w h = (kd, n)) (hi : i < n) (hn : n < 2 ^ 31) (hx : x = nI i) : mj_ix w h kd x f = f ∧ x.toNatClampNeg = i := by
  subst hx
  have h1 : (nI i).toNatClampNeg = i := nI_clamp (by omega)
  refine ⟨?_, h1⟩
  unfold mj_ix
  rw [hk, if_pos rfl, h1]
  rw [if_neg (fun z => z.elim (nI_pos (by omega)) (fun z => by omega))]
theorem mj_ial {x v : Int32} (i n : Nat) (hc : mj_code y pc = some (.iaload, 1, a, b, d, 0)) (hp : pc + 1 = pc') (hk : mj_kd (K, I, J, G) h = (1, n)) (hx : x = nI i) (hi : i < n) (hn : n < 2 ^ 31) (hv : I h i = v) (g : mj_Go y pc' L (.int v :: st) (K, I, J, G) w' r) : mj_Go y pc L (.int x :: .ref h :: st) (K, I, J, G) w' r := by
  subst hp
  subst hv
  obtain ⟨e1, e2⟩ := mj_ix_ok (f := some (pc + 1, L, .int (I h x.toNatClampNeg) :: st, (K, I, J, G), 0, 0)) hk hi hn hx
  refine mj_step1 (C := (pc + 1, L, .int (I h i) :: st, (K, I, J, G), 0, 0)) hc rfl ?_ rfl g
  refine Eq.trans e1 ?_
  rw [e2]
theorem mj_ias {x v : Int32} (i n : Nat) (hc : mj_code y pc = some (.iastore, 1, a, b, d, 0)) (hp : pc + 1 = pc') (hk : mj_kd (K, I, J, G) h = (1, n)) (hx : x = nI i) (hi : i < n) (hn : n < 2 ^ 31) (hI : mj_row I h (va_up (I h) i v) = I') (g : mj_Go y pc' L st (K, I', J, G) w' r) : mj_Go y pc L (.int v :: .int x :: .ref h :: st) (K, I, J, G) w' r := by
  subst hp
  subst hI
  obtain ⟨e1, e2⟩ := mj_ix_ok (f := some (pc + 1, L, st, (K, mj_row I h (va_up (I h) x.toNatClampNeg v), J, G), 0, 0)) hk hi hn hx
  refine mj_step1 (C := (pc + 1, L, st, (K, mj_row I h (va_up (I h) i v), J, G), 0, 0)) hc rfl ?_ rfl g
  refine Eq.trans e1 ?_
  rw [e2]
theorem mj_lal {x : Int32} {v : Int64} (i n : Nat) (hc : mj_code y pc = some (.laload, 1, a, b, d, 0)) (hp : pc + 1 = pc') (hk : mj_kd (K, I, J, G) h = (2, n)) (hx : x = nI i) (hi : i < n) (hn : n < 2 ^ 31) (hv : J h i = v) (g : mj_Go y pc' L (.long v :: st) (K, I, J, G) w' r) : mj_Go y pc L (.int x :: .ref h :: st) (K, I, J, G) w' r := by
  subst hp
  subst hv
  obtain ⟨e1, e2⟩ := mj_ix_ok (f := some (pc + 1, L, .long (J h x.toNatClampNeg) :: st, (K, I, J, G), 0, 0)) hk hi hn hx
  refine mj_step1 (C := (pc + 1, L, .long (J h i) :: st, (K, I, J, G), 0, 0)) hc rfl ?_ rfl g
  refine Eq.trans e1 ?_
  rw [e2]
theorem mj_las {x : Int32} {v : Int64} (i n : Nat) (hc : mj_code y pc = some (.lastore, 1, a, b, d, 0)) (hp : pc + 1 = pc') (hk : mj_kd (K, I, J, G) h = (2, n)) (hx : x = nI i) (hi : i < n) (hn : n < 2 ^ 31) (hJ : mj_row J h (va_up (J h) i v) = J') (g : mj_Go y pc' L st (K, I, J', G) w' r) : mj_Go y pc L (.long v :: .int x :: .ref h :: st) (K, I, J, G) w' r := by
  subst hp
  subst hJ
  obtain ⟨e1, e2⟩ := mj_ix_ok (f := some (pc + 1, L, st, (K, I, mj_row J h (va_up (J h) x.toNatClampNeg v), G), 0, 0)) hk hi hn hx
  refine mj_step1 (C := (pc + 1, L, st, (K, I, mj_row J h (va_up (J h) i v), G), 0, 0)) hc rfl ?_ rfl g
  refine Eq.trans e1 ?_
  rw [e2]
theorem mj_aal {x : Int32} {kd h' : Nat} (i n : Nat) (hc : mj_code y pc = some (.aaload, 1, a, b, d, 0)) (hp : pc + 1 = pc') (hkd : kd = 3 ∨ kd = 4) (hk : mj_kd (K, I, J, G) h = (kd, n)) (hx : x = nI i) (hi : i < n) (hn : n < 2 ^ 31) (hv : G h i = some h') (g : mj_Go y pc' L (.ref h' :: st) (K, I, J, G) w' r) : mj_Go y pc L (.int x :: .ref h :: st) (K, I, J, G) w' r := by
  subst hp
  obtain ⟨e1, e2⟩ := mj_ix_ok (f := some (pc + 1, L, va_rf (G h x.toNatClampNeg) :: st, (K, I, J, G), 0, 0)) hk hi hn hx
  refine mj_step1 (C := (pc + 1, L, .ref h' :: st, (K, I, J, G), 0, 0)) hc rfl ?_ rfl g
  rcases hkd with rfl | rfl
  · show (if (mj_kd (K, I, J, G) h).1 = 4 then _ else _) = _
    rw [if_neg (by rw [hk]; show ¬ (3 : Nat) = 4; decide)]
    refine Eq.trans e1 ?_
    rw [e2, hv]
    rfl
  · show (if (mj_kd (K, I, J, G) h).1 = 4 then _ else _) = _
    rw [if_pos (by rw [hk])]
    refine Eq.trans e1 ?_
    rw [e2, hv]
    rfl
/-- ints are copied, whole ranges -/
theorem mj_cpi {h2 n2 sp dp m : Nat} {xs xd xn : Int32} (hc : mj_code y pc = some (.invokestatic ix, 3, 6, b, d, 0)) (hp : pc + 3 = pc') (hk : mj_kd (K, I, J, G) h = (1, n)) (hk2 : mj_kd (K, I, J, G) h2 = (1, n2)) (hs : xs = nI sp) (hd : xd = nI dp) (hn : xn = nI m) (h1 : sp + m ≤ n) (h2' : dp + m ≤ n2) (hb : n < 2 ^ 31 ∧ n2 < 2 ^ 31) (hr8 : (st.map Value.category).sum ≤ 8)
    (hI : mj_row I h2 (va_cpy (I h) (I h2) sp dp m) = I') (g : mj_Go y pc' L st (K, I', J, G) w' r) : mj_Go y pc L (.int xn :: .int xd :: .ref h2 :: .int xs :: .ref h :: st) (K, I, J, G) w' r := by
  subst hp
  subst hI
  subst hs
  subst hd
  subst hn
  have c1 : (nI sp).toNatClampNeg = sp := nI_clamp (by omega)
  have c2 : (nI dp).toNatClampNeg = dp := nI_clamp (by omega)
  have c3 : (nI m).toNatClampNeg = m := nI_clamp (by omega)
  refine mj_step1 (C := (pc + 3, L, st, (K, mj_row I h2 (va_cpy (I h) (I h2) sp dp m), J, G), 0, 0)) hc rfl ?_ rfl g
  simp only [mj_sim, mj_pcp, mj_r8]
  rw [if_pos hr8, hk, hk2, c1, c2, c3, if_neg, if_pos ⟨rfl, rfl⟩]
  rintro (z | z | z | z | z)
  · exact nI_pos (by omega) z
  · exact nI_pos (by omega) z
  · exact nI_pos (by omega) z
  · exact absurd z (Nat.not_lt.mpr h1)
  · exact absurd z (Nat.not_lt.mpr h2')
/-- a call on an object -/
theorem mj_callI {z ln d' : Nat} {k : Int} {ins : Instr} {h : Nat} {w : mjW} {rest : List Value} (ha : a = 0) (hdr : st.drop k.toNat = .ref h :: rest) (hk : mj_kd w h = (0, mj_ci z)) : mj_call (ins, ln, a, z, d', k) st w = some (.ref h :: (st.take k.toNat).reverse, rest) := by
  subst ha
  simp only [mj_call, hdr]
  exact if_pos hk
/-- conditions on small numbers -/
theorem mj_if_le {u v : Nat} {x z : Int32} {w : mjW} {t f : Nat} (hx : x = nI u) (hz : z = nI v) (hu : u < 2 ^ 31) (hv : v < 2 ^ 31) (h1 : u ≤ v → mj_Go y t L st w w' r) (h2 : v < u → mj_Go y f L st w w' r) : mj_Go y (if x ≤ z then t else f) L st w w' r := by
  subst hx; subst hz
  exact mj_if (fun h => h1 ((nI_leI hu hv).mp h)) (fun h => h2 (Nat.lt_of_not_le fun q => h ((nI_leI hu hv).mpr q)))
theorem mj_if_lt {u v : Nat} {x z : Int32} {w : mjW} {t f : Nat} (hx : x = nI u) (hz : z = nI v) (hu : u < 2 ^ 31) (hv : v < 2 ^ 31) (h1 : u < v → mj_Go y t L st w w' r) (h2 : v ≤ u → mj_Go y f L st w w' r) : mj_Go y (if x < z then t else f) L st w w' r := by
  subst hx; subst hz
  exact mj_if (fun h => h1 ((nI_ltI hu hv).mp h)) (fun h => h2 (Nat.le_of_not_lt fun q => h ((nI_ltI hu hv).mpr q)))
theorem mj_if_eq {u v : Nat} {x z : Int32} {w : mjW} {t f : Nat} (hx : x = nI u) (hz : z = nI v) (hu : u < 2 ^ 31) (hv : v < 2 ^ 31) (h1 : u = v → mj_Go y t L st w w' r) (h2 : u ≠ v → mj_Go y f L st w w' r) : mj_Go y (if x = z then t else f) L st w w' r := by
  subst hx; subst hz
  exact mj_if (fun h => h1 ((nI_eq hu hv).mp h)) (fun h => h2 (fun q => h ((nI_eq hu hv).mpr q)))
theorem mj_if_ne {u v : Nat} {x z : Int32} {w : mjW} {t f : Nat} (hx : x = nI u) (hz : z = nI v) (hu : u < 2 ^ 31) (hv : v < 2 ^ 31) (h1 : u ≠ v → mj_Go y t L st w w' r) (h2 : u = v → mj_Go y f L st w w' r) : mj_Go y (if ¬ x = z then t else f) L st w w' r := by
  subst hx; subst hz
  exact mj_if (fun h => h1 (fun q => h ((nI_eq hu hv).mpr q))) (fun h => h2 (Decidable.byContradiction fun q => h (fun z => q ((nI_eq hu hv).mp z))))
theorem mj_ifT {cd : Prop} [Decidable cd] {w : mjW} {t f : Nat} (hcd : cd) (g : mj_Go y t L st w w' r) : mj_Go y (if cd then t else f) L st w w' r := by rw [if_pos hcd]; exact g
theorem mj_ifF {cd : Prop} [Decidable cd] {w : mjW} {t f : Nat} (hcd : ¬ cd) (g : mj_Go y f L st w w' r) : mj_Go y (if cd then t else f) L st w w' r := by rw [if_neg hcd]; exact g
end RU
