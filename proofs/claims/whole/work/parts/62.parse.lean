/-! the tape, read: positions, letters, tokens -/
def skF (tp : Nat → Nat) (tl : Nat) : Nat → Nat → Nat
  | 0, p => p
  | f + 1, p => if p < tl ∧ tp p = 32 then skF tp tl f (p + 1) else p
def skN (tp : Nat → Nat) (tl p : Nat) : Nat := skF tp tl (tl - p) p
theorem sk_f (tp : Nat → Nat) (tl : Nat) : ∀ f p, tl - p ≤ f → p ≤ skF tp tl f p ∧ (p ≤ tl → skF tp tl f p ≤ tl) ∧ ¬ (skF tp tl f p < tl ∧ tp (skF tp tl f p) = 32) ∧ ∀ j, p ≤ j → j < skF tp tl f p → j < tl ∧ tp j = 32
  | 0, p, h => ⟨Nat.le_refl _, fun q => q, fun q => absurd (show p < tl from q.1) (by omega), fun j h1 h2 => absurd (show j < p from h2) (by omega)⟩
  | f + 1, p, h => by
    unfold skF
    by_cases c : p < tl ∧ tp p = 32
    · rw [if_pos c]
      obtain ⟨h1, h2, h3, h4⟩ := sk_f tp tl f (p + 1) (by omega)
      refine ⟨by omega, fun q => h2 (by omega), h3, fun j j1 j2 => ?_⟩
      by_cases e : j = p
      · rw [e]; exact c
      · exact h4 j (by omega) j2
    · rw [if_neg c]
      exact ⟨Nat.le_refl _, fun q => q, c, fun j j1 j2 => absurd j2 (by omega)⟩
theorem sk_ge (tp : Nat → Nat) (tl p : Nat) : p ≤ skN tp tl p := (sk_f tp tl _ p (Nat.le_refl _)).1
theorem sk_le {tp : Nat → Nat} {tl p : Nat} (h : p ≤ tl) : skN tp tl p ≤ tl := (sk_f tp tl _ p (Nat.le_refl _)).2.1 h
theorem sk_st (tp : Nat → Nat) (tl p : Nat) : ¬ (skN tp tl p < tl ∧ tp (skN tp tl p) = 32) := (sk_f tp tl _ p (Nat.le_refl _)).2.2.1
theorem sk_in {tp : Nat → Nat} {tl p j : Nat} (h1 : p ≤ j) (h2 : j < skN tp tl p) : j < tl ∧ tp j = 32 := (sk_f tp tl _ p (Nat.le_refl _)).2.2.2 j h1 h2
theorem sk_id {tp : Nat → Nat} {tl p : Nat} (h : ¬ (p < tl ∧ tp p = 32)) : skN tp tl p = p := by
  have h1 := sk_ge tp tl p
  by_cases e : skN tp tl p = p
  · exact e
  · exact absurd (sk_in (Nat.le_refl p) (show p < skN tp tl p by omega)) h
theorem sk_sk (tp : Nat → Nat) (tl p : Nat) : skN tp tl (skN tp tl p) = skN tp tl p := sk_id (sk_st tp tl p)
/-- the letter there, one more; 0: the end -/
def lcA (tp : Nat → Nat) (tl q : Nat) : Nat := if q < tl then tp q + 1 else 0
def kdC (c : Nat) : Nat := if c = 113 then 1 else if c = 116 then 2 else if c = 109 then 3 else if c = 117 then 4 else 0
def dgC (c g : Nat) : Nat := if 49 ≤ c ∧ c ≤ 49 + g then c - 48 else 0
theorem kd_lt (c : Nat) : kdC c ≤ 4 := by
  unfold kdC
  split
  · omega
  · split
    · omega
    · split
      · omega
      · split <;> omega
theorem dg_le (c g : Nat) : dgC c g ≤ g + 1 := by unfold dgC; split <;> omega
def qN (tp : Nat → Nat) (tl p : Nat) : Nat → Nat
  | 0 => skN tp tl p
  | i + 1 => skN tp tl (qN tp tl p i + 1)
def tkN (tp : Nat → Nat) (tl p i : Nat) : Nat := lcA tp tl (qN tp tl p i)
def gdN (tp : Nat → Nat) (tl : Nat) (E : Off) (p i : Nat) : Nat := if i = 0 then kdC (tkN tp tl p 0) else if i = 1 then dgC (tkN tp tl p 1) 9 else if i < 8 then dgC (tkN tp tl p i) 7 else if i = 8 then (if tkN tp tl p 8 = 65 then 1 else 0) else (if sitr E (dgC (tkN tp tl p 9) 7 - 1) = 0 then dgC (tkN tp tl p 9) 7 else 0)
section GD
variable {tp : Nat → Nat} {tl p : Nat} {E : Off}
theorem gd_0 : gdN tp tl E p 0 = kdC (tkN tp tl p 0) := rfl
theorem gd_1 : gdN tp tl E p 1 = dgC (tkN tp tl p 1) 9 := rfl
theorem gd_i {i : Nat} (h : i < 6) : gdN tp tl E p (2 + i) = dgC (tkN tp tl p (2 + i)) 7 := by
  unfold gdN
  rw [if_neg (by omega), if_neg (by omega), if_pos (by omega)]
theorem gd_8 : gdN tp tl E p 8 = if tkN tp tl p 8 = 65 then 1 else 0 := rfl
theorem gd_9 : gdN tp tl E p 9 = if sitr E (dgC (tkN tp tl p 9) 7 - 1) = 0 then dgC (tkN tp tl p 9) 7 else 0 := rfl
end GD
def frP (tp : Nat → Nat) (tl : Nat) (E : Off) (p : Nat) : Nat := fstN (gdN tp tl E p) 10
def hdN (tp : Nat → Nat) (tl : Nat) (E : Off) (p : Nat) : Nat := fg (fun i => gdN tp tl E p (2 + i) - 1) 6
/-- the office with the person that is told from p on -/
def adP (tp : Nat → Nat) (tl : Nat) (E : Off) (p : Nat) : Off := addO E (gdN tp tl E p 0 - 1) (gdN tp tl E p 1 - 1) (dig (hdN tp tl E p)) (gdN tp tl E p 9 - 1)
def spN (tp : Nat → Nat) (tl m e : Nat) : Nat := if m = 0 then 0 else skN tp tl e + 1
def psN (tp : Nat → Nat) (tl : Nat) (O0 : Off) : Nat → Off × Nat
  | 0 => (O0, 0)
  | m + 1 => (adP tp tl (psN tp tl O0 m).1 (spN tp tl m (psN tp tl O0 m).2), qN tp tl (spN tp tl m (psN tp tl O0 m).2) 9 + 1)
/-- signs of weather -/
def sgN (tp : Nat → Nat) (tl p i : Nat) : Nat := if i < 30 ∧ (tkN tp tl p i = 47 ∨ tkN tp tl p i = 115) then 1 else 0
def wbN (tp : Nat → Nat) (tl p : Nat) : Nat → Nat
  | 0 => 0
  | i + 1 => wbN tp tl p i ||| eqB (tkN tp tl p i) 115 * 2 ^ i
/-- (0, where it is wrong), or (how many people, weather) -/
def wxN (tp : Nat → Nat) (tl p W m : Nat) : Nat × Nat := if W = 0 then (0, qN tp tl p 0) else if tkN tp tl p W = 0 then (m, wbN tp tl p W) else (0, qN tp tl p W)
def tlN (tp : Nat → Nat) (tl m e : Nat) : Nat × Nat :=
  if lcA tp tl (skN tp tl e) = 60 then wxN tp tl (skN tp tl e + 1) (fstN (sgN tp tl (skN tp tl e + 1)) 31) m
  else if lcA tp tl (skN tp tl e) = 0 then (m, 0) else (0, skN tp tl e)
def prN (tp : Nat → Nat) (tl : Nat) (O0 : Off) : Nat → Nat → Nat × Nat
  | 0, m => tlN tp tl m (psN tp tl O0 m).2
  | f + 1, m => if frP tp tl (psN tp tl O0 m).1 (spN tp tl m (psN tp tl O0 m).2) = 10 then (if lcA tp tl (skN tp tl (psN tp tl O0 (m + 1)).2) = 45 ∧ f ≠ 0 then prN tp tl O0 f (m + 1) else tlN tp tl (m + 1) (psN tp tl O0 (m + 1)).2) else (0, qN tp tl (spN tp tl m (psN tp tl O0 m).2) (frP tp tl (psN tp tl O0 m).1 (spN tp tl m (psN tp tl O0 m).2)))
theorem prN_0 (tp : Nat → Nat) (tl : Nat) (O0 : Off) (m : Nat) : prN tp tl O0 0 m = tlN tp tl m (psN tp tl O0 m).2 := by rw [prN]
theorem prN_s (tp : Nat → Nat) (tl : Nat) (O0 : Off) (f m : Nat) : prN tp tl O0 (f + 1) m = if frP tp tl (psN tp tl O0 m).1 (spN tp tl m (psN tp tl O0 m).2) = 10 then (if lcA tp tl (skN tp tl (psN tp tl O0 (m + 1)).2) = 45 ∧ f ≠ 0 then prN tp tl O0 f (m + 1) else tlN tp tl (m + 1) (psN tp tl O0 (m + 1)).2) else (0, qN tp tl (spN tp tl m (psN tp tl O0 m).2) (frP tp tl (psN tp tl O0 m).1 (spN tp tl m (psN tp tl O0 m).2))) := by rw [prN]
section PF
variable {tp : Nat → Nat} {tl p : Nat} {E : Off}
theorem q_le (h : p ≤ tl) : ∀ i, (∀ j, j < i → tkN tp tl p j ≠ 0) → qN tp tl p i ≤ tl
  | 0, _ => sk_le h
  | i + 1, hj => by
    have h1 := hj i (by omega)
    refine sk_le ?_
    unfold tkN lcA at h1
    by_cases q : qN tp tl p i < tl
    · omega
    · rw [if_neg q] at h1; exact absurd rfl h1
theorem tk_lt {i : Nat} (h : tkN tp tl p i ≠ 0) : qN tp tl p i < tl := by
  unfold tkN lcA at h
  by_cases q : qN tp tl p i < tl
  · exact q
  · rw [if_neg q] at h; exact absurd rfl h
theorem kd_n0 {c : Nat} (h : kdC c ≠ 0) : c ≠ 0 := fun e => h (by rw [e]; rfl)
theorem dg_n0 {c g : Nat} (h : dgC c g ≠ 0) : c ≠ 0 := fun e => h (by rw [e]; unfold dgC; rw [if_neg (by omega)])
theorem gd_tk {i : Nat} (hi : i < 10) (h : gdN tp tl E p i ≠ 0) : tkN tp tl p i ≠ 0 := by
  unfold gdN at h
  by_cases h0 : i = 0
  · rw [if_pos h0] at h; rw [h0]; exact kd_n0 h
  · rw [if_neg h0] at h
    by_cases h1 : i = 1
    · rw [if_pos h1] at h; rw [h1]; exact dg_n0 h
    · rw [if_neg h1] at h
      by_cases h2 : i < 8
      · rw [if_pos h2] at h; exact dg_n0 h
      · rw [if_neg h2] at h
        by_cases h8 : i = 8
        · rw [if_pos h8] at h
          intro e
          rw [h8] at e
          rw [e, if_neg (by omega)] at h
          exact h rfl
        · rw [if_neg h8] at h
          obtain rfl : i = 9 := by omega
          by_cases h9 : sitr E (dgC (tkN tp tl p 9) 7 - 1) = 0
          · rw [if_pos h9] at h; exact dg_n0 h
          · rw [if_neg h9] at h; exact absurd rfl h
theorem hd_go (h : ∀ j, j < 10 → gdN tp tl E p j ≠ 0) : dgo (fun i => gdN tp tl E p (2 + i) - 1) := fun k hk => by
  have h1 := h (2 + k) (by omega)
  have h2 := gd_i (tp := tp) (tl := tl) (p := p) (E := E) hk
  have h3 := dg_le (tkN tp tl p (2 + k)) 7
  show gdN tp tl E p (2 + k) - 1 < 8
  omega
theorem dig_fg {d : Nat → Nat} (h : dgo d) : fg d 6 ≤ 777777 ∧ ∀ k, k < 6 → dig (fg d 6) k = d k := by
  obtain ⟨h0, h1, h2, h3, h4, h5⟩ := dgo_all h
  refine ⟨by simp only [fg]; omega, fun k hk => ?_⟩
  rcases lt6 hk with rfl | rfl | rfl | rfl | rfl | rfl
  · simp only [fg, dig, Nat.reduceSub, Nat.reducePow]; omega
  · simp only [fg, dig, Nat.reduceSub, Nat.reducePow]; omega
  · simp only [fg, dig, Nat.reduceSub, Nat.reducePow]; omega
  · simp only [fg, dig, Nat.reduceSub, Nat.reducePow]; omega
  · simp only [fg, dig, Nat.reduceSub, Nat.reducePow]; omega
  · simp only [fg, dig, Nat.reduceSub, Nat.reducePow]; omega
theorem v_adP (hV : VO E) (hn : E.n ≤ 6) (h : ∀ j, j < 10 → gdN tp tl E p j ≠ 0) : VO (adP tp tl E p) := by
  have h0 := h 0 (by omega)
  have h1 := h 1 (by omega)
  have h9 := h 9 (by omega)
  have a0 := kd_lt (tkN tp tl p 0)
  have a1 := dg_le (tkN tp tl p 1) 9
  have a9 := dg_le (tkN tp tl p 9) 7
  have e9 := gd_9 (tp := tp) (tl := tl) (p := p) (E := E)
  have hs : sitr E (dgC (tkN tp tl p 9) 7 - 1) = 0 := by
    by_cases q : sitr E (dgC (tkN tp tl p 9) 7 - 1) = 0
    · exact q
    · rw [if_neg q] at e9; exact absurd e9 h9
  rw [if_pos hs] at e9
  obtain ⟨d1, d2⟩ := dig_fg (hd_go h)
  refine v_add hV hn ?_ ?_ (fun k hk => ?_) ?_ (by rw [e9]; exact hs)
  · rw [gd_0] at h0 ⊢; omega
  · rw [gd_1] at h1 ⊢; omega
  · show dig (hdN tp tl E p) k < 8
    have := hd_go h k hk
    rw [show dig (hdN tp tl E p) k = gdN tp tl E p (2 + k) - 1 from d2 k hk]
    exact this
  · omega
end PF
theorem ixc_at : ∀ c, c < 127 → mj_ixc (nI c) = sI (kdC (c + 1)) := by decide +kernel
theorem i2c_at : ∀ c, c < 127 → ((nI c).toUInt32 % 65536).toInt32 = nI c := by decide +kernel
theorem dgs_7 : ∀ c, c < 128 → ((sI c - nI 48 < 0 ∨ ¬ sI c - nI 48 ≤ nI 7) ↔ dgC c 7 = 0) ∧ (dgC c 7 ≠ 0 → sI c - nI 48 = nI (dgC c 7 - 1)) := by decide +kernel
theorem dgs_9 : ∀ c, c < 128 → ((sI c - nI 48 < 0 ∨ ¬ sI c - nI 48 ≤ nI 9) ↔ dgC c 9 = 0) ∧ (dgC c 9 ≠ 0 → sI c - nI 48 = nI (dgC c 9 - 1)) := by decide +kernel
theorem dgt_7 : ∀ c, c < 128 → iR (tI c - nI 48) 0 7 = (if dgC c 7 = 0 then 0 else 1) ∧ (dgC c 7 ≠ 0 → tI c - nI 48 = nI (dgC c 7 - 1)) := by decide +kernel
theorem dgt_9 : ∀ c, c < 128 → iR (tI c - nI 48) 0 9 = (if dgC c 9 = 0 then 0 else 1) ∧ (dgC c 9 ≠ 0 → tI c - nI 48 = nI (dgC c 9 - 1)) := by decide +kernel
section RC
variable {I I' : Nat → Nat → Int32} {J : Nat → Nat → Int64} {tp : Nat → Nat} {tl pos : Nat} {O E : Off} {o : Nat} {P : Nat → Prop}
theorem lc_le (ht : ∀ j, j < tl → 32 ≤ tp j ∧ tp j ≤ 126) (q : Nat) : lcA tp tl q < 128 := by
  unfold lcA
  by_cases h : q < tl
  · rw [if_pos h]; have := ht q h; omega
  · rw [if_neg h]; omega
/-- the class's reader at pos -/
abbrev RdC (tp : Nat → Nat) (tl : Nat) (I : Nat → Nat → Int32) (pos : Nat) : Prop :=
  (I 86 1 = nI tl) ∧
  (I 86 2 = nI pos) ∧
  (∀ j, j < tl → I 87 j = nI (tp j)) ∧
  (∀ j, j < tl → 32 ≤ tp j ∧ tp j ≤ 126) ∧
  (tl ≤ 130 ∧ pos ≤ tl)
theorem RdC.len {tp : Nat → Nat} {tl : Nat} {I : Nat → Nat → Int32} {pos : Nat} (zz : RdC tp tl I pos) : I 86 1 = nI tl := zz.1
theorem RdC.ps {tp : Nat → Nat} {tl : Nat} {I : Nat → Nat → Int32} {pos : Nat} (zz : RdC tp tl I pos) : I 86 2 = nI pos := zz.2.1
theorem RdC.lt {tp : Nat → Nat} {tl : Nat} {I : Nat → Nat → Int32} {pos : Nat} (zz : RdC tp tl I pos) : ∀ j, j < tl → I 87 j = nI (tp j) := zz.2.2.1
theorem RdC.rg {tp : Nat → Nat} {tl : Nat} {I : Nat → Nat → Int32} {pos : Nat} (zz : RdC tp tl I pos) : ∀ j, j < tl → 32 ≤ tp j ∧ tp j ≤ 126 := zz.2.2.2.1
theorem RdC.le {tp : Nat → Nat} {tl : Nat} {I : Nat → Nat → Int32} {pos : Nat} (zz : RdC tp tl I pos) : tl ≤ 130 ∧ pos ≤ tl := zz.2.2.2.2
abbrev FrL (I I' : Nat → Nat → Int32) : Prop := (∀ h, h ≠ 86 → I' h = I h) ∧ ∀ k, k ≠ 2 → I' 86 k = I 86 k
theorem rd_at (h : RdC tp tl I pos) {q : Nat} (hf : FrL I I') (hp : I' 86 2 = nI q) (hq : q ≤ tl) : RdC tp tl I' q :=
  ⟨(hf.2 1 (by omega)).trans h.len, hp, fun j hj => by rw [hf.1 87 (by omega)]; exact h.lt j hj, h.rg, h.le.1, hq⟩
theorem fl_tr {I2 : Nat → Nat → Int32} (h : FrL I I') (h' : FrL I' I2) : FrL I I2 := ⟨fun a b => (h'.1 a b).trans (h.1 a b), fun a b => (h'.2 a b).trans (h.2 a b)⟩
theorem fl_st {v : Int32} (e : I' = mj_row I 86 (va_up (I 86) 2 v)) : FrL I I' := ⟨fun h hh => st_h e hh, fun k hk => st_ne e hk⟩
theorem c_letter (h : RdC tp tl I pos) : mj_E 52 [.ref 86] (KC, I, J, GC) (fun w' r => r = some (.int (sI (lcA tp tl (skN tp tl pos)))) ∧ ∃ I', w' = (KC, I', J, GC) ∧ RdC tp tl I' (skN tp tl pos) ∧ FrL I I') := by
  have hle := h.le
  have hge := sk_ge tp tl pos
  have hsl := sk_le (tp := tp) hle.2
  refine mjT_gen fun Q hQ => ?_
  refine mj_loop (fun k L w => ∃ I', L = [some (.ref 86)] ∧ w = (KC, I', J, GC) ∧ RdC tp tl I' (pos + k) ∧ FrL I I') (skN tp tl pos - pos) (k0 := 0) (Nat.zero_le _) ?_ ?_ ?_
  · exact ⟨_, rfl, rfl, h, fun _ _ => rfl, fun _ _ => rfl⟩
  · rintro k _ _ hk ⟨I2, rfl, rfl, h2, hf2⟩ hc
    obtain ⟨a1, a2⟩ := sk_in (tp := tp) (tl := tl) (p := pos) (j := pos + k) (by omega) (by omega)
    refine mjT_go 1 (pc' := 1) (L' := [some (.ref 86)]) (st' := [.ref 86]) (w1 := (KC, I2, J, GC)) rfl ?_
    refine mjT_gfi (v := nI (pos + k)) rfl (Or.inl rfl) (pc' := 4) rfl rfl (show I2 86 2 = nI (pos + k) from h2.ps) ?_
    refine mjT_go 1 (pc' := 5) (L' := [some (.ref 86)]) (st' := [.ref 86, .int (nI (pos + k))]) (w1 := (KC, I2, J, GC)) rfl ?_
    refine mjT_gfi (v := nI tl) rfl (Or.inl rfl) (pc' := 8) rfl rfl (show I2 86 1 = nI tl from h2.len) ?_
    refine mjT_go 1 (pc' := if nI tl ≤ nI (pos + k) then 38 else 11) (L' := [some (.ref 86)]) (st' := []) (w1 := (KC, I2, J, GC)) rfl ?_
    refine mjT_ifF (nI_ge (by omega) (by omega)) ?_
    refine mjT_go 3 (pc' := 16) (L' := [some (.ref 86)]) (st' := [.ref 86, .ref 87]) (w1 := (KC, I2, J, GC)) rfl ?_
    refine mjT_gfi (v := nI (pos + k)) rfl (Or.inl rfl) (pc' := 19) rfl rfl (show I2 86 2 = nI (pos + k) from h2.ps) ?_
    refine mjT_ial (v := nI (tp (pos + k))) (pos + k) 130 rfl (pc' := 20) rfl rfl rfl (by omega) (by omega) (show I2 87 (pos + k) = nI (tp (pos + k)) from (h2.lt _ a1)) ?_
    refine mjT_go 2 (pc' := if ¬ nI (tp (pos + k)) = nI 32 then 38 else 25) (L' := [some (.ref 86)]) (st' := []) (w1 := (KC, I2, J, GC)) rfl ?_
    refine mjT_ifF (fun q => q (by rw [a2])) ?_
    refine mjT_go 2 (pc' := 27) (L' := [some (.ref 86)]) (st' := [.ref 86, .ref 86]) (w1 := (KC, I2, J, GC)) rfl ?_
    refine mjT_gfi (v := nI (pos + k)) rfl (Or.inl rfl) (pc' := 30) rfl rfl (show I2 86 2 = nI (pos + k) from h2.ps) ?_
    refine mjT_go 2 (pc' := 32) (L' := [some (.ref 86)]) (st' := [.int ((nI (pos + k)) + (nI 1)), .ref 86]) (w1 := (KC, I2, J, GC)) rfl ?_
    obtain ⟨V1, eV1⟩ : ∃ z, z = mj_row I2 86 (va_up (I2 86) 2 ((nI (pos + k)) + (nI 1))) := ⟨_, rfl⟩
    refine mjT_pfi (I' := V1) rfl (pc' := 35) rfl rfl eV1.symm ?_
    refine mjT_go 1 (pc' := 0) (L' := [some (.ref 86)]) (st' := []) (w1 := (KC, V1, J, GC)) rfl ?_
    rw [nI_add] at eV1
    exact hc _ _ ⟨_, rfl, rfl, rd_at h2 (fl_st eV1) (st_at eV1) (by omega), fl_tr hf2 (fl_st eV1)⟩
  · rintro _ _ ⟨I2, rfl, rfl, h2, hf2⟩
    rw [show pos + (skN tp tl pos - pos) = skN tp tl pos by omega] at h2
    have hst := sk_st tp tl pos
    generalize skN tp tl pos = q at *
    have fin : mj_To 52 38 [some (.ref 86)] [] (KC, I2, J, GC) Q := by
      refine mjT_go 1 (pc' := 39) (L' := [some (.ref 86)]) (st' := [.ref 86]) (w1 := (KC, I2, J, GC)) rfl ?_
      refine mjT_gfi (v := nI q) rfl (Or.inl rfl) (pc' := 42) rfl rfl (show I2 86 2 = nI q from h2.ps) ?_
      refine mjT_go 1 (pc' := 43) (L' := [some (.ref 86)]) (st' := [.ref 86, .int (nI q)]) (w1 := (KC, I2, J, GC)) rfl ?_
      refine mjT_gfi (v := nI tl) rfl (Or.inl rfl) (pc' := 46) rfl rfl (show I2 86 1 = nI tl from h2.len) ?_
      refine mjT_go 1 (pc' := if nI tl ≤ nI q then 61 else 49) (L' := [some (.ref 86)]) (st' := []) (w1 := (KC, I2, J, GC)) rfl ?_
      refine mjT_if_le (u := tl) (v := q) rfl rfl (by omega) (by omega) (fun h3 => ?_) (fun h3 => ?_)
      · refine mjT_go 1 (pc' := 62) (L' := [some (.ref 86)]) (st' := [.int (-1)]) (w1 := (KC, I2, J, GC)) rfl ?_
        refine mjT_ret rfl rfl rfl ?_
        refine hQ _ _ ⟨?_, _, rfl, h2, hf2⟩
        unfold lcA
        rw [if_neg (by omega)]; rfl
      · have hrg := h2.rg q h3
        refine mjT_go 3 (pc' := 54) (L' := [some (.ref 86)]) (st' := [.ref 86, .ref 87]) (w1 := (KC, I2, J, GC)) rfl ?_
        refine mjT_gfi (v := nI q) rfl (Or.inl rfl) (pc' := 57) rfl rfl (show I2 86 2 = nI q from h2.ps) ?_
        refine mjT_ial (v := nI (tp q)) q 130 rfl (pc' := 58) rfl rfl rfl (by omega) (by omega) (show I2 87 q = nI (tp q) from (h2.lt _ h3)) ?_
        refine mjT_go 1 (pc' := 62) (L' := [some (.ref 86)]) (st' := [.int (nI (tp q))]) (w1 := (KC, I2, J, GC)) rfl ?_
        refine mjT_ret rfl rfl rfl ?_
        refine hQ _ _ ⟨?_, _, rfl, h2, hf2⟩
        unfold lcA
        rw [if_pos h3, sI_s]
    refine mjT_go 1 (pc' := 1) (L' := [some (.ref 86)]) (st' := [.ref 86]) (w1 := (KC, I2, J, GC)) rfl ?_
    refine mjT_gfi (v := nI q) rfl (Or.inl rfl) (pc' := 4) rfl rfl (show I2 86 2 = nI q from h2.ps) ?_
    refine mjT_go 1 (pc' := 5) (L' := [some (.ref 86)]) (st' := [.ref 86, .int (nI q)]) (w1 := (KC, I2, J, GC)) rfl ?_
    refine mjT_gfi (v := nI tl) rfl (Or.inl rfl) (pc' := 8) rfl rfl (show I2 86 1 = nI tl from h2.len) ?_
    refine mjT_go 1 (pc' := if nI tl ≤ nI q then 38 else 11) (L' := [some (.ref 86)]) (st' := []) (w1 := (KC, I2, J, GC)) rfl ?_
    refine mjT_if_le (u := tl) (v := q) rfl rfl (by omega) (by omega) (fun h3 => ?_) (fun h3 => ?_)
    · exact fin
    · have hrg := h2.rg q h3
      refine mjT_go 3 (pc' := 16) (L' := [some (.ref 86)]) (st' := [.ref 86, .ref 87]) (w1 := (KC, I2, J, GC)) rfl ?_
      refine mjT_gfi (v := nI q) rfl (Or.inl rfl) (pc' := 19) rfl rfl (show I2 86 2 = nI q from h2.ps) ?_
      refine mjT_ial (v := nI (tp q)) q 130 rfl (pc' := 20) rfl rfl rfl (by omega) (by omega) (show I2 87 q = nI (tp q) from (h2.lt _ h3)) ?_
      refine mjT_go 2 (pc' := if ¬ nI (tp q) = nI 32 then 38 else 25) (L' := [some (.ref 86)]) (st' := []) (w1 := (KC, I2, J, GC)) rfl ?_
      refine mjT_ifT (fun z => hst ⟨h3, (nI_eq (by omega) (by omega)).mp z⟩) ?_
      exact fin
/-- behind a token: one on if it was good -/
def nxN (tp : Nat → Nat) (tl pos v : Nat) : Nat := if v = 0 then skN tp tl pos else skN tp tl pos + 1
theorem lc_pos {q : Nat} (h : lcA tp tl q ≠ 0) : q < tl := by
  unfold lcA at h
  by_cases z : q < tl
  · exact z
  · rw [if_neg z] at h; exact absurd rfl h
theorem c_skips (h : RdC tp tl I pos) {c : Nat} (hc : c < 127) : mj_E 51 [.ref 86, .int (nI c)] (KC, I, J, GC) (fun w' r => r = some (.int (nI (eqB (lcA tp tl (skN tp tl pos)) (c + 1)))) ∧ ∃ I', w' = (KC, I', J, GC) ∧ RdC tp tl I' (nxN tp tl pos (eqB (lcA tp tl (skN tp tl pos)) (c + 1))) ∧ FrL I I') := by
  have hlc := lc_le h.rg (skN tp tl pos)
  refine mjT_go 1 (pc' := 1) (L' := [some (.ref 86), some (.int (nI c))]) (st' := [.ref 86]) (w1 := (KC, I, J, GC)) rfl ?_
  refine mjT_call (as := [.ref 86]) (rest := []) rfl rfl rfl rfl rfl ⟨rfl, rfl⟩ (c_letter h) ?_
  rintro _ _ ⟨rfl, I2, rfl, h2, hf2⟩
  refine mjT_go 2 (pc' := if sI (lcA tp tl (skN tp tl pos)) = nI c then 10 else 8) (L' := [some (.ref 86), some (.int (nI c))]) (st' := []) (w1 := (KC, I2, J, GC)) rfl ?_
  unfold nxN eqB
  refine mjT_if (fun h3 => ?_) (fun h3 => ?_)
  rotate_left
  · rw [sI_eq (by omega) (by omega)] at h3
    refine mjT_go 1 (pc' := 9) (L' := [some (.ref 86), some (.int (nI c))]) (st' := [.int (nI 0)]) (w1 := (KC, I2, J, GC)) rfl ?_
    refine mjT_retb rfl rfl (by decide) ?_
    exact ⟨by rw [if_neg h3], _, rfl, by rw [if_neg h3, if_pos rfl]; exact h2, hf2⟩
  rw [sI_eq (by omega) (by omega)] at h3
  have hlt := lc_pos (tp := tp) (tl := tl) (q := skN tp tl pos) (by omega)
  refine mjT_go 2 (pc' := 12) (L' := [some (.ref 86), some (.int (nI c))]) (st' := [.ref 86, .ref 86]) (w1 := (KC, I2, J, GC)) rfl ?_
  refine mjT_gfi (v := nI (skN tp tl pos)) rfl (Or.inl rfl) (pc' := 15) rfl rfl (show I2 86 2 = nI (skN tp tl pos) from h2.ps) ?_
  refine mjT_go 2 (pc' := 17) (L' := [some (.ref 86), some (.int (nI c))]) (st' := [.int ((nI (skN tp tl pos)) + (nI 1)), .ref 86]) (w1 := (KC, I2, J, GC)) rfl ?_
  obtain ⟨V1, eV1⟩ : ∃ z, z = mj_row I2 86 (va_up (I2 86) 2 ((nI (skN tp tl pos)) + (nI 1))) := ⟨_, rfl⟩
  refine mjT_pfi (I' := V1) rfl (pc' := 20) rfl rfl eV1.symm ?_
  rw [nI_add] at eV1
  refine mjT_go 1 (pc' := 21) (L' := [some (.ref 86), some (.int (nI c))]) (st' := [.int (nI 1)]) (w1 := (KC, V1, J, GC)) rfl ?_
  refine mjT_retb rfl rfl (by decide) ?_
  exact ⟨by rw [if_pos h3], _, rfl, by rw [if_pos h3, if_neg (by omega)]; exact rd_at h2 (fl_st eV1) (st_at eV1) (by omega), fl_tr hf2 (fl_st eV1)⟩
theorem c_readKind (h : RdC tp tl I pos) : mj_E 46 [.ref 86] (KC, I, J, GC) (fun w' r => r = some (.int (sI (kdC (lcA tp tl (skN tp tl pos))))) ∧ ∃ I', w' = (KC, I', J, GC) ∧ RdC tp tl I' (nxN tp tl pos (kdC (lcA tp tl (skN tp tl pos)))) ∧ FrL I I') := by
  have hlc := lc_le h.rg (skN tp tl pos)
  have hkl := kd_lt (lcA tp tl (skN tp tl pos))
  have hpo := lc_pos (tp := tp) (tl := tl) (q := skN tp tl pos)
  refine mjT_gen fun Q hQ => ?_
  have fin : ∀ (I2 : Nat → Nat → Int32) (d : Option Value), RdC tp tl I2 (skN tp tl pos) → FrL I I2 → mj_To 46 21 [some (.ref 86), d, none] [.int (sI (kdC (lcA tp tl (skN tp tl pos))))] (KC, I2, J, GC) Q := fun I2 d h2 hf2 => by
    obtain ⟨v, hv⟩ : ∃ v, kdC (lcA tp tl (skN tp tl pos)) = v := ⟨_, rfl⟩
    have hv0 := kd_n0 (c := lcA tp tl (skN tp tl pos))
    rw [hv] at hQ hkl hv0 ⊢
    unfold nxN at hQ
    cases v with
    | zero =>
      refine mjT_go 3 (pc' := if sI 0 < 0 then 36 else 26) (L' := [some (.ref 86), (mj_nl d), some (.int (sI 0))]) (st' := []) (w1 := (KC, I2, J, GC)) rfl ?_
      refine mjT_ifT (by decide) ?_
      refine mjT_go 1 (pc' := 37) (L' := [some (.ref 86), (mj_nl d), some (.int (sI 0))]) (st' := [.int (sI 0)]) (w1 := (KC, I2, J, GC)) rfl ?_
      refine mjT_ret rfl rfl rfl ?_
      exact hQ _ _ ⟨rfl, _, rfl, by rw [if_pos rfl]; exact h2, hf2⟩
    | succ v =>
      have hlt := hpo (hv0 (by omega))
      refine mjT_go 3 (pc' := if nI v < 0 then 36 else 26) (L' := [some (.ref 86), (mj_nl d), some (.int (nI v))]) (st' := []) (w1 := (KC, I2, J, GC)) rfl ?_
      refine mjT_ifF (nI_pos (by omega)) ?_
      refine mjT_go 2 (pc' := 28) (L' := [some (.ref 86), (mj_nl d), some (.int (nI v))]) (st' := [.ref 86, .ref 86]) (w1 := (KC, I2, J, GC)) rfl ?_
      refine mjT_gfi (v := nI (skN tp tl pos)) rfl (Or.inl rfl) (pc' := 31) rfl rfl (show I2 86 2 = nI (skN tp tl pos) from h2.ps) ?_
      refine mjT_go 2 (pc' := 33) (L' := [some (.ref 86), (mj_nl d), some (.int (nI v))]) (st' := [.int ((nI (skN tp tl pos)) + (nI 1)), .ref 86]) (w1 := (KC, I2, J, GC)) rfl ?_
      obtain ⟨V1, eV1⟩ : ∃ z, z = mj_row I2 86 (va_up (I2 86) 2 ((nI (skN tp tl pos)) + (nI 1))) := ⟨_, rfl⟩
      refine mjT_pfi (I' := V1) rfl (pc' := 36) rfl rfl eV1.symm ?_
      rw [nI_add] at eV1
      refine mjT_go 1 (pc' := 37) (L' := [some (.ref 86), (mj_nl d), some (.int (nI v))]) (st' := [.int (nI v)]) (w1 := (KC, V1, J, GC)) rfl ?_
      refine mjT_ret rfl rfl rfl ?_
      exact hQ _ _ ⟨rfl, _, rfl, by rw [if_neg (by omega)]; exact rd_at h2 (fl_st eV1) (st_at eV1) (by omega), fl_tr hf2 (fl_st eV1)⟩
  refine mjT_go 1 (pc' := 1) (L' := [some (.ref 86), none, none]) (st' := [.ref 86]) (w1 := (KC, I, J, GC)) rfl ?_
  refine mjT_call (as := [.ref 86]) (rest := []) rfl rfl rfl rfl rfl ⟨rfl, rfl⟩ (c_letter h) ?_
  rintro _ _ ⟨rfl, I2, rfl, h2, hf2⟩
  obtain ⟨c, hc⟩ : ∃ c, lcA tp tl (skN tp tl pos) = c := ⟨_, rfl⟩
  rw [hc] at hlc fin ⊢
  cases c with
  | zero =>
    refine mjT_go 4 (pc' := if ¬ sI 0 = (-1) then 14 else 10) (L' := [some (.ref 86), some (.int (sI 0)), none]) (st' := []) (w1 := (KC, I2, J, GC)) rfl ?_
    refine mjT_ifF (fun q => q rfl) ?_
    refine mjT_go 2 (pc' := 21) (L' := [some (.ref 86), some (.int (sI 0)), none]) (st' := [.int (-1)]) (w1 := (KC, I2, J, GC)) rfl ?_
    exact fin _ _ h2 hf2
  | succ c =>
    refine mjT_go 4 (pc' := if ¬ nI c = (-1) then 14 else 10) (L' := [some (.ref 86), some (.int (nI c)), none]) (st' := []) (w1 := (KC, I2, J, GC)) rfl ?_
    refine mjT_ifT (fun q => nI_pos (show c < 2 ^ 31 by omega) (by rw [q]; decide)) ?_
    refine mjT_go 4 (pc' := 21) (L' := [some (.ref 86), some (.int (nI c)), none]) (st' := [.int (mj_ixc (((nI c).toUInt32 % 65536).toInt32))]) (w1 := (KC, I2, J, GC)) rfl ?_
    rw [i2c_at c (by omega), ixc_at c (by omega)]
    exact fin _ _ h2 hf2
theorem c_readDigit (h : RdC tp tl I pos) {g : Nat} (hg : g = 7 ∨ g = 9) : mj_E 47 [.ref 86, .int (nI g)] (KC, I, J, GC) (fun w' r => r = some (.int (sI (dgC (lcA tp tl (skN tp tl pos)) g))) ∧ ∃ I', w' = (KC, I', J, GC) ∧ RdC tp tl I' (nxN tp tl pos (dgC (lcA tp tl (skN tp tl pos)) g)) ∧ FrL I I') := by
  have hlc := lc_le h.rg (skN tp tl pos)
  have hpo := lc_pos (tp := tp) (tl := tl) (q := skN tp tl pos)
  refine mjT_go 1 (pc' := 1) (L' := [some (.ref 86), some (.int (nI g)), none]) (st' := [.ref 86]) (w1 := (KC, I, J, GC)) rfl ?_
  refine mjT_call (as := [.ref 86]) (rest := []) rfl rfl rfl rfl rfl ⟨rfl, rfl⟩ (c_letter h) ?_
  rintro _ _ ⟨rfl, I2, rfl, h2, hf2⟩
  generalize lcA tp tl (skN tp tl pos) = c at *
  have hd : ((sI c - nI 48 < 0 ∨ ¬ sI c - nI 48 ≤ nI g) ↔ dgC c g = 0) ∧ (dgC c g ≠ 0 → sI c - nI 48 = nI (dgC c g - 1)) := by
    rcases hg with rfl | rfl
    · exact dgs_7 c hlc
    · exact dgs_9 c hlc
  have hdl := dg_le c g
  have hn0 := dg_n0 (c := c) (g := g)
  unfold nxN
  refine mjT_go 5 (pc' := if (sI c) - (nI 48) < 0 then 17 else 12) (L' := [some (.ref 86), some (.int (nI g)), some (.int ((sI c) - (nI 48)))]) (st' := []) (w1 := (KC, I2, J, GC)) rfl ?_
  refine mjT_if (fun h3 => ?_) (fun h3 => ?_)
  · have e := hd.1.mp (Or.inl h3)
    refine mjT_go 1 (pc' := 18) (L' := [some (.ref 86), some (.int (nI g)), some (.int ((sI c) - (nI 48)))]) (st' := [.int (-1)]) (w1 := (KC, I2, J, GC)) rfl ?_
    refine mjT_ret rfl rfl rfl ?_
    exact ⟨by rw [e]; rfl, _, rfl, by rw [if_pos e]; exact h2, hf2⟩
  refine mjT_go 3 (pc' := if (sI c) - (nI 48) ≤ nI g then 19 else 17) (L' := [some (.ref 86), some (.int (nI g)), some (.int ((sI c) - (nI 48)))]) (st' := []) (w1 := (KC, I2, J, GC)) rfl ?_
  refine mjT_if (fun h4 => ?_) (fun h4 => ?_)
  rotate_left
  · have e := hd.1.mp (Or.inr h4)
    refine mjT_go 1 (pc' := 18) (L' := [some (.ref 86), some (.int (nI g)), some (.int ((sI c) - (nI 48)))]) (st' := [.int (-1)]) (w1 := (KC, I2, J, GC)) rfl ?_
    refine mjT_ret rfl rfl rfl ?_
    exact ⟨by rw [e]; rfl, _, rfl, by rw [if_pos e]; exact h2, hf2⟩
  have hne : dgC c g ≠ 0 := fun e => by
    rcases hd.1.mpr e with z | z
    · exact h3 z
    · exact z h4
  have hlt := hpo (hn0 hne)
  refine mjT_go 2 (pc' := 21) (L' := [some (.ref 86), some (.int (nI g)), some (.int ((sI c) - (nI 48)))]) (st' := [.ref 86, .ref 86]) (w1 := (KC, I2, J, GC)) rfl ?_
  refine mjT_gfi (v := nI (skN tp tl pos)) rfl (Or.inl rfl) (pc' := 24) rfl rfl (show I2 86 2 = nI (skN tp tl pos) from h2.ps) ?_
  refine mjT_go 2 (pc' := 26) (L' := [some (.ref 86), some (.int (nI g)), some (.int ((sI c) - (nI 48)))]) (st' := [.int ((nI (skN tp tl pos)) + (nI 1)), .ref 86]) (w1 := (KC, I2, J, GC)) rfl ?_
  obtain ⟨V1, eV1⟩ : ∃ z, z = mj_row I2 86 (va_up (I2 86) 2 ((nI (skN tp tl pos)) + (nI 1))) := ⟨_, rfl⟩
  refine mjT_pfi (I' := V1) rfl (pc' := 29) rfl rfl eV1.symm ?_
  rw [nI_add] at eV1
  refine mjT_go 1 (pc' := 30) (L' := [some (.ref 86), some (.int (nI g)), some (.int ((sI c) - (nI 48)))]) (st' := [.int ((sI c) - (nI 48))]) (w1 := (KC, V1, J, GC)) rfl ?_
  refine mjT_ret rfl rfl rfl ?_
  refine ⟨?_, _, rfl, by rw [if_neg hne]; exact rd_at h2 (fl_st eV1) (st_at eV1) (by omega), fl_tr hf2 (fl_st eV1)⟩
  rw [hd.2 hne]
  obtain ⟨v, hv⟩ : ∃ v, dgC c g = v + 1 := ⟨dgC c g - 1, by omega⟩
  rw [hv, sI_s, Nat.add_sub_cancel]
end RC
