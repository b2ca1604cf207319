/-! switches, constants, the JDK's own -/
theorem mj_gl0 : mj_w1 mj_g0 (.static Lib.Math.min.name) = true := by decide +kernel
theorem mj_gl1 : mj_w1 mj_g1 (.initialized "java/lang/Math") = true := by decide +kernel
theorem mj_gl2 : mj_w1 mj_g2 (.code Lib.Math.min.name Lib.Math.min.code 2 (some .int)) = true := by decide +kernel
theorem mj_gl3 : mj_w1 mj_g3 (.native arraycopyName) = true := by decide +kernel
theorem mj_gl4 : mj_w1 mj_g4 (.static arraycopyName) = true := by decide +kernel
theorem mj_gl5 : mj_w1 mj_g5 (.initialized "java/lang/System") = true := by decide +kernel
theorem mj_gl6 : mj_w1 mj_g6 (.instanceMethod objectInit) = true := by decide +kernel
theorem mj_gl7 : mj_w1 mj_g7 (.code objectInit ⟨#[0xb1]⟩ 1 none) = true := by decide +kernel
def mj_ixN : MethodName := ⟨"java/lang/String", "indexOf", "(I)I"⟩
abbrev mj_ixB : ByteArray := prog_12_method_79_code
theorem mj_gl8 : mj_w1 mj_g8 (.instanceMethod mj_ixN) = true := by decide +kernel
theorem mj_gl9 : mj_w1 mj_g9 (.selects "java/lang/String" mj_ixN mj_ixN) = true := by decide +kernel
theorem mj_gl10 : mj_w1 mj_g10 (.initialized "java/lang/String") = true := by decide +kernel
theorem mj_gl11 : mj_w1 mj_g11 (.code mj_ixN mj_ixB 2 (some .int)) = true := by decide +kernel
/-- the text "pslt" at a, its bytes at v -/
def mj_Str (a v : Nat) (A : Nat → Prop) (U : State) (H : Heap) : Prop := vk_S 1 [4] [[112, 115, 108, 116]] (fun _ => a) (fun _ => v) A U H ∧ va_Z "java/lang/String" "COMPACT_STRINGS" "Z" (.int 1) A U H
def mj_ixR : Room := { frames := 3, cells := 0, slots := 0, locals := 70 }
/-- String.indexOf(c) of the text "pslt" -/
def mj_JS (l : Launch) : Prop := ∀ (a v : Nat) (x : Int32), Met l mj_ixN (.code mj_ixN mj_ixB 2 (some .int) :: mj_T) mj_ixR (va_Pc [.ref a, .int x] (fun U => mj_Str a v (fun _ => False) U U.heap)) (vp_Si (fun r => r = mj_ixc x)) 0 0 (fun _ => False)
theorem mj_tsw_spec (pc : Nat) (x : Int32) (dflt : Int) : ∀ (os : List Int) (k : Nat), k + os.length < 2 ^ 31 → (∃ (j : Nat) (o : Int), os[j]? = some o ∧ x = nI (k + j) ∧ mj_tsw pc x dflt k os = ((pc : Int) + o).toNat) ∨ ((∀ j : Nat, j < os.length → x ≠ nI (k + j)) ∧ mj_tsw pc x dflt k os = ((pc : Int) + dflt).toNat) := by
  intro os
  induction os with
  | nil => intro k _; exact Or.inr ⟨fun j h => absurd h (by simp), rfl⟩
  | cons o os ih =>
    intro k hk
    by_cases e : x = nI k
    · exact Or.inl ⟨0, o, rfl, e, by rw [mj_tsw, if_pos e]⟩
    · rcases ih (k + 1) (by simp only [List.length_cons] at hk; omega) with ⟨j, o', h1, h2, h3⟩ | ⟨h1, h2⟩
      · exact Or.inl ⟨j + 1, o', h1, by rw [h2]; congr 1; omega, by rw [mj_tsw, if_neg e]; exact h3⟩
      · refine Or.inr ⟨fun j hj => ?_, by rw [mj_tsw, if_neg e]; exact h2⟩
        cases j with
        | zero => exact e
        | succ j =>
          have := h1 j (by simpa using hj)
          rwa [show k + (j + 1) = k + 1 + j by omega]
theorem mj_lsw_spec (pc : Nat) (x : Int32) (dflt : Int) : ∀ (ps : List (Int × Int)), (∀ o ∈ ps, (mj_kI o.1).toInt = o.1) → mj_lsw pc x dflt ps = ((pc : Int) + Op.lookupswitch.offset ps dflt x.toInt).toNat := by
  intro ps
  induction ps with
  | nil => intro _; rfl
  | cons o ps ih =>
    intro h
    have h1 := h o List.mem_cons_self
    obtain ⟨a, b⟩ := o
    rw [mj_lsw, Op.lookupswitch.offset_cons]
    by_cases e : x = mj_kI a
    · rw [if_pos e, if_pos (by rw [e]; exact h1.symm)]
    · rw [if_neg e, if_neg (fun z => e (Int32.toInt_inj.mp (by rw [h1, z])))]
      exact ih (fun o ho => h o (List.mem_cons_of_mem _ ho))
theorem mj_lsw_nn (dflt k : Int) (pc : Nat) : ∀ (ps : List (Int × Int)), 0 ≤ (pc : Int) + dflt → (∀ o ∈ ps, 0 ≤ (pc : Int) + o.2) → 0 ≤ (pc : Int) + Op.lookupswitch.offset ps dflt k := by
  intro ps h0
  induction ps with
  | nil => intro _; exact h0
  | cons o ps ih =>
    intro h
    obtain ⟨a, b⟩ := o
    rw [Op.lookupswitch.offset_cons]
    split
    · exact h (a, b) List.mem_cons_self
    · exact ih (fun o ho => h o (List.mem_cons_of_mem _ ho))
section SPC
variable {l : Launch} {D : va_G} {y : Nat} {p : Program} {e0 : Env} {R : Room} {s : State} {m : MethodId} {args : Array Value} {below : List Frame} {meth : Method} {cd : Code} {Q : State → Prop} {ad : Nat → Nat} {A : Nat → Prop} {H : Heap} {locs : List Loc} {ls : Array Slot} {pc : Nat} {L : mjL} {st : List Value} {w : mjW} {c q : Nat} {C : mjC} {ln a b d : Nat} {k : Int}
set_option maxHeartbeats 4000000 in
theorem mj_sim_switch {ins : Instr} (hins : (∃ i j u v, ins = .tableswitch i j u v) ∨ (∃ i j, ins = .lookupswitch i j) ∨ ∃ i, ins = .ldc i) (hd : decode (mj_b y) pc = .ok (ins, ln)) (hk : mj_okc y pc (ins, ln, a, b, d, k) = true) (h : mj_sim y pc (ins, ln, a, b, d, k) L st w c q = some C)
    (hC : mj_Cx y p R s m args meth cd ad A) (hR : mj_Rp D A s ad w H) (hS : va_S A s.heap H locs) (hl : mj_ls ad ls L) (hL : L.length = mj_ml y) (hc : c ≤ mj_mc y) (hq : q ≤ mj_ms y) (hN : mj_Nx l D y p e0 R s m args below meth cd Q ad A w.1.length C) : W p l e0 R s m args below meth cd H locs c q Q (F0 m pc ls (st.map (mj_v ad))) := by
  obtain ⟨hx, hb, hml, hown, hts, hnm, hr, hlk, hRm, hSt, hA⟩ := hC
  have hN0 : ∀ (pc' : Nat) (st' : List Value), C = (pc', L, st', w, c, q) → W p l e0 R s m args below meth cd H locs c q Q (F0 m pc' ls (st'.map (mj_v ad))) := by
    intro pc' st' e
    subst e
    exact hN ad H locs ls (fun _ => rfl) (fun _ _ => rfl) hR hS hl hL hc hq
  rcases hins with ⟨dflt, lo, hi, offs, rfl⟩ | ⟨dflt, ps, rfl⟩ | ⟨i, rfl⟩
  · simp only [mj_okc, Bool.and_eq_true, decide_eq_true_eq, List.all_eq_true] at hk
    obtain ⟨⟨⟨⟨rfl, k2⟩, k3⟩, k4⟩, k5⟩ := hk
    have hsz : offs.size < 1000 := Nat.le_of_ble_eq_true k3
    obtain ⟨x, r, rfl, h2⟩ := mj_p1_inv (show mj_p1 _ _ = some C from h)
    clear h
    rcases mj_tsw_spec pc x dflt offs.toList 0 (by simp; omega) with ⟨j, o, h3, h4, h5⟩ | ⟨h3, h5⟩
    · have hj : j < offs.size := by simpa using (List.getElem?_eq_some_iff.mp h3).1
      have hxi : x.toInt = (j : Int) := by rw [h4, Nat.zero_add]; exact nI_toInt (by omega)
      refine lv_tableIn hx hb hd (by rw [hxi]; omega) (by rw [hxi]; omega) (off := o) (by rw [hxi]; simpa using h3) (tgt := ((pc : Int) + o).toNat) (by have := k5 o (List.mem_of_getElem? h3); omega) ?_
      exact hN0 _ r (by rw [h5] at h2; exact (Option.some.inj h2).symm)
    · refine lv_tableOut hx hb hd ?_ (tgt := ((pc : Int) + dflt).toNat) (by omega) (hN0 _ r (by rw [h5] at h2; exact (Option.some.inj h2).symm))
      by_cases hx0 : x.toInt < 0
      · exact Or.inl hx0
      · refine Or.inr ?_
        refine Int.not_le.mp fun hle => ?_
        have hlt : x.toInt.toNat < offs.size := by omega
        refine h3 x.toInt.toNat (by simpa using hlt) ?_
        rw [Nat.zero_add]
        refine Int32.toInt_inj.mp ?_
        rw [nI_toInt (by omega)]
        omega
  · simp only [mj_okc, Bool.and_eq_true, decide_eq_true_eq, List.all_eq_true (l := ps.toList)] at hk
    obtain ⟨⟨k1, k2⟩, k3⟩ := hk
    obtain ⟨x, r, rfl, h2⟩ := mj_p1_inv (show mj_p1 _ _ = some C from h)
    clear h
    rw [mj_lsw_spec pc x dflt ps.toList (fun o ho => (k3 o ho).2)] at h2
    exact lv_lookup hx hb hd k1 rfl (tgt := ((pc : Int) + Op.lookupswitch.offset ps.toList dflt x.toInt).toNat) (by have := mj_lsw_nn dflt x.toInt pc ps.toList k2 (fun o ho => (k3 o ho).1); omega) (hN0 _ r (Option.some.inj h2).symm)
  · simp only [mj_okc, Bool.and_eq_true] at hk
    obtain ⟨k1, k2⟩ := hk
    obtain rfl := Nat.eq_of_beq_eq_true k1
    simp only [mj_sim] at h
    split at h
    · exact lv_ldc hx hb hown (mj_w1_T hts k2 rfl) hd (hN0 _ (.int (mj_kI k) :: st) (Option.some.inj h).symm)
    · next na =>
      have k3 : mj_own y = "CaughtHand$Reader" ∧ i = 63 := by
        split at k2
        · exact absurd rfl na
        · simp only [Bool.and_eq_true, decide_eq_true_eq] at k2
          exact ⟨k2.1, Nat.eq_of_beq_eq_true k2.2⟩
      obtain ⟨g1, rfl⟩ := k3
      exact va_ldcS hx hb hown (by rw [g1]; exact hSt.2.2.2.1) hd (hN0 _ (.ref 1000 :: st) (Option.some.inj h).symm)
theorem mj_sum8 {rest : List Value} : ((rest.map (mj_v ad)).map fun v => v.category).sum = (rest.map Value.category).sum := by
  rw [List.map_map]
  congr 1
  exact List.map_congr_left fun v _ => mj_v_cat ad v
theorem mj_r8_inv {r : List Value} {f : Option mjC} (h : mj_r8 r f = some C) : (r.map Value.category).sum ≤ 8 ∧ f = some C := by
  unfold mj_r8 at h
  split at h
  · next h1 => exact ⟨h1, h⟩
  · cases h
theorem mj_Str_of (hSt : mj_St ad A s) (hS : va_S A s.heap H locs) : ∃ v, mj_Str (ad 1000) v A s s.heap := by
  obtain ⟨-, -, -, -, ⟨adV, h1⟩, h2⟩ := hSt
  refine ⟨adV 0, ⟨fun i hi => ?_, fun i j hi hj _ => by omega⟩, h2⟩
  have : i = 0 := by omega
  subst this
  exact h1.1 0 (by omega)
theorem mj_Str.moved {a v : Nat} {A : Nat → Prop} {u U : State} {H : Heap} (hvm : u.vm.Alike U.vm) (h : mj_Str a v A u H) : mj_Str a v A U H := ⟨vk_S.moved hvm h.1, va_Z.moved hvm h.2⟩
theorem mj_Str.kept {a v : Nat} {A : Nat → Prop} {U : State} {H H1 : Heap} (h : mj_Str a v A U H) (hq : ∀ x : Nat, x < H.size → ¬ A x → H1[x]? = H[x]?) : mj_Str a v A U H1 := ⟨vk_S.kept h.1 hq, va_Z.kept h.2 hq⟩
theorem mj_Str.narrow {a v : Nat} {A B : Nat → Prop} {U : State} {H : Heap} (h : mj_Str a v A U H) (hAB : ∀ x, B x → A x) : mj_Str a v B U H := ⟨vk_S.narrow h.1 hAB, va_Z.narrow h.2 hAB⟩
set_option maxHeartbeats 4000000 in
theorem mj_sim_jdk {ins : Instr} (hJ : mj_JS l) (hins : (∃ i, ins = .invokespecial i) ∨ (∃ i, ins = .invokestatic i) ∨ ∃ i, ins = .invokevirtual i) (hd : decode (mj_b y) pc = .ok (ins, ln)) (hk : mj_okc y pc (ins, ln, a, b, d, k) = true) (h : mj_sim y pc (ins, ln, a, b, d, k) L st w c q = some C)
    (hC : mj_Cx y p R s m args meth cd ad A) (hR : mj_Rp D A s ad w H) (hS : va_S A s.heap H locs) (hl : mj_ls ad ls L) (hL : L.length = mj_ml y) (hc : c ≤ mj_mc y) (hq : q ≤ mj_ms y) (hN : mj_Nx l D y p e0 R s m args below meth cd Q ad A w.1.length C) : W p l e0 R s m args below meth cd H locs c q Q (F0 m pc ls (st.map (mj_v ad))) := by
  obtain ⟨hx, hb, hml, hown, hts, hnm, hr, hlk, hRm, hSt, hA⟩ := hC
  have hN0 : ∀ (pc' : Nat) (st' : List Value), C = (pc', L, st', w, c, q) → W p l e0 R s m args below meth cd H locs c q Q (F0 m pc' ls (st'.map (mj_v ad))) := by
    intro pc' st' e
    subst e
    exact hN ad H locs ls (fun _ => rfl) (fun _ _ => rfl) hR hS hl hL hc hq
  have hsize : cd.maxLocals = ls.size := by rw [hml, ← hL]; exact hl.1.symm
  rcases hins with ⟨i, rfl⟩ | ⟨i, rfl⟩ | ⟨i, rfl⟩
  · simp only [mj_sim] at h
    split at h
    · simp only [mj_okc, Bool.and_eq_true] at hk
      obtain ⟨k1, ⟨k2, k3⟩, k4⟩ := hk
      obtain rfl := Nat.eq_of_beq_eq_true k1
      obtain ⟨h0, r, rfl, h2⟩ := mj_pr_inv h
      clear h
      obtain ⟨h3, h2⟩ := mj_r8_inv h2
      subst hRm
      refine W.objInit hx hb hown (mj_w1_T hts k2 rfl) (mj_w1_T hts mj_gl6 rfl) (mj_w1_T hts mj_gl7 rfl) (g := F0 m pc ls ((Value.ref h0 :: r).map (mj_v ad))) rfl hsize.symm (a := ad h0) (rest := r.map (mj_v ad)) rfl hd (Nat.le_of_ble_eq_true k3) ?_ (hN0 _ r (Option.some.inj h2).symm)
      have := Nat.le_of_ble_eq_true k4
      show 2 * 0 + _ + 12 ≤ mj_rl y
      rw [mj_sum8]
      omega
    · cases h
  · simp only [mj_sim] at h
    split at h
    · simp only [mj_okc, Bool.and_eq_true] at hk
      obtain ⟨k1, ⟨k2, k3⟩, k4⟩ := hk
      obtain rfl := Nat.eq_of_beq_eq_true k1
      obtain ⟨x, z, r, rfl, h2⟩ := mj_p2_inv h
      clear h
      obtain ⟨h3, h2⟩ := mj_r8_inv h2
      subst hRm
      refine va_mmin hx hb hsize hown (mj_w1_T hts k2 rfl) (mj_w1_T hts mj_gl0 rfl) (mj_w1_T hts mj_gl1 rfl) (mj_w1_T hts mj_gl2 rfl) (Nat.le_of_ble_eq_true k3) ?_ hc hq hd (hN0 _ (.int (if z < x then z else x) :: r) (Option.some.inj h2).symm)
      have := Nat.le_of_ble_eq_true k4
      show _ + 13 ≤ mj_rl y
      rw [mj_sum8]
      omega
    · simp only [mj_okc, Bool.and_eq_true] at hk
      obtain ⟨k1, ⟨k2, k3⟩, k4⟩ := hk
      obtain rfl := Nat.eq_of_beq_eq_true k1
      obtain ⟨a0, sp, d0, dp, n, r, rfl, h2⟩ := mj_pcp_inv h
      clear h
      obtain ⟨h3, h2⟩ := mj_r8_inv h2
      subst hRm
      have hloc : ((r.map (mj_v ad)).map fun v => v.category).sum + (nativeFrameWords "java/lang/System" "arraycopy" 5 + 11) ≤ (mj_rm y).locals := by
        have := Nat.le_of_ble_eq_true k4
        show _ ≤ mj_rl y
        rw [mj_sum8]
        omega
      split at h2
      · cases h2
      · next hnn =>
        simp only [not_or, Nat.not_lt] at hnn
        obtain ⟨n1, n2, n3, n4, n5⟩ := hnn
        obtain ⟨ca, tys, hK, hP, hD, hT⟩ := hR
        split at h2
        · next hkk =>
          have e0 : mj_kd w a0 = (1, (mj_kd w a0).2) := by rw [← hkk.1]
          have e1 : mj_kd w d0 = (1, (mj_kd w d0).2) := by rw [← hkk.2]
          have he0 := mj_ws_at (ad := ad) (ca := ca) (mj_kd_lt e0 (by show (1 : Nat) ≠ 99; decide))
          have he1 := mj_ws_at (ad := ad) (ca := ca) (mj_kd_lt e1 (by show (1 : Nat) ≠ 99; decide))
          rw [mj_ce1 e0] at he0
          rw [mj_ce1 e1] at he1
          obtain ⟨t0, ht0⟩ := mj_ty_at hT e0 (by decide) (by decide)
          obtain ⟨t1, ht1⟩ := mj_ty_at hT e1 (by decide) (by decide)
          cases h2
          refine va_copyi hx hb hsize hown (mj_w1_T hts k2 rfl) (mj_w1_T hts mj_gl3 rfl) (mj_w1_T hts mj_gl4 rfl) (mj_w1_T hts mj_gl5 rfl) hK hP hD hS a0 d0 t0 t1 he0 he1 ht0 ht1 rfl n1 n2 n3 n4 n5 (fun _ _ => rfl) (Nat.le_of_ble_eq_true k3) hloc hd (fun H1 locs1 hP1 hD1 hS1 => ?_)
          exact hN ad H1 locs1 ls (fun _ => rfl) (fun _ _ => rfl) (mj_Rp_set hK hT rfl ((mj_ce1 (w := (w.1, mj_row w.2.1 d0 (va_cpy (w.2.1 a0) (w.2.1 d0) sp.toNatClampNeg dp.toNatClampNeg n.toNatClampNeg), w.2.2)) e1).trans (congrArg (fun z => Sum.inl (ca d0, (mj_kd w d0).2, Sum.inl z)) mj_row_eq)) (fun a' e => mj_ce_same rfl (mj_row_ne e) rfl rfl) hP1 hD1) hS1 hl hL hc hq
        · split at h2
          · next hkk =>
            have e0 : mj_kd w a0 = (2, (mj_kd w a0).2) := by rw [← hkk.1]
            have e1 : mj_kd w d0 = (2, (mj_kd w d0).2) := by rw [← hkk.2]
            have he0 := mj_ws_at (ad := ad) (ca := ca) (mj_kd_lt e0 (by show (2 : Nat) ≠ 99; decide))
            have he1 := mj_ws_at (ad := ad) (ca := ca) (mj_kd_lt e1 (by show (2 : Nat) ≠ 99; decide))
            rw [mj_ce2 e0] at he0
            rw [mj_ce2 e1] at he1
            obtain ⟨t0, ht0⟩ := mj_ty_at hT e0 (by decide) (by decide)
            obtain ⟨t1, ht1⟩ := mj_ty_at hT e1 (by decide) (by decide)
            cases h2
            refine va_copyl hx hb hsize hown (mj_w1_T hts k2 rfl) (mj_w1_T hts mj_gl3 rfl) (mj_w1_T hts mj_gl4 rfl) (mj_w1_T hts mj_gl5 rfl) hK hP hD hS a0 d0 t0 t1 he0 he1 ht0 ht1 rfl n1 n2 n3 n4 n5 (fun _ _ => rfl) (Nat.le_of_ble_eq_true k3) hloc hd (fun H1 locs1 hP1 hD1 hS1 => ?_)
            exact hN ad H1 locs1 ls (fun _ => rfl) (fun _ _ => rfl) (mj_Rp_set hK hT rfl ((mj_ce2 (w := (w.1, w.2.1, mj_row w.2.2.1 d0 (va_cpy (w.2.2.1 a0) (w.2.2.1 d0) sp.toNatClampNeg dp.toNatClampNeg n.toNatClampNeg), w.2.2.2)) e1).trans (congrArg (fun z => Sum.inl (ca d0, (mj_kd w d0).2, Sum.inr (Sum.inl z))) mj_row_eq)) (fun a' e => mj_ce_same rfl rfl (mj_row_ne e) rfl) hP1 hD1) hS1 hl hL hc hq
          · cases h2
    · cases h
  · simp only [mj_sim] at h
    split at h
    · simp only [mj_okc, Bool.and_eq_true] at hk
      obtain ⟨k1, ⟨k2, k3⟩, k4⟩ := hk
      obtain rfl := Nat.eq_of_beq_eq_true k1
      obtain ⟨h0, x, r, rfl, h2⟩ := mj_pir_inv h
      clear h
      obtain ⟨h3, h9⟩ := mj_r8_inv h2
      clear h2
      split at h9
      · next e =>
        subst e
        subst hRm
        have hlk : (Jvm.Cond.methodLink (mj_own y) i mj_ixN).before args s = true := mj_w1_T hts k2 rfl
        obtain ⟨v, hv⟩ := mj_Str_of hSt hS
        have hcode := mj_w1_T hts mj_gl11 rfl
        have hr' := va_runV (l := l) (R := mj_rm y) (s := s) (args := args) (p := p) (e := e0) (below := below) (meth := meth) (H := H) (locs := locs) (cells := c) (slots := q) (C := "java/lang/String") (y := mj_ixN) (bytes := mj_ixB) (maxL := 2) (ret := some .int) (ws := .code mj_ixN mj_ixB 2 (some .int) :: mj_T) (rm := mj_ixR) (nL := mj_ml y) (n := 1) (index := i) (own := mj_own y) (Ts := mj_T) (As := [.int x]) (rest := r.map (mj_v ad)) (g := F0 m pc ls (.int x :: .ref (ad 1000) :: r.map (mj_v ad)))
          ⟨hx, hb, hml, hown, hts⟩ (hJ (ad 1000) v x)
          ⟨⟨rfl, rfl, Nat.le_of_ble_eq_true k3, by show 8 + (2 + 11) + 70 ≤ mj_rl y; exact Nat.le_of_ble_eq_true k4, fun w hw a' U hW => by
              rcases List.mem_cons.mp hw with rfl | hw
              · exact word_at hW (Or.inl rfl) hcode
              · exact word_at hW (good_of_word (List.mem_filter.mp hw).2) (hts w hw), List.mem_cons_self, hcode, mj_w1_T hts mj_gl10 rfl, by decide, fun sig hs => by
              have h5 : (parseMethodDescriptor mj_ixN.desc).map (fun d => d.parameters.length) = some 1 := by decide +kernel
              rw [hs] at h5
              exact (Option.some.inj h5).symm, hlk⟩, mj_w1_T hts mj_gl8 rfl, mj_w1_T hts mj_gl9 rfl⟩
          ⟨fun a U g mk z => ⟨z.1, mj_Str.moved (u := U) (U := U.calling g mk a) (Vm.Alike.refl U.vm) z.2⟩, vk_recv hv.1 (i := 0) (by decide) hS, fun U hU hW => ⟨rfl, by show mj_Str (ad 1000) v (fun _ => False) U U.heap; rw [hU]; exact ((mj_Str.moved hW.alike hv).kept hS.2.1).narrow (fun _ z => z.elim)⟩⟩
          rfl rfl (by show ls.size = mj_ml y; rw [← hL]; exact hl.1) rfl (lv_room (by rw [mj_sum8]; exact h3)) hd ⟨hc, hq⟩
        intro T hT X
        obtain ⟨v', st₀, t, T', L', hh0, X', hL', e1, e2, ⟨r0, hv', hp', hb'⟩, stp⟩ := hr' T hT X
        cases hv'
        subst hp'
        obtain rfl : L' = [] := by
          cases L' with
          | nil => rfl
          | cons z _ => exact (hL' z List.mem_cons_self).elim
        have e3 : T'.heap = H := by rw [e1, hb', hh0]
        rw [List.append_nil] at X'
        obtain ⟨t2, a1, b1⟩ := hN0 _ (.int (mj_ixc x) :: r) (Option.some.inj h9).symm T' e3 X'
        exact ⟨t2, stp t2 a1, b1⟩
      · cases h9
    · cases h
end SPC
