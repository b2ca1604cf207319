/-! what the law's start gives; its calls -/
theorem law_St {s : State} {b : Addr} (hts : ∀ w ∈ lw_tbl, w.before #[Value.ref b] s = true) (hgv : (Jvm.Cond.and given_1 narrow_1).before #[Value.ref b] s = true) : ∃ a : Nat, ∀ ad : Nat → Nat, ad 1000 = a → mj_St ad (fun q : Nat => s.heap.size ≤ q) s := by
  have hA : ∀ a : Nat, a < s.heap.size → ¬ (s.heap.size ≤ a) := fun a h => Nat.not_le.mpr h
  have hg := flat_of_before _ hgv
  obtain ⟨adK, adV, h1, h2⟩ := vk_Sof (args := #[Value.ref b]) (s := s) (N := 1) (tm := fun _ => .string "CaughtHand$Reader" 63) (len := [4]) (byt := [[112, 115, 108, 116]]) (A := fun q : Nat => s.heap.size ≤ q)
    (fun i hi => by obtain rfl : i = 0 := by omega
                    decide)
    (fun i hi => hg _ (by decide +kernel)) (fun i hi => hg _ (by decide +kernel)) (fun i hi => hg _ (by decide +kernel))
    (fun i hi => by obtain rfl : i = 0 := by omega
                    exact hg _ (by decide +kernel))
    (fun i hi j hj => by
      obtain rfl : i = 0 := by omega
      have hj : j < 4 := hj
      match j, hj with
      | 0, _ => exact hg _ (by decide +kernel)
      | 1, _ => exact hg _ (by decide +kernel)
      | 2, _ => exact hg _ (by decide +kernel)
      | 3, _ => exact hg _ (by decide +kernel)
      | j + 4, h => exact absurd h (by omega))
    (fun i j hi hj hij => absurd hij (by omega)) hA
  have hZ : va_Z "java/lang/String" "COMPACT_STRINGS" "Z" (.int 1) (fun q : Nat => s.heap.size ≤ q) s s.heap := va_Zof (hts _ (by decide +kernel)) (hts _ (by decide +kernel)) (va_eqt (hg _ (by decide +kernel))) hA
  refine ⟨adK 0, fun ad had => ⟨?_, va_AO.of (hts _ (by decide +kernel)), (show (Jvm.Cond.arrayOver (.array .long)).before #[] s = true from hts (Jvm.Cond.arrayOver (.array .long)) (by decide +kernel)), ?_, ⟨adV, ?_⟩, hZ⟩⟩
  · intro q hq
    refine va_Nw.of rfl (A := #[Value.ref b]) ?_
    simp only [mj_nw, List.mem_cons, List.not_mem_nil, or_false] at hq
    rcases hq with rfl | rfl | rfl
    · exact hts _ (by decide +kernel)
    · exact hts _ (by decide +kernel)
    · exact hts _ (by decide +kernel)
  · rw [had]
    exact vk_R.of (A := #[Value.ref b]) (hts _ (by decide +kernel)) (h2 0 (by omega))
  · rw [had]
    refine ⟨fun i hi => ?_, fun i j hi hj _ => by omega⟩
    obtain rfl : i = 0 := by omega
    exact h1.1 0 hi
theorem law_D {s : State} {args : Array Value} (hts : ∀ w ∈ mj_T, w.before args s = true) (hi : ∀ k, k < 7 → (Jvm.Cond.instantiable (mj_cl k).1 (mj_cl k).2.2).before args s = true) : ∃ D : va_G, va_K D vwCl [] s := by
  have h0 : ∀ k : Nat, ∃ x : ClassId × (Nat → Nat), k < 7 → u_Kn s (mj_cl k).1 (mj_cl k).2.1 (mj_cl k).2.2 x.1 x.2 := by
    intro k
    by_cases hk : k < 7
    · obtain ⟨cC, iS, h⟩ := u_known (C := (mj_cl k).1) (T := (mj_cl k).2.1) (N := (mj_cl k).2.2) hts (mj_clU k hk).1 (hi k hk)
      exact ⟨(cC, iS), fun _ => h⟩
    · exact ⟨(0, fun _ => 0), fun h => absurd h hk⟩
  obtain ⟨f, hf⟩ := Classical.axiomOfChoice h0
  refine ⟨(fun k => (f k).1, fun k => (f k).2), fun k q hq => ?_, fun k q h => by cases h⟩
  have hk : k < 7 := (List.getElem?_eq_some_iff.mp hq).1
  rw [mj_cl_at hk] at hq
  cases hq
  exact hf k hk
noncomputable def lw_ckm (z n : Nat) : Bool := Nat.blt z mj_N && Nat.ble (mj_rf z + 1) 13 && Nat.ble (8 + (mj_ml z + 11) + mj_rl z) 506 && decide ((parseMethodDescriptor (mj_nm z).desc).map (fun d => d.parameters.length) = some n) && mj_w1 (mj_pos z).2.1 (.instanceMethod (mj_nm z))
noncomputable def lw_ckv (ix d z n : Nat) : Bool := lw_ckm z n && mj_w1 d (.methodLink "CaughtHandLaw" ix (mj_nm z)) && mj_w1 (mj_pos z).2.2.1 (.selects (mj_nm z).cls (mj_nm z) (mj_nm z)) && Nat.blt (mj_ci z) 7 && decide ((mj_cl (mj_ci z)).1 = (mj_nm z).cls) && Nat.beq (mj_mc z) 0 && Nat.beq (mj_ms z) 0
noncomputable def lw_cki (ix d z : Nat) : Bool := lw_ckm z 0 && mj_w1 d (.methodLink "CaughtHandLaw" ix (mj_nm z)) && decide ((mj_nm z).name = "<init>") && decide (mj_ret z = none)
section LAW
variable {l : Launch} {D : va_G} {p : Program} {e0 : Env} {s : State} {m : MethodId} {args : Array Value} {below : List Frame} {meth : Method} {cd : Code} {Q : State → Prop} {ad ad2 : Nat → Nat} {A : Nat → Prop} {H : Heap} {locs : List Loc} {ls : Array Slot} {pc : Nat} {w w1 w2 : mjW} {c q : Nat} {r1 : Option Value}
theorem lw_use {R : Room} {st0 restv : List Value} {mcz msz mc0 : Nat} {a0 : Array Value} (hr : va_Run p l e0 R s m args below meth cd H locs c q mcz msz (F0 m pc ls st0) restv (mj_Qc D (mj_A ad w.1.length H.size) ad w.1.length mc0 w1 r1 a0) (mj_A ad w.1.length H.size)) (hS : va_S A s.heap H locs) (hBA : ∀ x, mj_A ad w.1.length H.size x → A x)
    (hR2 : mj_Rp D A s ad2 w2 H) (hap : ∀ h, h < w.1.length → ∀ h2, h2 < w2.1.length → ad h ≠ ad2 h2)
    (kk : ∀ (ad1 : Nat → Nat) (H1 : Heap) (locs1 : List Loc), (mc0 = 0 → ad1 = ad) → (∀ h : Nat, h < w.1.length ∨ h = 1000 → ad1 h = ad h) → mj_Rp D (mj_A ad w.1.length H.size) s ad1 w1 H1 → mj_Rp D A s ad2 w2 H1 → va_S A s.heap H1 locs1 → W p l e0 R s m args below meth cd H1 locs1 (c + mcz) (q + msz) Q (F0 m (pc + 3) ls ((r1.map (mj_v ad1)).toList ++ restv))) : W p l e0 R s m args below meth cd H locs c q Q (F0 m pc ls st0) := by
  intro T hT X
  obtain ⟨v, st₀, t, T', Lc, h0, X', hL, e1, e2, ⟨⟨ad1, g1, g2, g3, g4⟩, hz, hk⟩, stp⟩ := hr T hT X
  cases g3
  rw [h0] at hz hk
  have hvm : t.vm.Alike s.vm := by
    have := X'.warmed.alike
    rw [e2] at this
    exact this.symm
  obtain ⟨t2, a1, b1⟩ := kk ad1 T'.heap (locs ++ Lc) g1 g2 (by rw [e1]; exact mj_Rp.moved hvm g4)
    (mj_Rp_kept hR2 fun h hh => by
      obtain ⟨-, h2⟩ := mj_Rp_addr hR2 h hh
      rw [e1]
      refine hk _ h2 fun z => ?_
      rcases z with ⟨h3, h4, h5⟩ | h3
      · exact hap h3 h4 h hh h5
      · exact absurd h2 (Nat.not_lt.mpr h3))
    ⟨Nat.le_trans hS.1 (by rw [e1]; exact hz), fun x h1 h2 => by rw [e1, hk x (Nat.lt_of_lt_of_le h1 hS.1) (fun z => h2 (hBA x z))]; exact hS.2.1 x h1 h2, fun x hx => by
      rcases List.mem_append.mp hx with h | h
      · exact hS.2.2 x h
      · exact hBA _ (hL x h)⟩ T' rfl X'
  exact ⟨t2, stp t2 a1, b1⟩
variable {cc : ByteArray}
set_option maxHeartbeats 4000000 in
/-- a call of the class, or of the model -/
theorem lw_callv (hx : p.tables.exec = Jvm.exec) (hb : cd.code = cc) (hml : cd.maxLocals = 4) (hown : s.vm.findClass "CaughtHandLaw" = some m.cls) (hts : ∀ w ∈ mj_T, w.before args s = true) {ix d z n : Nat} (hck : lw_ckv ix d z n = true) {as rest : List Value} (hlen : as.length = n) (hfl : (mj_flat (.ref 0 :: as)).length ≤ mj_ml z) (has : as.map (mj_v ad) = as) (hrest : (rest.map Value.category).sum ≤ 8) {Q1 : mjW → Option Value → Prop} (hE : mj_E z (.ref 0 :: as) w Q1) (hk0 : mj_kd w 0 = (0, mj_ci z))
    (hR : mj_Rp D A s ad w H) (hR2 : mj_Rp D A s ad2 w2 H) (hap : ∀ h, h < w.1.length → ∀ h2, h2 < w2.1.length → ad h ≠ ad2 h2) (hSt : mj_St ad A s) (hS : va_S A s.heap H locs) (hA : ∀ x : Nat, s.heap.size ≤ x → A x) (hls : ls.size = 4) (hdg : decode cc pc = .ok (.invokevirtual ix, 3)) (hc : c ≤ 600000) (hq : q ≤ 7302250)
    (kk : ∀ (w1 : mjW) (r : Option Value) (H1 : Heap) (locs1 : List Loc), Q1 w1 r → mj_Rp D A s ad w1 H1 → mj_Rp D A s ad2 w2 H1 → va_S A s.heap H1 locs1 → W p l e0 room_1 s m args below meth cd H1 locs1 c q Q (F0 m (pc + 3) ls ((r.map (mj_v ad)).toList ++ rest))) :
    W p l e0 room_1 s m args below meth cd H locs c q Q (F0 m pc ls (as.reverse ++ .ref (ad 0) :: rest)) := by
  obtain ⟨w1, r1, ⟨fu, hgo⟩, hQ⟩ := hE
  have hWk := mj_sound l D (mj_js l) mj_oks mj_moks fu _ _ _ _ _ _ _ _ _ hgo
  simp only [lw_ckv, lw_ckm, Bool.and_eq_true, decide_eq_true_eq] at hck
  obtain ⟨⟨⟨⟨⟨⟨⟨⟨⟨⟨q1, q3⟩, q4⟩, q5⟩, q6⟩, q2⟩, q7⟩, q8⟩, q9⟩, u1⟩, u2⟩ := hck
  have hmc := Nat.eq_of_beq_eq_true u1
  have hms := Nat.eq_of_beq_eq_true u2
  have hm := mj_moks z (Nat.le_of_ble_eq_true q1)
  have hcode := mj_code_before (args := args) (s := s) hm hts
  have hBA : ∀ x, mj_A ad w.1.length H.size x → A x := fun x hx => by
    rcases hx with hx | hx
    · exact (hR.self 0).2 x hx
    · exact hA x (Nat.le_trans hS.1 hx)
  have hpre : ∀ (U : State), U.heap = H → s.WarmedH U.vm → mj_Pc D ad w H.size (.ref 0 :: as) ((.ref 0 :: as).map (mj_v ad)).toArray U := fun U hU hW => ⟨rfl, by rw [hU], by rw [hU]; exact mj_Rp.moved hW.alike (hR.self H.size).1, hSt.go hW (fun x h1 h2 => by rw [hU]; exact hS.2.1 x h1 h2) hBA⟩
  obtain ⟨ca, tys, hK, hP, hD, hT⟩ := id hR
  have he := mj_ws_at (ad := ad) (ca := ca) (mj_kd_lt hk0 (by show (0 : Nat) ≠ 99; decide))
  rw [mj_ce0 hk0] at he
  have hrcv := va_recv hK hP (mj_cl_at (Nat.le_of_ble_eq_true q8)) he
  have hsum : (rest.map fun v => v.category).sum ≤ 8 := hrest
  have hpre2 : ∀ (U : State), U.heap = H → s.WarmedH U.vm → mj_Pc D ad w H.size (.ref 0 :: as) (Value.ref (ad 0) :: as).toArray U := by
    have e9 : (.ref 0 :: as : List Value).map (mj_v ad) = Value.ref (ad 0) :: as := by rw [List.map_cons, has]; rfl
    rw [e9] at hpre
    exact hpre
  have hrun := va_runV (p := p) (l := l) (e := e0) (R := room_1) (s := s) (m := m) (args := args) (below := below) (meth := meth) (c := cd) (H := H) (locs := locs) (cells := c) (slots := q) (C := (mj_nm z).cls) (b := ad 0) (As := as) (rest := rest) (nL := 4) (index := ix) (n := n) (Ts := mj_T) (own := "CaughtHandLaw") (g := F0 m pc ls (as.reverse ++ .ref (ad 0) :: rest)) ⟨hx, hb, hml, hown, hts⟩ (mj_met hm hfl hWk ad H.size)
    ⟨⟨rfl, rfl, Nat.le_of_ble_eq_true q3, Nat.le_of_ble_eq_true q4, mj_pay (ws := []) hts hcode, List.mem_cons_self, hcode, mj_mok_ini hm hts, mj_mok_cls hm, mj_par q5, mj_w1_T hts q2 rfl⟩, mj_w1_T hts q6 rfl, mj_w1_T hts q7 rfl⟩
    ⟨mj_blind, by rw [← q9]; exact hrcv, hpre2⟩ rfl hlen hls rfl (lv_room hsum) hdg ⟨by rw [hmc]; exact hc, by rw [hms]; exact hq⟩
  refine lw_use hrun hS hBA hR2 hap fun ad1 H1 locs1 g1 g2 g3 g4 g5 => ?_
  have e1 : ad1 = ad := g1 hmc
  subst e1
  have := kk w1 r1 H1 locs1 hQ (g3.weak hBA) g4 g5
  rw [hmc, hms]
  exact this
end LAW
