/-! every run of the small machine is the machine's -/
noncomputable def mj_sp : Instr → Bool
  | .getfield _ => true
  | .putfield _ => true
  | .iaload => true
  | .laload => true
  | .aaload => true
  | .iastore => true
  | .lastore => true
  | .aastore => true
  | .arraylength => true
  | .new _ => true
  | .newarray _ => true
  | .anewarray _ => true
  | .multianewarray _ _ => true
  | .invokespecial _ => true
  | .invokestatic _ => true
  | .invokevirtual _ => true
  | .ldc _ => true
  | .tableswitch _ _ _ _ => true
  | .lookupswitch _ _ => true
  | _ => false
section MAIN
variable {l : Launch} {D : va_G} {y : Nat} {p : Program} {e0 : Env} {R : Room} {s : State} {m : MethodId} {args : Array Value} {below : List Frame} {meth : Method} {cd : Code} {Q : State → Prop} {ad : Nat → Nat} {A : Nat → Prop} {H : Heap} {locs : List Loc} {ls : Array Slot} {pc : Nat} {L : mjL} {st : List Value} {w : mjW} {c q : Nat} {C : mjC}
theorem mj_sim_sound (hJ : mj_JS l) {e : mjE} (hok : mj_ok y pc e = true) (h : mj_sim y pc e L st w c q = some C)
    (hC : mj_Cx y p R s m args meth cd ad A) (hR : mj_Rp D A s ad w H) (hS : va_S A s.heap H locs) (hl : mj_ls ad ls L) (hL : L.length = mj_ml y) (hc : c ≤ mj_mc y) (hq : q ≤ mj_ms y) (hN : mj_Nx l D y p e0 R s m args below meth cd Q ad A w.1.length C) : W p l e0 R s m args below meth cd H locs c q Q (F0 m pc ls (st.map (mj_v ad))) := by
  obtain ⟨ins, ln, a, b, d, k⟩ := e
  simp only [mj_ok, Bool.and_eq_true, decide_eq_true_eq] at hok
  obtain ⟨hd, hk⟩ := hok
  cases hsp : mj_sp ins with
  | false =>
    refine mj_sim_plain ?_ hd hk h hC hR hS hl hL hc hq hN
    refine ⟨fun i z => ?_, fun i z => ?_, fun z => ?_, fun z => ?_, fun z => ?_, fun z => ?_, fun z => ?_, fun z => ?_, fun z => ?_, fun i z => ?_, fun i z => ?_, fun i z => ?_, fun i j z => ?_, fun i z => ?_, fun i z => ?_, fun i z => ?_, fun i z => ?_, fun i j u v z => ?_, fun i j z => ?_⟩ <;> (rw [z] at hsp; cases hsp)
  | true =>
    cases ins with
    | getfield i => exact mj_sim_getfield hd hk h hC hR hS hl hL hc hq hN
    | putfield i => exact mj_sim_putfield hd hk h hC hR hS hl hL hc hq hN
    | iaload => exact mj_sim_array (Or.inl rfl) hd hk h hC hR hS hl hL hc hq hN
    | laload => exact mj_sim_array (Or.inr (Or.inl rfl)) hd hk h hC hR hS hl hL hc hq hN
    | aaload => exact mj_sim_array (Or.inr (Or.inr (Or.inl rfl))) hd hk h hC hR hS hl hL hc hq hN
    | iastore => exact mj_sim_array (Or.inr (Or.inr (Or.inr (Or.inl rfl)))) hd hk h hC hR hS hl hL hc hq hN
    | lastore => exact mj_sim_array (Or.inr (Or.inr (Or.inr (Or.inr (Or.inl rfl))))) hd hk h hC hR hS hl hL hc hq hN
    | aastore => exact mj_sim_array (Or.inr (Or.inr (Or.inr (Or.inr (Or.inr (Or.inl rfl)))))) hd hk h hC hR hS hl hL hc hq hN
    | arraylength => exact mj_sim_array (Or.inr (Or.inr (Or.inr (Or.inr (Or.inr (Or.inr rfl)))))) hd hk h hC hR hS hl hL hc hq hN
    | new i => exact mj_sim_new hd hk h hC hR hS hl hL hc hq hN
    | newarray i => exact mj_sim_newarray hd hk h hC hR hS hl hL hc hq hN
    | anewarray i => exact mj_sim_anewarray hd hk h hC hR hS hl hL hc hq hN
    | multianewarray i j => exact mj_sim_multi hd hk h hC hR hS hl hL hc hq hN
    | invokespecial i => exact mj_sim_jdk hJ (Or.inl ⟨_, rfl⟩) hd hk h hC hR hS hl hL hc hq hN
    | invokestatic i => exact mj_sim_jdk hJ (Or.inr (Or.inl ⟨_, rfl⟩)) hd hk h hC hR hS hl hL hc hq hN
    | invokevirtual i => exact mj_sim_jdk hJ (Or.inr (Or.inr ⟨_, rfl⟩)) hd hk h hC hR hS hl hL hc hq hN
    | ldc i => exact mj_sim_switch (Or.inr (Or.inr ⟨_, rfl⟩)) hd hk h hC hR hS hl hL hc hq hN
    | tableswitch i j u v => exact mj_sim_switch (Or.inl ⟨_, _, _, _, rfl⟩) hd hk h hC hR hS hl hL hc hq hN
    | lookupswitch i j => exact mj_sim_switch (Or.inr (Or.inl ⟨_, _, rfl⟩)) hd hk h hC hR hS hl hL hc hq hN
    | _ => cases hsp
end MAIN
set_option maxHeartbeats 8000000 in
theorem mj_sim_grow {y pc : Nat} {e : mjE} {L : mjL} {st : List Value} {w : mjW} {c q : Nat} {C : mjC} (h : mj_sim y pc e L st w c q = some C) : w.1.length ≤ C.2.2.2.1.1.length := by
  obtain ⟨ins, ln, a, b, d, k⟩ := e
  cases ins <;> simp only [mj_sim] at h <;> first
    | (cases h; done)
    | (cases h; exact Nat.le_refl _)
    | (repeat' split at h
       all_goals (try simp only [mj_ldi, mj_ldl, mj_ldr, mj_p1, mj_p2, mj_q1, mj_q2, mj_pr, mj_pir, mj_prr, mj_piir, mj_plir, mj_prir, mj_pcp, mj_ix, mj_r8] at h)
       all_goals (repeat' split at h)
       all_goals first
         | (cases h; done)
         | (cases h; exact Nat.le_refl _)
         | (cases h; simp))
theorem mj_run_grow : ∀ (n y pc : Nat) (L : mjL) (st : List Value) (w : mjW) (c q : Nat) (w' : mjW) (r : Option Value), mj_run n y pc L st w c q = some (w', r) → w.1.length ≤ w'.1.length := by
  intro n
  induction n with
  | zero => intro y pc L st w c q w' r h; cases h
  | succ n ih =>
    intro y pc L st w c q w' r h
    rw [mj_run_succ] at h
    cases hc : mj_code y pc with
    | none => rw [hc] at h; cases h
    | some e =>
      rw [hc] at h
      try dsimp only at h
      by_cases ho : mj_op e = 0
      · rw [if_pos ho] at h
        cases hC : mj_sim y pc e L st w c q with
        | none => rw [hC] at h; cases h
        | some C => rw [hC] at h; exact Nat.le_trans (mj_sim_grow hC) (ih _ _ _ _ _ _ _ _ _ h)
      rw [if_neg ho] at h
      by_cases ho1 : mj_op e = 1
      · rw [if_pos ho1] at h
        unfold mj_rtn at h
        repeat' split at h
        all_goals first
          | (cases h; done)
          | (cases h; exact Nat.le_refl _)
      · rw [if_neg ho1] at h
        cases hC : mj_call e st w with
        | none => rw [hC] at h; cases h
        | some ar =>
          rw [hC] at h
          try dsimp only at h
          split at h
          · next hk =>
            cases hR : mj_run n e.2.2.2.1 0 (mj_entry e.2.2.2.1 ar.1) [] w 0 0 with
            | none => rw [hR] at h; cases h
            | some wr =>
              rw [hR] at h
              exact Nat.le_trans (ih _ _ _ _ _ _ _ wr.1 wr.2 hR) (ih _ _ _ _ _ _ _ _ _ h)
          · cases h
theorem mj_rtn_spec {y pc : Nat} {e : mjE} {st : List Value} {w w' : mjW} {r : Option Value} (hok : mj_ok y pc e = true) (h : mj_rtn y e st w = some (w', r)) : w' = w ∧ st = r.toList ∧ mj_rd y pc r := by
  obtain ⟨ins, ln, a, b, d, k⟩ := e
  simp only [mj_ok, Bool.and_eq_true, decide_eq_true_eq] at hok
  obtain ⟨hd, hk⟩ := hok
  cases ins with
  | ireturn =>
    obtain rfl := Nat.eq_of_beq_eq_true (show Nat.beq ln 1 = true from hk)
    simp only [mj_rtn] at h
    split at h
    · next v =>
      split at h
      · next hr => cases h; exact ⟨rfl, rfl, hd, Or.inl hr⟩
      · next hr =>
        split at h
        · next hv => cases h; exact ⟨rfl, rfl, hd, Or.inr ⟨hr, hv⟩⟩
        · cases h
      · cases h
    · cases h
  | lreturn =>
    obtain rfl := Nat.eq_of_beq_eq_true (show Nat.beq ln 1 = true from hk)
    simp only [mj_rtn] at h
    split at h
    · next v =>
      split at h
      · next hr => cases h; exact ⟨rfl, rfl, hd, hr⟩
      · cases h
    · cases h
  | return_ =>
    obtain rfl := Nat.eq_of_beq_eq_true (show Nat.beq ln 1 = true from hk)
    simp only [mj_rtn] at h
    split at h
    · split at h
      · next hr => cases h; exact ⟨rfl, rfl, hd, hr⟩
      · cases h
    · cases h
  | _ => cases h
section CALL
variable {l : Launch} {D : va_G} {y : Nat} {p : Program} {e0 : Env} {R : Room} {s : State} {m : MethodId} {args : Array Value} {below : List Frame} {meth : Method} {cd : Code} {Q : State → Prop} {ad : Nat → Nat} {A B : Nat → Prop} {H : Heap} {locs : List Loc} {ls : Array Slot} {pc : Nat} {L : mjL} {st : List Value} {w w1 : mjW} {c q : Nat} {r1 : Option Value}
theorem mj_use {st0 restv : List Value} {mcz msz n mc0 : Nat} {a0 : Array Value} (hr : va_Run p l e0 R s m args below meth cd H locs c q mcz msz (F0 m pc ls st0) restv (mj_Qc D B ad n mc0 w1 r1 a0) B) (hS : va_S A s.heap H locs) (hBA : ∀ x, B x → A x)
    (kk : ∀ (ad1 : Nat → Nat) (H1 : Heap) (locs1 : List Loc), (mc0 = 0 → ad1 = ad) → (∀ h : Nat, h < n ∨ h = 1000 → ad1 h = ad h) → mj_Rp D A s ad1 w1 H1 → va_S A s.heap H1 locs1 → W p l e0 R s m args below meth cd H1 locs1 (c + mcz) (q + msz) Q (F0 m (pc + 3) ls ((r1.map (mj_v ad1)).toList ++ restv))) : W p l e0 R s m args below meth cd H locs c q Q (F0 m pc ls st0) := by
  intro T hT X
  obtain ⟨v, st₀, t, T', Lc, h0, X', hL, e1, e2, ⟨⟨ad1, g1, g2, g3, g4⟩, hz, hk⟩, stp⟩ := hr T hT X
  cases g3
  rw [h0] at hz hk
  have hvm : t.vm.Alike s.vm := by
    have := X'.warmed.alike
    rw [e2] at this
    exact this.symm
  obtain ⟨t2, a1, b1⟩ := kk ad1 T'.heap (locs ++ Lc) g1 g2 (by rw [e1]; exact (mj_Rp.moved hvm g4).weak hBA)
    ⟨Nat.le_trans hS.1 (by rw [e1]; exact hz), fun x h1 h2 => by rw [e1, hk x (Nat.lt_of_lt_of_le h1 hS.1) (fun z => h2 (hBA x z))]; exact hS.2.1 x h1 h2, fun x hx => by
      rcases List.mem_append.mp hx with h | h
      · exact hS.2.2 x h
      · exact hBA _ (hL x h)⟩ T' rfl X'
  exact ⟨t2, stp t2 a1, b1⟩
theorem mj_blind {as : List Value} {sz : Nat} : FrameBlind (mj_Pc D ad w sz as) := fun a U g mk z => ⟨z.1, z.2.1, mj_Rp.moved (u := U) (U := U.calling g mk a) (Vm.Alike.refl U.vm) z.2.2.1, z.2.2.2.blind⟩
theorem mj_pay {ws : List Jvm.Cond} {z : Nat} (hts : ∀ w ∈ mj_T, w.before args s = true) (hcode : (Jvm.Cond.code (mj_nm z) (mj_b z) (mj_ml z) (mj_ret z)).before args s = true) : ∀ w ∈ mj_wsz z, ∀ (a' : Array Value) (U : State), s.WarmedH U.vm → w.before a' U = true := fun w hw a' U hW => by
  rcases List.mem_cons.mp hw with rfl | hw
  · exact word_at hW (Or.inl rfl) hcode
  · exact word_at hW (good_of_word (List.mem_filter.mp hw).2) (hts w hw)
theorem mj_par {z n : Nat} (h : (parseMethodDescriptor (mj_nm z).desc).map (fun d => d.parameters.length) = some n) : ∀ sig, parseMethodDescriptor (mj_nm z).desc = some sig → n = sig.parameters.length := fun sig hs => by
  rw [hs] at h
  exact (Option.some.inj h).symm
theorem mj_mok_cls {z : Nat} (hm : mj_mok z = true) : (mj_nm z).cls ≠ "java/lang/invoke/MethodHandle" ∧ (mj_nm z).cls ≠ "java/lang/invoke/VarHandle" := by
  simp only [mj_mok, Bool.and_eq_true, Bool.not_eq_true', decide_eq_false_iff_not] at hm
  exact ⟨hm.1.2, hm.2⟩
theorem mj_mok_ini {z : Nat} (hm : mj_mok z = true) (hts : ∀ w ∈ mj_T, w.before args s = true) : (Jvm.Cond.initialized (mj_nm z).cls).before args s = true := by
  simp only [mj_mok, Bool.and_eq_true] at hm
  exact mj_w1_T hts hm.1.1.1.2 rfl
theorem mj_cok_spec {z : Nat} {as rest : List Value} (h : mj_cok y z L as rest w c q = true) : (rest.map Value.category).sum ≤ 8 ∧ (mj_flat as).length ≤ mj_ml z ∧ c + mj_mc z ≤ mj_mc y ∧ q + mj_ms z ≤ mj_ms y ∧ (mj_mc z = 0 ∨ mj_wf w L rest = true) := by
  simp only [mj_cok, Bool.and_eq_true, Bool.or_eq_true] at h
  obtain ⟨⟨⟨⟨h1, h2⟩, h3⟩, h4⟩, h5⟩ := h
  exact ⟨Nat.le_of_ble_eq_true h1, Nat.le_of_ble_eq_true h2, Nat.le_of_ble_eq_true h3, Nat.le_of_ble_eq_true h4, h5.imp Nat.eq_of_beq_eq_true id⟩
theorem mj_split {n : Nat} (ad : Nat → Nat) : st.map (mj_v ad) = (((st.take n).reverse.map (mj_v ad)).reverse) ++ (st.drop n).map (mj_v ad) := by
  rw [← List.map_reverse, List.reverse_reverse, ← List.map_append, List.take_append_drop]
set_option maxHeartbeats 8000000 in
theorem mj_call_W {e : mjE} {as rest : List Value} (hmok : ∀ z, z < mj_N → mj_mok z = true) (hok : mj_ok y pc e = true) (ho0 : mj_op e ≠ 0) (ho1 : mj_op e ≠ 1) (ha : mj_call e st w = some (as, rest)) (hk : mj_cok y e.2.2.2.1 L as rest w c q = true) (hWk : mj_Wk l D e.2.2.2.1 0 (mj_entry e.2.2.2.1 as) [] w 0 0 w1 r1)
    (hC : mj_Cx y p R s m args meth cd ad A) (hR : mj_Rp D A s ad w H) (hS : va_S A s.heap H locs) (hl : mj_ls ad ls L) (hL : L.length = mj_ml y) (hc : c ≤ mj_mc y) (hq : q ≤ mj_ms y)
    (hN : ∀ (ad1 : Nat → Nat) (H1 : Heap) (locs1 : List Loc), (mj_mc y = 0 → ad1 = ad) → (∀ h : Nat, h < w.1.length ∨ h = 1000 → ad1 h = ad h) → mj_Rp D A s ad1 w1 H1 → va_S A s.heap H1 locs1 → mj_ls ad1 ls L → W p l e0 R s m args below meth cd H1 locs1 (c + mj_mc e.2.2.2.1) (q + mj_ms e.2.2.2.1) Q (F0 m (pc + 3) ls ((r1.toList ++ rest).map (mj_v ad1)))) : W p l e0 R s m args below meth cd H locs c q Q (F0 m pc ls (st.map (mj_v ad))) := by
  obtain ⟨ins, ln, a, b, d, k⟩ := e
  simp only [mj_ok, Bool.and_eq_true, decide_eq_true_eq] at hok
  obtain ⟨hd, hok⟩ := hok
  obtain ⟨hx, hb, hml, hown, hts, hnm, hr, hlk, rfl, hSt, hA⟩ := hC
  obtain ⟨k1, k2, k3, k4, k5⟩ := mj_cok_spec hk
  dsimp only at hWk hN k1 k2 k3 k4 k5 ha
  have hBA : ∀ x, mj_A ad w.1.length H.size x → A x := fun x hx => by
    rcases hx with hx | hx
    · exact (hR.self 0).2 x hx
    · exact hA x (Nat.le_trans hS.1 hx)
  have hfin : ∀ (ad1 : Nat → Nat) (H1 : Heap) (locs1 : List Loc), (mj_mc b = 0 → ad1 = ad) → (∀ h : Nat, h < w.1.length ∨ h = 1000 → ad1 h = ad h) → mj_Rp D A s ad1 w1 H1 → va_S A s.heap H1 locs1 → W p l e0 (mj_rm y) s m args below meth cd H1 locs1 (c + mj_mc b) (q + mj_ms b) Q (F0 m (pc + 3) ls ((r1.map (mj_v ad1)).toList ++ rest.map (mj_v ad))) := by
    intro ad1 H1 locs1 g1 g2 g3 g4
    have hrest : rest.map (mj_v ad1) = rest.map (mj_v ad) ∧ mj_ls ad1 ls L := by
      rcases k5 with k5 | k5
      · rw [g1 k5]; exact ⟨rfl, hl⟩
      · obtain ⟨w1, w2, w3, w4⟩ := mj_wf_spec k5
        exact ⟨mj_st_ext g2 w1, mj_ls_ext g2 w2 hl⟩
    have := hN ad1 H1 locs1 (fun z => g1 (by omega)) g2 g3 g4 hrest.2
    rw [List.map_append, hrest.1] at this
    have e9 : (r1.map (mj_v ad1)).toList = r1.toList.map (mj_v ad1) := by cases r1 <;> rfl
    rw [e9]
    exact this
  have hpre : ∀ (U : State), U.heap = H → s.WarmedH U.vm → mj_Pc D ad w H.size as (as.map (mj_v ad)).toArray U := fun U hU hW => ⟨rfl, by rw [hU], by rw [hU]; exact mj_Rp.moved hW.alike (hR.self H.size).1, hSt.go hW (fun x h1 h2 => by rw [hU]; exact hS.2.1 x h1 h2) hBA⟩
  have hlsz : ls.size = mj_ml y := by rw [← hL]; exact hl.1
  have hroom : 2 * (F0 m pc ls (st.map (mj_v ad))).monitorRoom + ((rest.map (mj_v ad)).map fun v => v.category).sum ≤ 8 := lv_room (by rw [mj_sum8]; exact k1)
  have hroomy : ∀ {zz : Nat}, Nat.ble (8 + (mj_ml zz + 11) + mj_rl zz) (mj_rl y) = true → 8 + (mj_ml zz + 11) + (mj_rm zz).locals ≤ (mj_rm y).locals := fun h => Nat.le_of_ble_eq_true h
  cases ins with
  | invokestatic i =>
    simp only [mj_okc, Bool.and_eq_true] at hok
    obtain ⟨q0, hok⟩ := hok
    obtain rfl := Nat.eq_of_beq_eq_true q0
    split at hok
    · simp only [Bool.and_eq_true, decide_eq_true_eq] at hok
      obtain ⟨⟨⟨⟨⟨q1, q2⟩, q3⟩, q4⟩, q5⟩, q6⟩ := hok
      have hm := hmok b (Nat.le_of_ble_eq_true q1)
      have hcode := mj_code_before (args := args) (s := s) hm hts
      simp only [mj_call] at ha
      split at ha
      · next hle =>
        cases ha
        refine mj_use (va_runS (As := ((st.take k.toNat).reverse.map (mj_v ad))) (rest := (st.drop k.toNat).map (mj_v ad)) (nL := mj_ml y) (index := i) (n := k.toNat) (Ts := mj_T) ⟨hx, hb, hml, hown, hts⟩ (mj_met hm k2 hWk ad H.size)
          ⟨⟨rfl, rfl, Nat.le_of_ble_eq_true q3, hroomy q4, mj_pay (ws := []) hts hcode, List.mem_cons_self, hcode, mj_mok_ini hm hts, mj_mok_cls hm, mj_par q5, mj_w1_T hts q2 rfl⟩, mj_w1_T hts q6 rfl⟩
          ⟨mj_blind, hpre⟩ rfl (by simp; omega) hlsz (mj_split ad) hroom hd ⟨k3, k4⟩) hS hBA hfin
      · cases ha
    · exact absurd rfl ho0
    · exact absurd rfl ho0
    · cases hok
  | invokevirtual i =>
    simp only [mj_okc, Bool.and_eq_true] at hok
    obtain ⟨q0, hok⟩ := hok
    obtain rfl := Nat.eq_of_beq_eq_true q0
    split at hok
    · simp only [Bool.and_eq_true, decide_eq_true_eq] at hok
      obtain ⟨⟨⟨⟨⟨⟨⟨⟨q1, q2⟩, q3⟩, q4⟩, q5⟩, q6⟩, q7⟩, q8⟩, q9⟩ := hok
      have hm := hmok b (Nat.le_of_ble_eq_true q1)
      have hcode := mj_code_before (args := args) (s := s) hm hts
      simp only [mj_call] at ha
      split at ha
      · next h0 r0 hdr =>
        split at ha
        · next hkd =>
          cases ha
          have hlen : k.toNat < st.length := by
            refine Nat.lt_of_not_le fun hle => ?_
            rw [List.drop_eq_nil_of_le hle] at hdr
            cases hdr
          obtain ⟨ca, tys, hK, hP, hD, hT⟩ := id hR
          have he := mj_ws_at (ad := ad) (ca := ca) (mj_kd_lt hkd (by show (0 : Nat) ≠ 99; decide))
          rw [mj_ce0 hkd] at he
          have hrcv := va_recv hK hP (mj_cl_at (Nat.le_of_ble_eq_true q8)) he
          refine mj_use (va_runV (C := (mj_nm b).cls) (b := ad h0) (As := ((st.take k.toNat).reverse.map (mj_v ad))) (rest := rest.map (mj_v ad)) (nL := mj_ml y) (index := i) (n := k.toNat) (Ts := mj_T) ⟨hx, hb, hml, hown, hts⟩ (mj_met hm k2 hWk ad H.size)
            ⟨⟨rfl, rfl, Nat.le_of_ble_eq_true q3, hroomy q4, mj_pay (ws := []) hts hcode, List.mem_cons_self, hcode, mj_mok_ini hm hts, mj_mok_cls hm, mj_par q5, mj_w1_T hts q2 rfl⟩, mj_w1_T hts q6 rfl, mj_w1_T hts q7 rfl⟩
            ⟨mj_blind, by rw [← q9]; exact hrcv, hpre⟩ rfl (by simp; omega) hlsz (by rw [mj_split (n := k.toNat) ad, hdr]; rfl) hroom hd ⟨k3, k4⟩) hS hBA hfin
        · cases ha
      · cases ha
    · exact absurd rfl ho0
    · cases hok
  | invokespecial i =>
    simp only [mj_okc, Bool.and_eq_true] at hok
    obtain ⟨q0, hok⟩ := hok
    obtain rfl := Nat.eq_of_beq_eq_true q0
    split at hok
    · simp only [Bool.and_eq_true, decide_eq_true_eq] at hok
      obtain ⟨⟨⟨⟨⟨⟨⟨q1, q2⟩, q3⟩, q4⟩, q5⟩, q6⟩, q7⟩, q8⟩ := hok
      have hm := hmok b (Nat.le_of_ble_eq_true q1)
      have hcode := mj_code_before (args := args) (s := s) hm hts
      simp only [mj_call] at ha
      split at ha
      · next h0 r0 hdr =>
        split at ha
        · next hkd =>
          cases ha
          have hlen : k.toNat < st.length := by
            refine Nat.lt_of_not_le fun hle => ?_
            rw [List.drop_eq_nil_of_le hle] at hdr
            cases hdr
          have hM := mj_met hm k2 hWk ad H.size
          unfold mj_wsz at hM
          rw [q8] at hM hcode
          refine mj_use (va_runI (b := ad h0) (As := ((st.take k.toNat).reverse.map (mj_v ad))) (rest := rest.map (mj_v ad)) (nL := mj_ml y) (index := i) (n := k.toNat) (Ts := mj_T) ⟨hx, hb, hml, hown, hts⟩ hM
            ⟨⟨rfl, rfl, Nat.le_of_ble_eq_true q3, hroomy q4, by rw [← q8]; rw [← q8] at hcode; exact mj_pay (ws := []) hts hcode, List.mem_cons_self, hcode, mj_mok_ini hm hts, mj_mok_cls hm, mj_par q5, mj_w1_T hts q2 rfl⟩, q7, mj_w1_T hts q6 rfl⟩
            ⟨mj_blind, hpre⟩ rfl (by simp; omega) hlsz (by rw [mj_split (n := k.toNat) ad, hdr]; rfl) hroom hd ⟨k3, k4⟩) hS hBA hfin
        · cases ha
      · cases ha
    · simp only [Bool.and_eq_true, decide_eq_true_eq] at hok
      obtain ⟨⟨⟨⟨⟨⟨⟨q1, q2⟩, q3⟩, q4⟩, q5⟩, q6⟩, q7⟩, q8⟩ := hok
      have hm := hmok b (Nat.le_of_ble_eq_true q1)
      have hcode := mj_code_before (args := args) (s := s) hm hts
      simp only [mj_call] at ha
      split at ha
      · next h0 r0 hdr =>
        split at ha
        · next hkd =>
          cases ha
          have hlen : k.toNat < st.length := by
            refine Nat.lt_of_not_le fun hle => ?_
            rw [List.drop_eq_nil_of_le hle] at hdr
            cases hdr
          have hM := mj_met hm k2 hWk ad H.size
          unfold mj_wsz at hM
          rw [q8] at hM hcode
          have hlk2 : (Jvm.Cond.methodLinkNest (mj_own y) i (mj_nm b) "CaughtHand").before args s = true := va_Nw.use rfl (hSt.1 _ q2)
          refine mj_use (va_runIN (host := "CaughtHand") (b := ad h0) (As := ((st.take k.toNat).reverse.map (mj_v ad))) (rest := rest.map (mj_v ad)) (nL := mj_ml y) (index := i) (n := k.toNat) (Ts := mj_T) ⟨hx, hb, hml, hown, hts⟩ hM
            ⟨⟨⟨rfl, rfl, Nat.le_of_ble_eq_true q3, hroomy q4, by rw [← q8]; rw [← q8] at hcode; exact mj_pay (ws := []) hts hcode, List.mem_cons_self⟩, hcode, mj_mok_ini hm hts, mj_mok_cls hm, mj_par q5, hlk2⟩, q7, mj_w1_T hts q6 rfl⟩
            ⟨mj_blind, hpre⟩ rfl (by simp; omega) hlsz (by rw [mj_split (n := k.toNat) ad, hdr]; rfl) hroom hd ⟨k3, k4⟩) hS hBA hfin
        · cases ha
      · cases ha
    · exact absurd rfl ho0
    · cases hok
  | ireturn => exact absurd rfl ho1
  | lreturn => exact absurd rfl ho1
  | return_ => exact absurd rfl ho1
  | _ => exact absurd rfl ho0
end CALL
set_option maxHeartbeats 4000000 in
/-- the small machine's run is the machine's walk -/
theorem mj_sound (l : Launch) (D : va_G) (hJ : mj_JS l) (hok : ∀ (y pc : Nat) (e : mjE), mj_code y pc = some e → mj_ok y pc e = true) (hmok : ∀ z, z < mj_N → mj_mok z = true) : ∀ (n y pc : Nat) (L : mjL) (st : List Value) (w : mjW) (c q : Nat) (w' : mjW) (r : Option Value), mj_run n y pc L st w c q = some (w', r) → mj_Wk l D y pc L st w c q w' r := by
  intro n
  induction n with
  | zero => intro y pc L st w c q w' r h; cases h
  | succ n ih =>
    intro y pc L st w c q w' r h
    intro p e0 R s m args below meth cd Q ad A H locs ls hC hR hS hl hL hc hq hK
    rw [mj_run_succ] at h
    cases hcd : mj_code y pc with
    | none => rw [hcd] at h; cases h
    | some e =>
      rw [hcd] at h
      try dsimp only at h
      have hke := hok y pc e hcd
      by_cases ho : mj_op e = 0
      · rw [if_pos ho] at h
        cases hsim : mj_sim y pc e L st w c q with
        | none => rw [hsim] at h; cases h
        | some C =>
          rw [hsim] at h
          have hgrow := mj_sim_grow hsim
          refine mj_sim_sound hJ hke hsim hC hR hS hl hL hc hq ?_
          intro ad1 H1 locs1 ls1 g1 g2 g3 g4 g5 g6 g7 g8
          obtain ⟨hx, hb, hml, hown, hts, hnm, hr, hlk, hRm, hSt, hA⟩ := hC
          have hSt1 : mj_St ad1 A s := by
            obtain ⟨f1, f2, f3, f4, f5, f6⟩ := hSt
            rw [← g2 1000 (Or.inr rfl)] at f4 f5
            exact ⟨f1, f2, f3, f4, f5, f6⟩
          refine ih _ _ _ _ _ _ _ _ _ h p e0 R s m args below meth cd Q ad1 A H1 locs1 ls1 ⟨hx, hb, hml, hown, hts, hnm, hr, hlk, hRm, hSt1, hA⟩ g3 g4 g5 g6 g7 g8 ?_
          intro ad2 H2 locs2 pc2 ls2 c2 q2 k1 k2 k3 k4 k5 k6 k7
          exact hK ad2 H2 locs2 pc2 ls2 c2 q2 (fun z => (k1 z).trans (g1 z)) (fun h hh => (k2 h (hh.imp (fun z => Nat.lt_of_lt_of_le z hgrow) id)).trans (g2 h hh)) k3 k4 k5 k6 k7
      rw [if_neg ho] at h
      by_cases ho1 : mj_op e = 1
      · rw [if_pos ho1] at h
        obtain ⟨rfl, rfl, hrd⟩ := mj_rtn_spec hke h
        have e9 : (r.map (mj_v ad)).toList = r.toList.map (mj_v ad) := by cases r <;> rfl
        have := hK ad H locs pc ls c q (fun _ => rfl) (fun _ _ => rfl) hR hS hc hq hrd
        rw [e9] at this
        exact this
      · rw [if_neg ho1] at h
        cases hcl : mj_call e st w with
        | none => rw [hcl] at h; cases h
        | some ar =>
          rw [hcl] at h
          try dsimp only at h
          split at h
          · next hk =>
            cases hrun : mj_run n e.2.2.2.1 0 (mj_entry e.2.2.2.1 ar.1) [] w 0 0 with
            | none => rw [hrun] at h; cases h
            | some wr =>
              rw [hrun] at h
              have hgrow := mj_run_grow _ _ _ _ _ _ _ _ wr.1 wr.2 hrun
              obtain ⟨-, -, k3, k4, -⟩ := mj_cok_spec hk
              refine mj_call_W (as := ar.1) (rest := ar.2) (w1 := wr.1) (r1 := wr.2) hmok hke ho ho1 hcl hk (ih _ _ _ _ _ _ _ _ _ hrun) hC hR hS hl hL hc hq ?_
              intro ad1 H1 locs1 g1 g2 g3 g4 g5
              obtain ⟨hx, hb, hml, hown, hts, hnm, hr, hlk, hRm, hSt, hA⟩ := hC
              have hSt1 : mj_St ad1 A s := by
                obtain ⟨f1, f2, f3, f4, f5, f6⟩ := hSt
                rw [← g2 1000 (Or.inr rfl)] at f4 f5
                exact ⟨f1, f2, f3, f4, f5, f6⟩
              refine ih _ _ _ _ _ _ _ _ _ h p e0 R s m args below meth cd Q ad1 A H1 locs1 ls ⟨hx, hb, hml, hown, hts, hnm, hr, hlk, hRm, hSt1, hA⟩ g3 g4 g5 hL k3 k4 ?_
              intro ad2 H2 locs2 pc2 ls2 c2 q2 k1 k2 k3 k4 k5 k6 k7
              exact hK ad2 H2 locs2 pc2 ls2 c2 q2 (fun z => (k1 z).trans (g1 z)) (fun h hh => (k2 h (hh.imp (fun z => Nat.lt_of_lt_of_le z hgrow) id)).trans (g2 h hh)) k3 k4 k5 k6 k7
          · cases h
