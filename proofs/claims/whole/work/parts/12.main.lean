/-! every run of the small machine is the machine's -/
noncomputable def mj_sp : Instr → Bool
  | .getfield _ => true
  | .putfield _ => true
  | .iaload => true
  | .laload => true
  | .aaload => true
  | .iastore => true
  | .lastore => true
  | .aastore => true
  | .arraylength => true
  | .new _ => true
  | .newarray _ => true
  | .anewarray _ => true
  | .multianewarray _ _ => true
  | .invokespecial _ => true
  | .invokestatic _ => true
  | .invokevirtual _ => true
  | .ldc _ => true
  | .tableswitch _ _ _ _ => true
  | .lookupswitch _ _ => true
  | _ => false
section MAIN
variable {l : Launch} {D : va_G} {y : Nat} {p : Program} {e0 : Env} {R : Room} {s : State} {m : MethodId} {args : Array Value} {below : List Frame} {meth : Method} {cd : Code} {Q : State → Prop} {ad : Nat → Nat} {A : Nat → Prop} {H : Heap} {locs : List Loc} {ls : Array Slot} {pc : Nat} {L : mjL} {st : List Value} {w : mjW} {c q : Nat} {C : mjC}
theorem mj_sim_sound (hJ : mj_JS l) {e : mjE} (hok : mj_ok y pc e = true) (h : mj_sim y pc e L st w c q = some C)
    (hC : mj_Cx y p R s m args meth cd ad A) (hR : mj_Rp D A s ad w H) (hS : va_S A s.heap H locs) (hl : mj_ls ad ls L) (hL : L.length = mj_ml y) (hc : c ≤ mj_mc y) (hq : q ≤ mj_ms y) (hN : mj_Nx l D y p e0 R s m args below meth cd Q ad A w.1.length C) : W p l e0 R s m args below meth cd H locs c q Q (F0 m pc ls (st.map (mj_v ad))) := by
  obtain ⟨ins, ln, a, b, d, k⟩ := e
  simp only [mj_ok, Bool.and_eq_true, decide_eq_true_eq] at hok
  obtain ⟨hd, hk⟩ := hok
  cases hsp : mj_sp ins with
  | false =>
    refine mj_sim_plain ?_ hd hk h hC hR hS hl hL hc hq hN
    refine ⟨fun i z => ?_, fun i z => ?_, fun z => ?_, fun z => ?_, fun z => ?_, fun z => ?_, fun z => ?_, fun z => ?_, fun z => ?_, fun i z => ?_, fun i z => ?_, fun i z => ?_, fun i j z => ?_, fun i z => ?_, fun i z => ?_, fun i z => ?_, fun i z => ?_, fun i j u v z => ?_, fun i j z => ?_⟩ <;> (rw [z] at hsp; cases hsp)
  | true =>
    cases ins with
    | getfield i => exact mj_sim_getfield hd hk h hC hR hS hl hL hc hq hN
    | putfield i => exact mj_sim_putfield hd hk h hC hR hS hl hL hc hq hN
    | iaload => exact mj_sim_array (Or.inl rfl) hd hk h hC hR hS hl hL hc hq hN
    | laload => exact mj_sim_array (Or.inr (Or.inl rfl)) hd hk h hC hR hS hl hL hc hq hN
    | aaload => exact mj_sim_array (Or.inr (Or.inr (Or.inl rfl))) hd hk h hC hR hS hl hL hc hq hN
    | iastore => exact mj_sim_array (Or.inr (Or.inr (Or.inr (Or.inl rfl)))) hd hk h hC hR hS hl hL hc hq hN
    | lastore => exact mj_sim_array (Or.inr (Or.inr (Or.inr (Or.inr (Or.inl rfl))))) hd hk h hC hR hS hl hL hc hq hN
    | aastore => exact mj_sim_array (Or.inr (Or.inr (Or.inr (Or.inr (Or.inr (Or.inl rfl)))))) hd hk h hC hR hS hl hL hc hq hN
    | arraylength => exact mj_sim_array (Or.inr (Or.inr (Or.inr (Or.inr (Or.inr (Or.inr rfl)))))) hd hk h hC hR hS hl hL hc hq hN
    | new i => exact mj_sim_new hd hk h hC hR hS hl hL hc hq hN
    | newarray i => exact mj_sim_newarray hd hk h hC hR hS hl hL hc hq hN
    | anewarray i => exact mj_sim_anewarray hd hk h hC hR hS hl hL hc hq hN
    | multianewarray i j => exact mj_sim_multi hd hk h hC hR hS hl hL hc hq hN
    | invokespecial i => exact mj_sim_jdk hJ (Or.inl ⟨_, rfl⟩) hd hk h hC hR hS hl hL hc hq hN
    | invokestatic i => exact mj_sim_jdk hJ (Or.inr (Or.inl ⟨_, rfl⟩)) hd hk h hC hR hS hl hL hc hq hN
    | invokevirtual i => exact mj_sim_jdk hJ (Or.inr (Or.inr ⟨_, rfl⟩)) hd hk h hC hR hS hl hL hc hq hN
    | ldc i => exact mj_sim_switch (Or.inr (Or.inr ⟨_, rfl⟩)) hd hk h hC hR hS hl hL hc hq hN
    | tableswitch i j u v => exact mj_sim_switch (Or.inl ⟨_, _, _, _, rfl⟩) hd hk h hC hR hS hl hL hc hq hN
    | lookupswitch i j => exact mj_sim_switch (Or.inr (Or.inl ⟨_, _, rfl⟩)) hd hk h hC hR hS hl hL hc hq hN
    | _ => cases hsp
end MAIN
set_option maxHeartbeats 8000000 in
theorem mj_sim_grow {y pc : Nat} {e : mjE} {L : mjL} {st : List Value} {w : mjW} {c q : Nat} {C : mjC} (h : mj_sim y pc e L st w c q = some C) : w.1.length ≤ C.2.2.2.1.1.length := by
  obtain ⟨ins, ln, a, b, d, k⟩ := e
  cases ins <;> simp only [mj_sim] at h <;> first
    | (cases h; done)
    | (cases h; exact Nat.le_refl _)
    | (repeat' split at h
       all_goals (try simp only [mj_ldi, mj_ldl, mj_ldr, mj_p1, mj_p2, mj_q1, mj_q2, mj_pr, mj_pir, mj_prr, mj_piir, mj_plir, mj_prir, mj_pcp, mj_ix, mj_r8] at h)
       all_goals (repeat' split at h)
       all_goals first
         | (cases h; done)
         | (cases h; exact Nat.le_refl _)
         | (cases h; simp))
theorem mj_run_grow : ∀ (n y pc : Nat) (L : mjL) (st : List Value) (w : mjW) (c q : Nat) (w' : mjW) (r : Option Value), mj_run n y pc L st w c q = some (w', r) → w.1.length ≤ w'.1.length := by
  intro n
  induction n with
  | zero => intro y pc L st w c q w' r h; cases h
  | succ n ih =>
    intro y pc L st w c q w' r h
    rw [mj_run_succ] at h
    cases hc : mj_code y pc with
    | none => rw [hc] at h; cases h
    | some e =>
      rw [hc] at h
      try dsimp only at h
      by_cases ho : mj_op e = 0
      · rw [if_pos ho] at h
        cases hC : mj_sim y pc e L st w c q with
        | none => rw [hC] at h; cases h
        | some C => rw [hC] at h; exact Nat.le_trans (mj_sim_grow hC) (ih _ _ _ _ _ _ _ _ _ h)
      rw [if_neg ho] at h
      by_cases ho1 : mj_op e = 1
      · rw [if_pos ho1] at h
        unfold mj_rtn at h
        repeat' split at h
        all_goals first
          | (cases h; done)
          | (cases h; exact Nat.le_refl _)
      · rw [if_neg ho1] at h
        cases hC : mj_call e st w with
        | none => rw [hC] at h; cases h
        | some ar =>
          rw [hC] at h
          try dsimp only at h
          split at h
          · next hk =>
            cases hR : mj_run n e.2.2.2.1 0 (mj_entry e.2.2.2.1 ar.1) [] w 0 0 with
            | none => rw [hR] at h; cases h
            | some wr =>
              rw [hR] at h
              exact Nat.le_trans (ih _ _ _ _ _ _ _ wr.1 wr.2 hR) (ih _ _ _ _ _ _ _ _ _ h)
          · cases h
theorem mj_rtn_spec {y pc : Nat} {e : mjE} {st : List Value} {w w' : mjW} {r : Option Value} (hok : mj_ok y pc e = true) (h : mj_rtn y e st w = some (w', r)) : w' = w ∧ st = r.toList ∧ mj_rd y pc r := by
  obtain ⟨ins, ln, a, b, d, k⟩ := e
  simp only [mj_ok, Bool.and_eq_true, decide_eq_true_eq] at hok
  obtain ⟨hd, hk⟩ := hok
  cases ins with
  | ireturn =>
    obtain rfl := Nat.eq_of_beq_eq_true (show Nat.beq ln 1 = true from hk)
    simp only [mj_rtn] at h
    split at h
    · next v =>
      split at h
      · next hr => cases h; exact ⟨rfl, rfl, hd, Or.inl hr⟩
      · next hr =>
        split at h
        · next hv => cases h; exact ⟨rfl, rfl, hd, Or.inr ⟨hr, hv⟩⟩
        · cases h
      · cases h
    · cases h
  | lreturn =>
    obtain rfl := Nat.eq_of_beq_eq_true (show Nat.beq ln 1 = true from hk)
    simp only [mj_rtn] at h
    split at h
    · next v =>
      split at h
      · next hr => cases h; exact ⟨rfl, rfl, hd, hr⟩
      · cases h
    · cases h
  | return_ =>
    obtain rfl := Nat.eq_of_beq_eq_true (show Nat.beq ln 1 = true from hk)
    simp only [mj_rtn] at h
    split at h
    · split at h
      · next hr => cases h; exact ⟨rfl, rfl, hd, hr⟩
      · cases h
    · cases h
  | _ => cases h
