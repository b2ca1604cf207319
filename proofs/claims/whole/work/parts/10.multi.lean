/-! rows of rows of longs -/
theorem mj_gl12 : mj_w1 mj_g12 (.arrayClass .long) = true := by decide +kernel
theorem mj_K2 {D : va_G} {cl : List vw_C} {tys : List (ClassId × FieldType)} {t : FieldType} {c : ClassId} {s : State} (hK : va_K D cl tys s) (h : ArrOfT s c t ∧ va_RA s c t) : va_K D cl (tys ++ [(c, t)]) s :=
  ⟨hK.1, fun k q hk => by
    by_cases hl : k < tys.length
    · rw [List.getElem?_append_left hl] at hk
      exact hK.2 k q hk
    · rw [List.getElem?_append_right (by omega)] at hk
      have hz : k - tys.length < 1 := (List.getElem?_eq_some_iff.mp hk).1
      rw [show k - tys.length = 0 by omega] at hk
      cases hk
      exact h⟩
theorem mj_longs {args : Array Value} {s : State} (h : (Jvm.Cond.arrayClass .long).before args s = true) : ∃ c : ClassId, s.vm.findClass (FieldType.array .long).toString = some c ∧ ArrOfT s c .long ∧ va_RA s c .long := by
  obtain ⟨c, k, comp, h1, h2, h3⟩ := Jvm.Cond.arrayClass_spec h
  exact ⟨c, h1, fun N z => ⟨(fun q hq => by cases hq), k, h2, comp, h3⟩, h1⟩
section MUL
variable {l : Launch} {D : va_G} {y : Nat} {p : Program} {e0 : Env} {R : Room} {s : State} {m : MethodId} {args : Array Value} {below : List Frame} {meth : Method} {cd : Code} {Q : State → Prop} {ad : Nat → Nat} {A : Nat → Prop} {H : Heap} {locs : List Loc} {ls : Array Slot} {pc : Nat} {L : mjL} {st : List Value} {w : mjW} {c q : Nat} {C : mjC} {ln a b d : Nat} {k : Int}
/-- the addresses behind new rows -/
noncomputable def mj_adm (ad : Nat → Nat) (n N q0 : Nat) (r : Nat → Nat) : Nat → Nat := fun h => if h = n then q0 else if n < h ∧ h ≤ n + N then r (h - n - 1) else ad h
noncomputable def mj_cam (ca : Nat → ClassId) (n : Nat) (cA cy : ClassId) : Nat → ClassId := fun h => if h = n then cA else if n < h then cy else ca h
theorem mj_rep_at {N i : Nat} {x : Nat × Nat} (h : i < N) : (List.replicate N x)[i]? = some x := by simp [h]
set_option maxHeartbeats 4000000 in
theorem mj_sim_multi {i i2 : Nat} (hd : decode (mj_b y) pc = .ok (.multianewarray i i2, ln)) (hk : mj_okc y pc (.multianewarray i i2, ln, a, b, d, k) = true) (h : mj_sim y pc (.multianewarray i i2, ln, a, b, d, k) L st w c q = some C)
    (hC : mj_Cx y p R s m args meth cd ad A) (hR : mj_Rp D A s ad w H) (hS : va_S A s.heap H locs) (hl : mj_ls ad ls L) (hL : L.length = mj_ml y) (hc : c ≤ mj_mc y) (hq : q ≤ mj_ms y) (hN : mj_Nx l D y p e0 R s m args below meth cd Q ad A w.1.length C) : W p l e0 R s m args below meth cd H locs c q Q (F0 m pc ls (st.map (mj_v ad))) := by
  obtain ⟨hx, hb, hml, hown, hts, hnm, hr, hlk, hRm, hSt, hA⟩ := hC
  obtain ⟨ca, tys, hK, hP, hD, hT⟩ := hR
  simp only [mj_okc, Bool.and_eq_true] at hk
  obtain ⟨⟨hk1, hk2⟩, hk3⟩ := hk
  obtain rfl := Nat.eq_of_beq_eq_true hk1
  obtain rfl := Nat.eq_of_beq_eq_true hk2
  obtain ⟨x, z, rs, rfl, h9⟩ := mj_p2_inv (show mj_p2 _ _ = some C from h)
  clear h
  split at h9
  · next hcd =>
    obtain ⟨hwf, hx0, hz0, hx1, hz1, hn1, hc1, hq1⟩ := hcd
    obtain ⟨w1, w2, w3, w4⟩ := mj_wf_spec hwf
    subst hRm
    cases h9
    have hlg := mj_w1_T (args := args) (s := s) hts mj_gl12 rfl
    obtain ⟨cy, hcy, hcyK⟩ := mj_longs hlg
    have eP : mj_ws ad ca w ++ va_pl [] (fun _ => .inr (0, [])) = mj_ws ad ca w := List.append_nil _
    refine va_mna (X := mj_ws ad ca w) (L := []) (f := fun _ => .inr (0, [])) (ty := .long) (z := (z.toNatClampNeg, .inr (.inl (fun _ => 0)))) hx hb hown (mj_w1_T hts hk3 rfl) hSt.2.2.1 hlg hcy hK (by rw [eP]; exact hP) (by rw [eP]; exact hD) hS hA hx0 hz0 rfl rfl (by omega) (by show _ * 8 ≤ _; omega) (by omega) rfl rfl (by show c + (1 + _) ≤ mj_mc y; omega) (by show q + _ ≤ mj_ms y; omega) (fun c0 => by show ({ cls := c0, slots := Array.replicate _ (.long 0), vm := .none } : Cell) = _; rw [arrV_new]; rfl) hd (fun q0 r cA H1 hr1 hr2 hK1 hP1 hD1 hS1 => ?_)
    have hag : ∀ h : Nat, h < w.1.length ∨ h = 1000 → mj_adm ad w.1.length x.toNatClampNeg q0 r h = ad h := fun h e => by
      unfold mj_adm
      rw [if_neg (by omega), if_neg (by omega)]
    generalize hw' : ((w.1 ++ (4, x.toNatClampNeg) :: List.replicate x.toNatClampNeg (2, z.toNatClampNeg), w.2.1, (fun h => if w.1.length < h then (fun _ => 0) else w.2.2.1 h), mj_row w.2.2.2 w.1.length (fun i => if i < x.toNatClampNeg then some (w.1.length + 1 + i) else none)) : mjW) = w' at hN
    have hk' : w'.1 = w.1 ++ (4, x.toNatClampNeg) :: List.replicate x.toNatClampNeg (2, z.toNatClampNeg) := by rw [← hw']
    have hJ' : w'.2.2.1 = fun h => if w.1.length < h then (fun _ => 0) else w.2.2.1 h := by rw [← hw']
    have hG' : w'.2.2.2 = mj_row w.2.2.2 w.1.length (fun i => if i < x.toNatClampNeg then some (w.1.length + 1 + i) else none) := by rw [← hw']
    have hI' : w'.2.1 = w.2.1 := by rw [← hw']
    have hkd0 : mj_kd w' w.1.length = (4, x.toNatClampNeg) := mj_kd_new (i := 0) hk' rfl
    have hkd1 : ∀ j, j < x.toNatClampNeg → mj_kd w' (w.1.length + (j + 1)) = (2, z.toNatClampNeg) := fun j hj => mj_kd_new (i := j + 1) hk' (by rw [List.getElem?_cons_succ]; exact mj_rep_at hj)
    have hw : mj_ws (mj_adm ad w.1.length x.toNatClampNeg q0 r) (mj_cam ca w.1.length cA cy) w' = mj_ws ad ca w ++ ((q0, .inl (cA, x.toNatClampNeg, .inr (.inr (.inr (.inr (fun i => if i < x.toNatClampNeg then some (r i) else none)))))) :: ((List.range x.toNatClampNeg).map r).map (fun a0 => (a0, .inl (cy, z.toNatClampNeg, .inr (.inl (fun _ => 0)))))) := by
      refine mj_ws_app hk' (by simp) (fun h hh => ⟨hag h (Or.inl hh), mj_ce_ext (mj_kd_app hk' hh) (by rw [hI']) (by rw [hJ']; exact if_neg (by omega)) (by rw [hG']; exact mj_row_ne (Nat.ne_of_lt hh)) (by unfold mj_cam; rw [if_neg (by omega), if_neg (by omega)]) (fun j hj x hxx => hag x (Or.inl (w3 h hh j hj x hxx)))⟩) (fun i0 hi0 => ?_)
      cases i0 with
      | zero =>
        rw [Nat.add_zero, mj_ce4 hkd0]
        show some (q0, _) = some (mj_adm ad w.1.length x.toNatClampNeg q0 r w.1.length, _)
        rw [show mj_adm ad w.1.length x.toNatClampNeg q0 r w.1.length = q0 from if_pos rfl, show mj_cam ca w.1.length cA cy w.1.length = cA from if_pos rfl]
        refine congrArg (fun z => some (q0, Sum.inl (cA, x.toNatClampNeg, Sum.inr (Sum.inr (Sum.inr (Sum.inr z)))))) (funext fun j => ?_)
        rw [hG', mj_row_eq]
        by_cases hj : j < x.toNatClampNeg
        · rw [if_pos hj, if_pos hj, if_pos hj]
          show some (r j) = some (mj_adm ad w.1.length x.toNatClampNeg q0 r (w.1.length + 1 + j))
          unfold mj_adm
          rw [if_neg (by omega), if_pos (by omega), show w.1.length + 1 + j - w.1.length - 1 = j by omega]
        · rw [if_neg hj, if_neg hj]
      | succ j =>
        have hj : j < x.toNatClampNeg := by simpa using hi0
        rw [mj_ce2 (hkd1 j hj), List.getElem?_cons_succ, List.getElem?_map, List.getElem?_map, List.getElem?_range hj]
        show some (r j, _) = some (mj_adm ad w.1.length x.toNatClampNeg q0 r (w.1.length + (j + 1)), _)
        have e1 : mj_adm ad w.1.length x.toNatClampNeg q0 r (w.1.length + (j + 1)) = r j := by
          unfold mj_adm
          rw [if_neg (by omega), if_pos (by omega), show w.1.length + (j + 1) - w.1.length - 1 = j by omega]
        have e2 : mj_cam ca w.1.length cA cy (w.1.length + (j + 1)) = cy := by
          unfold mj_cam
          rw [if_neg (by omega), if_pos (by omega)]
        rw [e1, e2, hJ']
        dsimp only
        rw [if_pos (by omega)]
    have eL : ((mj_ws ad ca w ++ [(q0, .inl (cA, x.toNatClampNeg, .inr (.inr (.inr (.inr (fun i => if i < x.toNatClampNeg then some (r i) else none))))))]) ++ va_pl ([] ++ (List.range x.toNatClampNeg).map r) (vr_up (fun _ => .inr (0, [])) ((List.range x.toNatClampNeg).map r) (.inl (cy, z.toNatClampNeg, .inr (.inl (fun _ => 0)))))) = mj_ws (mj_adm ad w.1.length x.toNatClampNeg q0 r) (mj_cam ca w.1.length cA cy) w' := by
      rw [hw, List.append_assoc]
      congr 1
      show _ :: va_pl _ _ = _
      congr 1
      unfold va_pl
      rw [List.nil_append]
      exact List.map_congr_left fun a0 ha0 => by rw [vr_up_in ha0]
    rw [eL] at hP1 hD1
    have := hN (mj_adm ad w.1.length x.toNatClampNeg q0 r) H1 locs ls (fun e => absurd e (by omega)) hag ⟨mj_cam ca w.1.length cA cy, (tys ++ [(cA, .array .long)]) ++ [(cy, .long)], mj_K2 hK1 hcyK, hP1, hD1, fun h hh h0 => ?_⟩ hS1 (mj_ls_ext hag w2 hl) hL (by show c + 1 + _ ≤ _; omega) (by show q + _ + _ ≤ _; omega)
    · have e : (List.map (mj_v (mj_adm ad w.1.length x.toNatClampNeg q0 r)) (Value.ref w.1.length :: rs)) = .ref q0 :: rs.map (mj_v ad) := by
        rw [List.map_cons, mj_st_ext hag w1]
        show Value.ref (mj_adm ad w.1.length x.toNatClampNeg q0 r w.1.length) :: _ = _
        rw [show mj_adm ad w.1.length x.toNatClampNeg q0 r w.1.length = q0 from if_pos rfl]
      dsimp only at this
      rw [e] at this
      exact this
    · dsimp only at hh h0 ⊢
      have hlen : w'.1.length = w.1.length + (x.toNatClampNeg + 1) := by rw [hk']; simp
      rcases Nat.lt_trichotomy h w.1.length with hh2 | rfl | hh2
      · have e := mj_kd_app hk' hh2
        rw [e] at h0 ⊢
        rw [show mj_cam ca w.1.length cA cy h = ca h by unfold mj_cam; rw [if_neg (by omega), if_neg (by omega)]]
        exact List.mem_append_left _ (List.mem_append_left _ (hT h hh2 h0))
      · rw [hkd0, show mj_cam ca w.1.length cA cy w.1.length = cA from if_pos rfl]
        exact List.mem_append_left _ (List.mem_append_right _ List.mem_cons_self)
      · obtain ⟨j, rfl⟩ : ∃ j, h = w.1.length + (j + 1) := ⟨h - w.1.length - 1, by omega⟩
        rw [hkd1 j (by omega), show mj_cam ca w.1.length cA cy (w.1.length + (j + 1)) = cy by unfold mj_cam; rw [if_neg (by omega), if_pos (by omega)]]
        exact List.mem_append_right _ List.mem_cons_self
  · cases h9
end MUL
