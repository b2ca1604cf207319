/-! new cells -/
theorem mj_kd_app {w w' : mjW} {ks : List (Nat × Nat)} {h : Nat} (hk : w'.1 = w.1 ++ ks) (hh : h < w.1.length) : mj_kd w' h = mj_kd w h := by
  unfold mj_kd
  rw [hk, List.getD_eq_getElem?_getD, List.getD_eq_getElem?_getD, List.getElem?_append_left hh]
theorem mj_kd_new {w w' : mjW} {ks : List (Nat × Nat)} {i : Nat} {x : Nat × Nat} (hk : w'.1 = w.1 ++ ks) (hi : ks[i]? = some x) : mj_kd w' (w.1.length + i) = x := by
  unfold mj_kd
  rw [hk, List.getD_eq_getElem?_getD, List.getElem?_append_right (by omega), show w.1.length + i - w.1.length = i by omega, hi]
  rfl
theorem mj_ce_ext {ad ad' : Nat → Nat} {ca ca' : Nat → ClassId} {w w' : mjW} {h : Nat} (hk : mj_kd w' h = mj_kd w h) (h1 : w'.2.1 h = w.2.1 h) (h2 : w'.2.2.1 h = w.2.2.1 h) (h3 : w'.2.2.2 h = w.2.2.2 h) (hca : ca' h = ca h) (hG : ∀ j : Nat, j < mj_sz w h → ∀ x, w.2.2.2 h j = some x → ad' x = ad x) : mj_ce ad' ca' w' h = mj_ce ad ca w h := by
  have hm : ∀ j : Nat, j < mj_sz w h → (w.2.2.2 h j).map ad' = (w.2.2.2 h j).map ad := by
    intro j hj
    cases hx : w.2.2.2 h j with
    | none => rfl
    | some x => simp [hG j hj x hx]
  unfold mj_sz at hm
  unfold mj_ce
  rw [hk]
  rcases hkd : mj_kd w h with ⟨kd, n⟩
  rw [hkd] at hm
  match kd with
  | 0 =>
    show Sum.inr (n, mj_fs ad' w' n h) = Sum.inr (n, mj_fs ad w n h)
    congr 2
    unfold mj_fs
    refine List.map_congr_left fun k hk2 => ?_
    rw [h1, h3, hm k (List.mem_range.mp hk2)]
  | 1 => show Sum.inl (ca' h, n, _) = Sum.inl (ca h, n, _); rw [hca, h1]
  | 2 => show Sum.inl (ca' h, n, _) = Sum.inl (ca h, n, _); rw [hca, h2]
  | kd + 3 =>
    show Sum.inl (ca' h, n, _) = Sum.inl (ca h, n, _)
    rw [hca, h3]
    have e : (fun j => if j < n then (w.2.2.2 h j).map ad' else none) = fun j => if j < n then (w.2.2.2 h j).map ad else none := by
      funext j
      by_cases hj : j < n
      · rw [if_pos hj, if_pos hj]
        exact hm j hj
      · rw [if_neg hj, if_neg hj]
    rw [e]
theorem mj_wf_spec {w : mjW} {L : mjL} {st : List Value} (h : mj_wf w L st = true) : (∀ v ∈ st, mj_vok w.1.length v = true) ∧ (∀ o ∈ L, mj_ook w.1.length o = true) ∧ (∀ h, h < w.1.length → ∀ j, j < mj_sz w h → ∀ x, w.2.2.2 h j = some x → x < w.1.length) ∧ w.1.length < 1000 := by
  simp only [mj_wf, Bool.and_eq_true, List.all_eq_true] at h
  obtain ⟨⟨⟨h1, h2⟩, h3⟩, h4⟩ := h
  refine ⟨h1, h2, fun a ha j hj x hx => ?_, Nat.le_of_ble_eq_true h4⟩
  have := h3 a (List.mem_range.mpr ha) j (List.mem_range.mpr hj)
  rw [hx] at this
  exact Nat.le_of_ble_eq_true this
theorem mj_v_ext {ad ad' : Nat → Nat} {n : Nat} (had : ∀ h : Nat, h < n ∨ h = 1000 → ad' h = ad h) {v : Value} (hv : mj_vok n v = true) : mj_v ad' v = mj_v ad v := by
  cases v with
  | ref x =>
    simp only [mj_vok, Bool.or_eq_true] at hv
    show Value.ref (ad' x) = Value.ref (ad x)
    rw [had x (hv.imp Nat.le_of_ble_eq_true Nat.eq_of_beq_eq_true)]
  | _ => rfl
theorem mj_st_ext {ad ad' : Nat → Nat} {n : Nat} {st : List Value} (had : ∀ h : Nat, h < n ∨ h = 1000 → ad' h = ad h) (hv : ∀ v ∈ st, mj_vok n v = true) : st.map (mj_v ad') = st.map (mj_v ad) := List.map_congr_left fun v h => mj_v_ext had (hv v h)
theorem mj_ls_ext {ad ad' : Nat → Nat} {n : Nat} {ls : Array Slot} {L : mjL} (had : ∀ h : Nat, h < n ∨ h = 1000 → ad' h = ad h) (hv : ∀ o ∈ L, mj_ook n o = true) (h : mj_ls ad ls L) : mj_ls ad' ls L := by
  refine ⟨h.1, h.2.1, fun i v hi => ?_⟩
  rw [mj_v_ext had (hv _ (List.mem_of_getElem? hi))]
  exact h.2.2 i v hi
theorem mj_ws_app {ad ad' : Nat → Nat} {ca ca' : Nat → ClassId} {w w' : mjW} {ks : List (Nat × Nat)} {new : va_W} (hk : w'.1 = w.1 ++ ks) (hn : new.length = ks.length) (ho : ∀ h, h < w.1.length → ad' h = ad h ∧ mj_ce ad' ca' w' h = mj_ce ad ca w h) (hw : ∀ i, i < ks.length → new[i]? = some (ad' (w.1.length + i), mj_ce ad' ca' w' (w.1.length + i))) : mj_ws ad' ca' w' = mj_ws ad ca w ++ new := by
  have hl : w'.1.length = w.1.length + ks.length := by rw [hk, List.length_append]
  apply List.ext_getElem?
  intro i
  by_cases h1 : i < w.1.length
  · rw [List.getElem?_append_left (by rw [mj_ws_len]; exact h1), mj_ws_at h1, mj_ws_at (by omega), (ho i h1).1, (ho i h1).2]
  · rw [List.getElem?_append_right (by rw [mj_ws_len]; omega), mj_ws_len]
    by_cases h2 : i < w'.1.length
    · rw [mj_ws_at h2, hw (i - w.1.length) (by omega), show w.1.length + (i - w.1.length) = i by omega]
    · rw [List.getElem?_eq_none (by rw [mj_ws_len]; omega), List.getElem?_eq_none (by omega)]
section ALC
variable {l : Launch} {D : va_G} {y : Nat} {p : Program} {e0 : Env} {R : Room} {s : State} {m : MethodId} {args : Array Value} {below : List Frame} {meth : Method} {cd : Code} {Q : State → Prop} {ad : Nat → Nat} {A : Nat → Prop} {H : Heap} {locs : List Loc} {ls : Array Slot} {pc : Nat} {L : mjL} {st : List Value} {w : mjW} {c q : Nat} {C : mjC} {ln a b d : Nat} {k : Int}
theorem mj_up_lt {α : Type} {f : Nat → α} {n h : Nat} {v : α} (e : h < n) : va_up f n v h = f h := if_neg (Nat.ne_of_lt e)
theorem mj_up_ag {n q0 : Nat} (hn : n < 1000) : ∀ h : Nat, h < n ∨ h = 1000 → va_up ad n q0 h = ad h := fun h e => if_neg (by omega)
theorem mj_fs_new {ad1 : Nat → Nat} {w1 : mjW} {n : Nat} (h1 : w1.2.1 n = fun _ => 0) (h2 : w1.2.2.2 n = fun _ => none) : ∀ j, j < mj_fn a → vp_V (mj_fs ad1 w1 a n) j = if mj_rk a j = true then .null else .int 0 := by
  intro j hj
  unfold vp_V
  rw [List.getD_eq_getElem?_getD, mj_fs_at hj, h1, h2]
  rfl
set_option maxHeartbeats 4000000 in
theorem mj_sim_new {i : Nat} (hd : decode (mj_b y) pc = .ok (.new i, ln)) (hk : mj_okc y pc (.new i, ln, a, b, d, k) = true) (h : mj_sim y pc (.new i, ln, a, b, d, k) L st w c q = some C)
    (hC : mj_Cx y p R s m args meth cd ad A) (hR : mj_Rp D A s ad w H) (hS : va_S A s.heap H locs) (hl : mj_ls ad ls L) (hL : L.length = mj_ml y) (hc : c ≤ mj_mc y) (hq : q ≤ mj_ms y) (hN : mj_Nx l D y p e0 R s m args below meth cd Q ad A w.1.length C) : W p l e0 R s m args below meth cd H locs c q Q (F0 m pc ls (st.map (mj_v ad))) := by
  obtain ⟨hx, hb, hml, hown, hts, hnm, hr, hlk, hRm, hSt, hA⟩ := hC
  obtain ⟨ca, tys, hK, hP, hD, hT⟩ := hR
  simp only [mj_okc, Bool.and_eq_true] at hk
  obtain ⟨⟨⟨⟨hk1, hk2⟩, hk3⟩, hk4⟩, hk5⟩ := hk
  obtain rfl := Nat.eq_of_beq_eq_true hk1
  have ha : a < 7 := Nat.le_of_ble_eq_true hk2
  simp only [mj_sim] at h
  split at h
  · next hcd =>
    obtain ⟨hwf, hc1, hq1⟩ := hcd
    obtain ⟨w1, w2, w3, w4⟩ := mj_wf_spec hwf
    cases h
    subst hRm
    obtain ⟨ty, hty, hdf⟩ := mj_dfl a ha
    have hfs : ∀ ad1 : Nat → Nat, ∀ j, j < (mj_cl a).2.2 → defaultValue (ty j) = vp_V (mj_fs ad1 (w.1 ++ [(0, a)], mj_row w.2.1 w.1.length (fun _ => 0), w.2.2.1, mj_row w.2.2.2 w.1.length (fun _ => none)) a w.1.length) j := fun ad1 j hj => by
      rw [hdf j hj]
      exact (mj_fs_new mj_row_eq mj_row_eq j hj).symm
    refine va_new hx hb hts (mj_clU a ha).1 ty hty hown (mj_w1_T hts hk3 rfl) (mj_w1_T hts hk4 rfl) (mj_w1_T hts hk5 rfl) hK hP hD hS hA (mj_cl_at ha) (fs := mj_fs ad (w.1 ++ [(0, a)], mj_row w.2.1 w.1.length (fun _ => 0), w.2.2.1, mj_row w.2.2.2 w.1.length (fun _ => none)) a w.1.length) (hfs ad) hc1 hq1 hd (fun q0 H1 hP1 hD1 hS1 => ?_)
    have hag := mj_up_ag (ad := ad) (q0 := q0) w4
    have hw : mj_ws (va_up ad w.1.length q0) ca (w.1 ++ [(0, a)], mj_row w.2.1 w.1.length (fun _ => 0), w.2.2.1, mj_row w.2.2.2 w.1.length (fun _ => none)) = mj_ws ad ca w ++ [(q0, .inr (a, mj_fs ad (w.1 ++ [(0, a)], mj_row w.2.1 w.1.length (fun _ => 0), w.2.2.1, mj_row w.2.2.2 w.1.length (fun _ => none)) a w.1.length))] := by
      refine mj_ws_app (ks := [(0, a)]) rfl rfl (fun h hh => ⟨hag h (Or.inl hh), mj_ce_ext (mj_kd_app rfl hh) (mj_row_ne (Nat.ne_of_lt hh)) rfl (mj_row_ne (Nat.ne_of_lt hh)) rfl (fun j hj x hxx => hag x (Or.inl (w3 h hh j hj x hxx)))⟩) (fun i0 hi0 => ?_)
      have : i0 = 0 := by simpa using hi0
      subst this
      rw [mj_ce0 (ci := a) (mj_kd_new (i := 0) rfl rfl)]
      show some (q0, _) = some (va_up ad w.1.length q0 (w.1.length + 0), _)
      rw [Nat.add_zero, show va_up ad w.1.length q0 w.1.length = q0 from if_pos rfl]
      congr 3
      unfold mj_fs
      refine congrArg (fun z => (a, z)) (List.map_congr_left fun k0 _ => ?_)
      show (if _ then va_rf ((mj_row w.2.2.2 w.1.length (fun _ => none) w.1.length k0).map ad) else _) = (if _ then va_rf ((mj_row w.2.2.2 w.1.length (fun _ => none) w.1.length k0).map (va_up ad w.1.length q0)) else _)
      rw [mj_row_eq]
      rfl
    rw [← hw] at hP1 hD1
    have := hN (va_up ad w.1.length q0) H1 locs ls (fun e => absurd e (by omega)) hag ⟨ca, tys, hK, hP1, hD1, fun h hh h0 => ?_⟩ hS1 (mj_ls_ext hag w2 hl) hL hc1 hq1
    · have e : (List.map (mj_v (va_up ad w.1.length q0)) (Value.ref w.1.length :: st)) = .ref q0 :: st.map (mj_v ad) := by
        rw [List.map_cons, mj_st_ext hag w1]
        show Value.ref (va_up ad w.1.length q0 w.1.length) :: _ = _
        rw [show va_up ad w.1.length q0 w.1.length = q0 from if_pos rfl]
      dsimp only at this
      rw [e] at this
      exact this
    · have hh2 : h < w.1.length ∨ h = w.1.length := by
        have : h < w.1.length + 1 := by simpa using hh
        omega
      rcases hh2 with hh2 | rfl
      · have e := mj_kd_app (w := w) (w' := (w.1 ++ [(0, a)], mj_row w.2.1 w.1.length (fun _ => 0), w.2.2.1, mj_row w.2.2.2 w.1.length (fun _ => none))) (ks := [(0, a)]) rfl hh2
        dsimp only at h0 ⊢
        rw [e] at h0 ⊢
        exact hT h hh2 h0
      · have e := mj_kd_new (w := w) (w' := (w.1 ++ [(0, a)], mj_row w.2.1 w.1.length (fun _ => 0), w.2.2.1, mj_row w.2.2.2 w.1.length (fun _ => none))) (ks := [(0, a)]) (i := 0) rfl rfl
        rw [Nat.add_zero] at e
        dsimp only at h0
        rw [e] at h0
        exact absurd rfl h0
  · cases h
theorem mj_Rp_arr {w' : mjW} {q0 : Nat} {cA : ClassId} {kd N : Nat} {x : vp_A} {ca : Nat → ClassId} {tys : List (ClassId × FieldType)} {H1 : Heap} (hk : w'.1 = w.1 ++ [(kd, N)]) (w3 : ∀ h, h < w.1.length → ∀ j, j < mj_sz w h → ∀ x, w.2.2.2 h j = some x → x < w.1.length) (w4 : w.1.length < 1000)
    (hrow : ∀ h, h < w.1.length → w'.2.1 h = w.2.1 h ∧ w'.2.2.1 h = w.2.2.1 h ∧ w'.2.2.2 h = w.2.2.2 h) (hcell : mj_ce (va_up ad w.1.length q0) (va_up ca w.1.length cA) w' w.1.length = .inl (cA, x)) (hT : ∀ h, h < w.1.length → (mj_kd w h).1 ≠ 0 → (ca h, mj_ty (mj_kd w h).1) ∈ tys)
    (hK : va_K D vwCl (tys ++ [(cA, mj_ty kd)]) s) (hP1 : va_P D vwCl (mj_ws ad ca w ++ [(q0, .inl (cA, x))]) H1) (hD1 : va_D A (mj_ws ad ca w ++ [(q0, .inl (cA, x))])) : mj_Rp D A s (va_up ad w.1.length q0) w' H1 := by
  have hag := mj_up_ag (ad := ad) (q0 := q0) w4
  have hw : mj_ws (va_up ad w.1.length q0) (va_up ca w.1.length cA) w' = mj_ws ad ca w ++ [(q0, .inl (cA, x))] := by
    refine mj_ws_app (ks := [(kd, N)]) hk rfl (fun h hh => ⟨hag h (Or.inl hh), mj_ce_ext (mj_kd_app hk hh) (hrow h hh).1 (hrow h hh).2.1 (hrow h hh).2.2 (mj_up_lt hh) (fun j hj x hxx => hag x (Or.inl (w3 h hh j hj x hxx)))⟩) (fun i0 hi0 => ?_)
    have : i0 = 0 := by simpa using hi0
    subst this
    rw [Nat.add_zero, hcell]
    show some (q0, _) = some (va_up ad w.1.length q0 w.1.length, _)
    rw [show va_up ad w.1.length q0 w.1.length = q0 from if_pos rfl]
  rw [← hw] at hP1 hD1
  refine ⟨va_up ca w.1.length cA, tys ++ [(cA, mj_ty kd)], hK, hP1, hD1, fun h hh h0 => ?_⟩
  have hh2 : h < w.1.length ∨ h = w.1.length := by
    have : h < w.1.length + 1 := by simpa [hk] using hh
    omega
  rcases hh2 with hh2 | rfl
  · have e := mj_kd_app hk hh2
    rw [e] at h0 ⊢
    rw [mj_up_lt hh2]
    exact List.mem_append_left _ (hT h hh2 h0)
  · have e := mj_kd_new (w := w) (w' := w') (i := 0) hk rfl
    rw [Nat.add_zero] at e
    rw [e]
    rw [show va_up ca w.1.length cA w.1.length = cA from if_pos rfl]
    exact List.mem_append_right _ List.mem_cons_self
theorem mj_st_new {n q0 : Nat} {r : List Value} (hag : ∀ h : Nat, h < n ∨ h = 1000 → va_up ad n q0 h = ad h) (w1 : ∀ v ∈ r, mj_vok n v = true) : (Value.ref n :: r).map (mj_v (va_up ad n q0)) = .ref q0 :: r.map (mj_v ad) := by
  rw [List.map_cons, mj_st_ext hag w1]
  show Value.ref (va_up ad n q0 n) :: _ = _
  rw [show va_up ad n q0 n = q0 from if_pos rfl]
set_option maxHeartbeats 4000000 in
theorem mj_sim_newarray {t : ArrayType} (hd : decode (mj_b y) pc = .ok (.newarray t, ln)) (hk : mj_okc y pc (.newarray t, ln, a, b, d, k) = true) (h : mj_sim y pc (.newarray t, ln, a, b, d, k) L st w c q = some C)
    (hC : mj_Cx y p R s m args meth cd ad A) (hR : mj_Rp D A s ad w H) (hS : va_S A s.heap H locs) (hl : mj_ls ad ls L) (hL : L.length = mj_ml y) (hc : c ≤ mj_mc y) (hq : q ≤ mj_ms y) (hN : mj_Nx l D y p e0 R s m args below meth cd Q ad A w.1.length C) : W p l e0 R s m args below meth cd H locs c q Q (F0 m pc ls (st.map (mj_v ad))) := by
  obtain ⟨hx, hb, hml, hown, hts, hnm, hr, hlk, hRm, hSt, hA⟩ := hC
  obtain ⟨ca, tys, hK, hP, hD, hT⟩ := hR
  simp only [mj_okc, Bool.and_eq_true] at hk
  obtain ⟨hk1, hk2⟩ := hk
  obtain rfl := Nat.eq_of_beq_eq_true hk1
  obtain ⟨x, r, rfl, h9⟩ := mj_p1_inv (show mj_p1 _ _ = some C from h)
  clear h
  split at h9
  · next hcd =>
    obtain ⟨hwf, hx0, hx1, hc1, hq1⟩ := hcd
    obtain ⟨w1, w2, w3, w4⟩ := mj_wf_spec hwf
    subst hRm
    split at h9
    · cases h9
      refine va_newa (atype := .int) (ty := .int) hx hb (mj_w1_T hts hk2 rfl) rfl hK hP hD hS hA (a0 := (x.toNatClampNeg, .inl (fun _ => 0))) (fun _ => rfl) hx0 rfl (by show _ * 4 ≤ _; omega) hc1 hq1 hd (fun q0 cA H1 hK1 hP1 hD1 hS1 => ?_)
      have hag := mj_up_ag (ad := ad) (q0 := q0) w4
      have := hN (va_up ad w.1.length q0) H1 locs ls (fun e => absurd e (by omega)) hag (mj_Rp_arr (kd := 1) (N := x.toNatClampNeg) rfl w3 w4 (fun h hh => ⟨mj_row_ne (Nat.ne_of_lt hh), rfl, rfl⟩) (by
        refine (mj_ce1 (n := x.toNatClampNeg) (mj_kd_new (i := 0) rfl rfl)).trans ?_
        rw [show va_up ca w.1.length cA (w.1.length + 0) = cA from if_pos rfl]
        exact congrArg (fun z => Sum.inl (cA, x.toNatClampNeg, Sum.inl z)) mj_row_eq) hT hK1 hP1 hD1) hS1 (mj_ls_ext hag w2 hl) hL hc1 hq1
      dsimp only at this
      rw [mj_st_new hag w1] at this
      exact this
    · cases h9
      refine va_newa (atype := .long) (ty := .long) hx hb (mj_w1_T hts hk2 rfl) rfl hK hP hD hS hA (a0 := (x.toNatClampNeg, .inr (.inl (fun _ => 0)))) (fun _ => rfl) hx0 rfl (by show _ * 8 ≤ _; omega) hc1 hq1 hd (fun q0 cA H1 hK1 hP1 hD1 hS1 => ?_)
      have hag := mj_up_ag (ad := ad) (q0 := q0) w4
      have := hN (va_up ad w.1.length q0) H1 locs ls (fun e => absurd e (by omega)) hag (mj_Rp_arr (kd := 2) (N := x.toNatClampNeg) rfl w3 w4 (fun h hh => ⟨rfl, mj_row_ne (Nat.ne_of_lt hh), rfl⟩) (by
        refine (mj_ce2 (n := x.toNatClampNeg) (mj_kd_new (i := 0) rfl rfl)).trans ?_
        rw [show va_up ca w.1.length cA (w.1.length + 0) = cA from if_pos rfl]
        exact congrArg (fun z => Sum.inl (cA, x.toNatClampNeg, Sum.inr (Sum.inl z))) mj_row_eq) hT hK1 hP1 hD1) hS1 (mj_ls_ext hag w2 hl) hL hc1 hq1
      dsimp only at this
      rw [mj_st_new hag w1] at this
      exact this
    · cases h9
  · cases h9
set_option maxHeartbeats 4000000 in
theorem mj_sim_anewarray {i : Nat} (hd : decode (mj_b y) pc = .ok (.anewarray i, ln)) (hk : mj_okc y pc (.anewarray i, ln, a, b, d, k) = true) (h : mj_sim y pc (.anewarray i, ln, a, b, d, k) L st w c q = some C)
    (hC : mj_Cx y p R s m args meth cd ad A) (hR : mj_Rp D A s ad w H) (hS : va_S A s.heap H locs) (hl : mj_ls ad ls L) (hL : L.length = mj_ml y) (hc : c ≤ mj_mc y) (hq : q ≤ mj_ms y) (hN : mj_Nx l D y p e0 R s m args below meth cd Q ad A w.1.length C) : W p l e0 R s m args below meth cd H locs c q Q (F0 m pc ls (st.map (mj_v ad))) := by
  obtain ⟨hx, hb, hml, hown, hts, hnm, hr, hlk, hRm, hSt, hA⟩ := hC
  obtain ⟨ca, tys, hK, hP, hD, hT⟩ := hR
  simp only [mj_okc, Bool.and_eq_true] at hk
  obtain ⟨hk1, hk2⟩ := hk
  obtain rfl := Nat.eq_of_beq_eq_true hk1
  obtain ⟨x, r, rfl, h9⟩ := mj_p1_inv (show mj_p1 _ _ = some C from h)
  clear h
  split at h9
  · next hcd =>
    obtain ⟨hwf, hx0, hx1, hc1, hq1⟩ := hcd
    obtain ⟨w1, w2, w3, w4⟩ := mj_wf_spec hwf
    subst hRm
    cases h9
    refine va_newq hx hb hown (mj_w1_T hts hk2 rfl) hSt.2.1 hK hP hD hS hA hx0 rfl (by omega) hc1 hq1 hd (fun q0 cA H1 hK1 hP1 hD1 hS1 => ?_)
    have hag := mj_up_ag (ad := ad) (q0 := q0) w4
    have := hN (va_up ad w.1.length q0) H1 locs ls (fun e => absurd e (by omega)) hag (mj_Rp_arr (kd := 3) (N := x.toNatClampNeg) rfl w3 w4 (fun h hh => ⟨rfl, rfl, mj_row_ne (Nat.ne_of_lt hh)⟩) (by
      refine (mj_ce3 (n := x.toNatClampNeg) (mj_kd_new (i := 0) rfl rfl)).trans ?_
      rw [show va_up ca w.1.length cA (w.1.length + 0) = cA from if_pos rfl]
      refine congrArg (fun z => Sum.inl (cA, x.toNatClampNeg, Sum.inr (Sum.inr (Sum.inr (Sum.inr z))))) (funext fun j => ?_)
      show (if j < _ then (mj_row w.2.2.2 w.1.length (fun _ => none) w.1.length j).map _ else none) = none
      rw [mj_row_eq]
      split <;> rfl) hT hK1 hP1 hD1) hS1 (mj_ls_ext hag w2 hl) hL hc1 hq1
    dsimp only at this
    rw [mj_st_new hag w1] at this
    exact this
  · cases h9
end ALC
