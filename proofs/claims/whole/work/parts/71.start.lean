/-! the law's start: both constructors -/
theorem lw_ki_C : lw_cki 9 68 71 = true := by decide +kernel
theorem lw_ki_M : lw_cki 12 834 128 = true := by decide +kernel
section START
variable {l : Launch} {D : va_G} {p : Program} {e0 : Env} {s : State} {m : MethodId} {args : Array Value} {below : List Frame} {meth : Method} {cd : Code} {Q : State → Prop} {ad ad2 : Nat → Nat} {A : Nat → Prop} {H : Heap} {locs : List Loc} {ls : Array Slot} {pc : Nat} {w w1 w2 : mjW} {c q : Nat} {cc : ByteArray}
set_option maxHeartbeats 4000000 in
theorem lw_new (hx : p.tables.exec = Jvm.exec) (hb : cd.code = cc) (hown : s.vm.findClass "CaughtHandLaw" = some m.cls) (hts : ∀ w ∈ mj_T, w.before args s = true) {ix ci : Nat} (hci : ci < 7) (hcl : (Jvm.Cond.classLink "CaughtHandLaw" ix (mj_cl ci).1).before args s = true) (hinst : (Jvm.Cond.instantiable (mj_cl ci).1 (mj_cl ci).2.2).before args s = true) (hini : (Jvm.Cond.initialized (mj_cl ci).1).before args s = true) {rest : List Value}
    (hR : mj_Rp D A s ad w H) (hS : va_S A s.heap H locs) (hA : ∀ x : Nat, s.heap.size ≤ x → A x) (hdg : decode cc pc = .ok (.new ix, 3)) (hc : c + 1 ≤ 600000) (hq : q + (mj_cl ci).2.2 ≤ 7302250)
    (kk : ∀ (q0 : Nat) (H1 : Heap), (∀ ad' : Nat → Nat, ad' 0 = q0 → mj_Rp D A s ad' (mj_w0 ci) H1) → mj_Rp D A s ad w H1 → (∀ h, h < w.1.length → ad h ≠ q0) → va_S A s.heap H1 locs → W p l e0 room_1 s m args below meth cd H1 locs (c + 1) (q + (mj_cl ci).2.2) Q (F0 m (pc + 3) ls (.ref q0 :: rest))) :
    W p l e0 room_1 s m args below meth cd H locs c q Q (F0 m pc ls rest) := by
  obtain ⟨ca, tys, hK, hP, hD, hT⟩ := hR
  obtain ⟨ty, hty, hdf⟩ := mj_dfl ci hci
  have hfs : ∀ j, j < (mj_cl ci).2.2 → defaultValue (ty j) = vp_V (mj_fs ad (mj_w0 ci) ci 0) j := fun j hj => by
    rw [hdf j hj]
    exact (mj_fs_new rfl rfl j hj).symm
  refine va_new (R := room_1) (c0 := cd) hx hb hts (mj_clU ci hci).1 ty hty hown hcl hinst hini hK hP hD hS hA (mj_cl_at hci) (fs := mj_fs ad (mj_w0 ci) ci 0) hfs hc hq hdg (fun q0 H1 hP1 hD1 hS1 => ?_)
  have hlen : (mj_ws ad ca w).length = w.1.length := mj_ws_len ..
  refine kk q0 H1 (fun ad' h0 => ?_) ⟨ca, tys, hK, hP1.by (fun k => k) (fun k x hx => ?_), hD1.by (fun k => k) (fun k x hx => ?_) (fun _ _ _ _ h => h), hT⟩ (fun h hh e => ?_) hS1
  · have ew : mj_ws ad' ca (mj_w0 ci) = [(q0, .inr (ci, mj_fs ad (mj_w0 ci) ci 0))] := by
      rw [← h0]
      rfl
    have hg : ∀ (k : Nat) (x : Nat × va_E), (mj_ws ad' ca (mj_w0 ci))[k]? = some x → (mj_ws ad ca w ++ [(q0, .inr (ci, mj_fs ad (mj_w0 ci) ci 0))])[(mj_ws ad ca w).length]? = some x := by
      intro k x hx
      rw [ew] at hx
      have hk : k = 0 := by
        have := (List.getElem?_eq_some_iff.mp hx).1
        simpa using this
      subst hk
      rw [List.getElem?_append_right (Nat.le_refl _), Nat.sub_self]
      exact hx
    refine ⟨ca, [], ⟨hK.1, fun k x h => by cases h⟩, hP1.by (fun _ => (mj_ws ad ca w).length) hg, hD1.by (fun _ => (mj_ws ad ca w).length) hg (fun i j hi hj _ => ?_), fun h hh hk => ?_⟩
    · have hi : i < 1 := hi
      have hj : j < 1 := hj
      omega
    · have hh : h < 1 := hh
      obtain rfl : h = 0 := by omega
      exact absurd rfl hk
  · rw [List.getElem?_append_left (List.getElem?_eq_some_iff.mp hx).1]
    exact hx
  · rw [List.getElem?_append_left (List.getElem?_eq_some_iff.mp hx).1]
    exact hx
  · have h1 : (mj_ws ad ca w ++ [(q0, .inr (ci, mj_fs ad (mj_w0 ci) ci 0))])[h]? = some (ad h, mj_ce ad ca w h) := by
      rw [List.getElem?_append_left (by rw [hlen]; exact hh)]
      exact mj_ws_at hh
    have h2 : (mj_ws ad ca w ++ [(q0, .inr (ci, mj_fs ad (mj_w0 ci) ci 0))])[w.1.length]? = some (q0, .inr (ci, mj_fs ad (mj_w0 ci) ci 0)) := by
      rw [List.getElem?_append_right (by rw [hlen]; exact Nat.le_refl _), hlen, Nat.sub_self]
      rfl
    have := hD1.1 h w.1.length _ _ h1 h2 e
    omega
set_option maxHeartbeats 4000000 in
theorem lw_calli (hx : p.tables.exec = Jvm.exec) (hb : cd.code = cc) (hml : cd.maxLocals = 4) (hown : s.vm.findClass "CaughtHandLaw" = some m.cls) (hts : ∀ w ∈ mj_T, w.before args s = true) {ix d z fu : Nat} (hck : lw_cki ix d z = true) {rest : List Value} (hfl : (mj_flat [.ref 0]).length ≤ mj_ml z) (hrest : (rest.map Value.category).sum ≤ 8) (hgo : mj_run fu z 0 (mj_entry z [.ref 0]) [] w 0 0 = some (w1, none))
    (hR : mj_Rp D A s ad w H) (hR2 : mj_Rp D A s ad2 w2 H) (hap : ∀ h, h < w.1.length → ∀ h2, h2 < w2.1.length → ad h ≠ ad2 h2) (h0 : 0 < w.1.length) (hSt : mj_St ad A s) (hS : va_S A s.heap H locs) (hA : ∀ x : Nat, s.heap.size ≤ x → A x) (hls : ls.size = 4) (hdg : decode cc pc = .ok (.invokespecial ix, 3)) (hc : c + mj_mc z ≤ 600000) (hq : q + mj_ms z ≤ 7302250)
    (kk : ∀ (ad1 : Nat → Nat) (H1 : Heap) (locs1 : List Loc), ad1 0 = ad 0 → ad1 1000 = ad 1000 → mj_Rp D A s ad1 w1 H1 → mj_Rp D A s ad2 w2 H1 → (∀ h, h < w1.1.length → ∀ h2, h2 < w2.1.length → ad1 h ≠ ad2 h2) → va_S A s.heap H1 locs1 → W p l e0 room_1 s m args below meth cd H1 locs1 (c + mj_mc z) (q + mj_ms z) Q (F0 m (pc + 3) ls rest)) :
    W p l e0 room_1 s m args below meth cd H locs c q Q (F0 m pc ls (.ref (ad 0) :: rest)) := by
  have hWk := mj_sound l D (mj_js l) mj_oks mj_moks fu _ _ _ _ _ _ _ _ _ hgo
  simp only [lw_cki, lw_ckm, Bool.and_eq_true, decide_eq_true_eq] at hck
  obtain ⟨⟨⟨⟨⟨⟨⟨q1, q3⟩, q4⟩, q5⟩, q6⟩, q2⟩, q7⟩, q8⟩ := hck
  have hm := mj_moks z (Nat.le_of_ble_eq_true q1)
  have hcode := mj_code_before (args := args) (s := s) hm hts
  have hBA : ∀ x, mj_A ad w.1.length H.size x → A x := fun x hx => by
    rcases hx with hx | hx
    · exact (hR.self 0).2 x hx
    · exact hA x (Nat.le_trans hS.1 hx)
  have hpre : ∀ (U : State), U.heap = H → s.WarmedH U.vm → mj_Pc D ad w H.size [.ref 0] (([.ref 0] : List Value).map (mj_v ad)).toArray U := fun U hU hW => ⟨rfl, by rw [hU], by rw [hU]; exact mj_Rp.moved hW.alike (hR.self H.size).1, hSt.go hW (fun x h1 h2 => by rw [hU]; exact hS.2.1 x h1 h2) hBA⟩
  have hsum : (rest.map fun v => v.category).sum ≤ 8 := hrest
  have hM := mj_met hm hfl hWk ad H.size
  unfold mj_wsz at hM
  rw [q8] at hM hcode
  have hrun := va_runI (p := p) (l := l) (e := e0) (R := room_1) (s := s) (m := m) (args := args) (below := below) (meth := meth) (c := cd) (H := H) (locs := locs) (cells := c) (slots := q) (b := ad 0) (As := []) (rest := rest) (nL := 4) (index := ix) (n := 0) (Ts := mj_T) (own := "CaughtHandLaw") (g := F0 m pc ls (.ref (ad 0) :: rest)) ⟨hx, hb, hml, hown, hts⟩ hM
    ⟨⟨rfl, rfl, Nat.le_of_ble_eq_true q3, Nat.le_of_ble_eq_true q4, by rw [← q8]; rw [← q8] at hcode; exact mj_pay (ws := []) hts hcode, List.mem_cons_self, hcode, mj_mok_ini hm hts, mj_mok_cls hm, mj_par q5, mj_w1_T hts q2 rfl⟩, q7, mj_w1_T hts q6 rfl⟩
    ⟨mj_blind, hpre⟩ rfl rfl hls rfl (lv_room hsum) hdg ⟨hc, hq⟩
  refine lw_use hrun hS hBA hR2 hap fun ad1 H1 locs1 g1 g2 g3 g4 g5 => ?_
  refine kk ad1 H1 locs1 (g2 0 (Or.inl h0)) (g2 1000 (Or.inr rfl)) (g3.weak hBA) g4 (fun h hh h2 hh2 e => ?_) g5
  obtain ⟨k1, -⟩ := mj_Rp_addr g3 h hh
  obtain ⟨-, k2⟩ := mj_Rp_addr hR2 h2 hh2
  rcases k1 with ⟨h3, h4, h5⟩ | h3
  · exact hap h3 h4 h2 hh2 (h5.trans e)
  · exact absurd k2 (Nat.not_lt.mpr (e ▸ h3))
end START
theorem mj_Rp_nil {D : va_G} {A : Nat → Prop} {s : State} {H : Heap} (hK : va_K D vwCl [] s) : mj_Rp D A s (fun _ => 0) ([], fun _ _ => 0, fun _ _ => 0, fun _ _ => none) H := ⟨fun _ => 0, [], hK, (fun k q h => by cases h), ⟨(fun i j p q h => by cases h), (fun k q h => by cases h)⟩, fun h hh => absurd hh (Nat.not_lt_zero h)⟩
theorem lw_inst : ∀ k, k < 7 → ∀ {s : State} {args : Array Value}, (∀ w ∈ lw_tbl, w.before args s = true) → (Jvm.Cond.instantiable (mj_cl k).1 (mj_cl k).2.2).before args s = true := by
  intro k hk s args h
  match k, hk with
  | 0, _ => exact h _ (by decide +kernel)
  | 1, _ => exact h _ (by decide +kernel)
  | 2, _ => exact h _ (by decide +kernel)
  | 3, _ => exact h _ (by decide +kernel)
  | 4, _ => exact h _ (by decide +kernel)
  | 5, _ => exact h _ (by decide +kernel)
  | 6, _ => exact h _ (by decide +kernel)
  | k + 7, h => exact absurd h (by omega)
set_option maxHeartbeats 4000000 in
theorem whole_start {p : Program} {e : Env} {s : State} {m : MethodId} {below : List Frame} {meth : Method} {c : Code} (l : Launch) (hflags : l.flags = flags0) {b L : Nat} {xs : Nat → Int32} (hL : L ≤ 3072) (C0 : lw_At p s m meth c b L xs) : W p l e room_1 s m #[Value.ref b] below meth c s.heap [] 0 0 (lw_Z below #[Value.ref b] s) (entryFrame m ([Value.ref b] : List Value).toArray 4) := by
  have C1 := C0
  obtain ⟨hx, hb, hr, hml, hown, hts0, hX, hbl, hlocks, hgv⟩ := C1
  have hts : ∀ w ∈ mj_T, w.before #[Value.ref b] s = true := fun w hw => hts0 w (List.mem_filter.mp hw).1
  obtain ⟨D, hK⟩ := law_D hts (fun k hk => lw_inst k hk hts0)
  obtain ⟨a, hSt⟩ := law_St hts0 hgv
  have hA : ∀ x : Nat, s.heap.size ≤ x → (fun q : Nat => s.heap.size ≤ q) x := fun _ h => h
  have hS : va_S (fun q : Nat => s.heap.size ≤ q) s.heap s.heap [] := va_S.rf
  have hRE : mj_Rp D (fun q : Nat => s.heap.size ≤ q) s (fun _ => 0) ([], fun _ _ => 0, fun _ _ => 0, fun _ _ => none) s.heap := mj_Rp_nil hK
  have hl := lv_entry ([.ref b]) (n := 4) (Nat.le_of_ble_eq_true rfl)
  rw [lg_entry_eq]
  generalize (lg_sl ([.ref b]) ++ List.replicate (4 - (lg_sl ([.ref b])).length) Slot.unset).toArray = ls at hl ⊢
  have hl : lv_has ls 4 [(0, .ref b)] := hl
  refine lw_new (ci := 5) hx hb hown hts (by decide) (hts0 _ (by decide +kernel)) (hts0 _ (by decide +kernel)) (hts0 _ (by decide +kernel)) hRE hS hA dl_0 (Nat.le_of_ble_eq_true rfl) (Nat.le_of_ble_eq_true rfl) (fun q0 H1 hN hR1 hne hS => ?_)
  clear hR1 hne
  refine lv_dup hx hb dl_3 rfl ?_
  have hRE1 : mj_Rp D (fun q : Nat => s.heap.size ≤ q) s (fun _ => 0) ([], fun _ _ => 0, fun _ _ => 0, fun _ _ => none) H1 := mj_Rp_nil hK
  refine lw_calli (ad := fun h => if h = 0 then q0 else a) hx hb hml hown hts lw_ki_C (rest := [.ref q0]) (Nat.le_of_ble_eq_true rfl) (by show (1 : Nat) + 0 ≤ 8; decide) mj_rC_run (hN _ rfl) hRE1 (fun h _ h2 hh2 => absurd hh2 (Nat.not_lt_zero h2)) (Nat.lt_succ_self 0) (hSt _ rfl) hS hA hl.1 dl_4 (Nat.le_of_ble_eq_true rfl) (Nat.le_of_ble_eq_true rfl) (fun ad1 H2 locs2 e1 e2 hR1 _ _ hS => ?_)
  have e1 : ad1 0 = q0 := e1
  have e2 : ad1 1000 = a := e2
  have hR1 := rC_world hR1
  refine lv_astore_n (lv' := [(1, .ref q0), (0, .ref b)]) hx hb dl_7 rfl hl (by decide) rfl (fun ls hl => ?_)
  refine lw_new (ci := 6) hx hb hown hts (by decide) (hts0 _ (by decide +kernel)) (hts0 _ (by decide +kernel)) (hts0 _ (by decide +kernel)) hR1 hS hA dl_8 (Nat.le_of_ble_eq_true rfl) (Nat.le_of_ble_eq_true rfl) (fun q1 H3 hN hR1 hne hS => ?_)
  refine lv_dup hx hb dl_11 rfl ?_
  refine lw_calli (ad := fun h => if h = 0 then q1 else a) hx hb hml hown hts lw_ki_M (rest := [.ref q1]) (Nat.le_of_ble_eq_true rfl) (by show (1 : Nat) + 0 ≤ 8; decide) mj_rM_run (hN _ rfl) hR1 (fun h hh h2 hh2 e9 => ?_) (Nat.lt_succ_self 0) (hSt _ rfl) hS hA hl.1 dl_12 (Nat.le_of_ble_eq_true rfl) (Nat.le_of_ble_eq_true rfl) (fun ad2 H4 locs4 f1 f2 hR2 hR1 hap hS => ?_)
  · have hh : h < 1 := hh
    obtain rfl : h = 0 := by omega
    exact hne h2 hh2 e9.symm
  have f1 : ad2 0 = q1 := f1
  have f2 : ad2 1000 = a := f2
  have hap9 : ApT ad1 ad2 := fun h hh h2 hh2 e9 => hap h2 (by rw [mj_rM_K]; exact hh2) h hh e9.symm
  have hR2 := rM_world hR2
  refine lv_astore_n (lv' := [(2, .ref q1), (1, .ref q0), (0, .ref b)]) hx hb dl_15 rfl hl (by decide) rfl (fun ls hl => ?_)
  refine lv_iconst (v := 0) hx hb dl_16 (by decide) ?_
  refine lv_istore_n (lv' := [(3, .int 0), (2, .ref q1), (1, .ref q0), (0, .ref b)]) hx hb dl_17 rfl hl (by decide) rfl (fun ls hl => ?_)
  refine W.widen (k := 600000) (n := 7302250) (Nat.le_of_ble_eq_true rfl) (Nat.le_of_ble_eq_true rfl) ?_
  exact law_loop (a1 := q0) (a2 := q1) hL C0 (L + 1) 0 (Nat.zero_le L) (by omega) H4 locs4 ls (lv_sub hl [3, 2, 1, 0] rfl) ⟨ad1, ad2, staE, _, _, _, _, e1, f1, hSt ad1 e2, hSt ad2 f2, hR1, hR2, hap9, vs_E, cw_E, mw_E, hS⟩
