/-! instructions on cells, switches, constants, the JDK's own -/
section MEM
variable {l : Launch} {D : va_G} {y : Nat} {p : Program} {e0 : Env} {R : Room} {s : State} {m : MethodId} {args : Array Value} {below : List Frame} {meth : Method} {cd : Code} {Q : State → Prop} {ad : Nat → Nat} {A : Nat → Prop} {H : Heap} {locs : List Loc} {ls : Array Slot} {pc : Nat} {L : mjL} {st : List Value} {w : mjW} {c q : Nat} {C : mjC} {ln a b d : Nat} {k : Int}
theorem mj_w1_T {dd : Nat} {wd : Jvm.Cond} (hts : ∀ w ∈ mj_T, w.before args s = true) (h : mj_w1 dd wd = true) (hg : goodWord wd = true) : wd.before args s = true := hts _ (mj_inT h hg)
theorem mj_Rp_set {w' : mjW} {h0 : Nat} {ca : Nat → ClassId} {tys : List (ClassId × FieldType)} {H1 : Heap} {en : va_E} (hK : va_K D vwCl tys s) (hT : ∀ h, h < w.1.length → (mj_kd w h).1 ≠ 0 → (ca h, mj_ty (mj_kd w h).1) ∈ tys) (hk : w'.1 = w.1) (he : mj_ce ad ca w' h0 = en) (ho : ∀ a, a ≠ h0 → mj_ce ad ca w' a = mj_ce ad ca w a)
    (hP : va_P D vwCl ((mj_ws ad ca w).set h0 (ad h0, en)) H1) (hD : va_D A ((mj_ws ad ca w).set h0 (ad h0, en))) : mj_Rp D A s ad w' H1 := by
  rw [mj_ws_set hk he ho] at hP hD
  refine ⟨ca, tys, hK, hP, hD, fun h hh h0 => ?_⟩
  have e : mj_kd w' h = mj_kd w h := by unfold mj_kd; rw [hk]
  rw [e] at h0 ⊢
  exact hT h (by rw [← hk]; exact hh) h0
set_option maxHeartbeats 4000000 in
theorem mj_sim_getfield {i : Nat} (hd : decode (mj_b y) pc = .ok (.getfield i, ln)) (hk : mj_okc y pc (.getfield i, ln, a, b, d, k) = true) (h : mj_sim y pc (.getfield i, ln, a, b, d, k) L st w c q = some C)
    (hC : mj_Cx y p R s m args meth cd ad A) (hR : mj_Rp D A s ad w H) (hS : va_S A s.heap H locs) (hl : mj_ls ad ls L) (hL : L.length = mj_ml y) (hc : c ≤ mj_mc y) (hq : q ≤ mj_ms y) (hN : mj_Nx l D y p e0 R s m args below meth cd Q ad A w.1.length C) : W p l e0 R s m args below meth cd H locs c q Q (F0 m pc ls (st.map (mj_v ad))) := by
  obtain ⟨hx, hb, hml, hown, hts, hnm, hr, hlk, hRm, hSt, hA⟩ := hC
  have hN0 : ∀ (pc' : Nat) (st' : List Value), C = (pc', L, st', w, c, q) → W p l e0 R s m args below meth cd H locs c q Q (F0 m pc' ls (st'.map (mj_v ad))) := by
    intro pc' st' e
    subst e
    exact hN ad H locs ls (fun _ => rfl) (fun _ _ => rfl) hR hS hl hL hc hq
  obtain ⟨ca, tys, hK, hP, hD, hT⟩ := hR
  simp only [mj_okc, Bool.and_eq_true] at hk
  obtain ⟨⟨⟨⟨hk1, hk2⟩, hk3⟩, hk4⟩, hk5⟩ := hk
  obtain rfl := Nat.eq_of_beq_eq_true hk1
  have ha : a < 7 := Nat.le_of_ble_eq_true hk2
  have hbN : b < mj_fn a := Nat.le_of_ble_eq_true hk3
  have hlink := mj_w1_T hts hk4 rfl
  obtain ⟨h0, r, rfl, h2⟩ := mj_pr_inv (show mj_pr _ _ = some C from h)
  clear h
  split at h2
  · next hkd =>
    have hlt := mj_kd_lt hkd (by show (0 : Nat) ≠ 99; decide)
    have he := mj_ws_at (ad := ad) (ca := ca) hlt
    rw [mj_ce0 hkd] at he
    have hfs := mj_fs_at (ad := ad) (w := w) (h := h0) hbN
    split at h2
    · rw [if_pos (show mj_rk a b = true from hk5)] at hfs
      exact va_get hx hb hts (mj_clU a ha).1 hown hK hP h0 he (mj_cl_at ha) b hbN hlink (fun _ z => z) hfs hd (by
        have := hN0 _ (va_rf (w.2.2.2 h0 b) :: r) (Option.some.inj h2).symm
        rw [List.map_cons, mj_v_rf] at this
        exact this)
    · next hne =>
      have hk6 : mj_rk a b = false := by
        split at hk5
        · exact absurd rfl hne
        · simpa using hk5
      rw [if_neg (by rw [hk6]; decide)] at hfs
      exact va_get hx hb hts (mj_clU a ha).1 hown hK hP h0 he (mj_cl_at ha) b hbN hlink (fun _ z => z) hfs hd (hN0 _ (.int (w.2.1 h0 b) :: r) (Option.some.inj h2).symm)
  · cases h2
theorem mj_fs_int {w' : mjW} {h0 : Nat} {v : Int32} (hb : b < mj_fn a) (hr : mj_rk a b = false) (hI : w'.2.1 h0 = va_up (w.2.1 h0) b v) (hG : w'.2.2.2 h0 = w.2.2.2 h0) : mj_fs ad w' a h0 = (mj_fs ad w a h0).set b (.int v) := by
  apply List.ext_getElem?
  intro j
  by_cases hj : j < mj_fn a
  · rw [mj_fs_at hj, hI, hG]
    by_cases e : j = b
    · subst e
      rw [List.getElem?_set_self (by rw [mj_fs_len]; exact hj), if_neg (by rw [hr]; decide)]
      simp [va_up]
    · rw [List.getElem?_set_ne (Ne.symm e), mj_fs_at hj]
      simp [va_up, e]
  · rw [List.getElem?_eq_none (by rw [mj_fs_len]; omega), List.getElem?_eq_none (by rw [List.length_set, mj_fs_len]; omega)]
theorem mj_fs_ref {w' : mjW} {h0 : Nat} {v : Nat} (hb : b < mj_fn a) (hr : mj_rk a b = true) (hI : w'.2.1 h0 = w.2.1 h0) (hG : w'.2.2.2 h0 = va_up (w.2.2.2 h0) b (some v)) : mj_fs ad w' a h0 = (mj_fs ad w a h0).set b (.ref (ad v)) := by
  apply List.ext_getElem?
  intro j
  by_cases hj : j < mj_fn a
  · rw [mj_fs_at hj, hI, hG]
    by_cases e : j = b
    · subst e
      rw [List.getElem?_set_self (by rw [mj_fs_len]; exact hj), if_pos hr]
      simp [va_up, va_rf]
    · rw [List.getElem?_set_ne (Ne.symm e), mj_fs_at hj]
      simp [va_up, e]
  · rw [List.getElem?_eq_none (by rw [mj_fs_len]; omega), List.getElem?_eq_none (by rw [List.length_set, mj_fs_len]; omega)]
theorem mj_isr_ty {ci k : Nat} (h : mj_isr ci k = true) : ∃ ty, parseFieldDescriptor (mj_ds ci k) = some ty ∧ ∀ x : Nat, narrow ty (.ref x) = .ref x ∧ fits ty (.ref x) = true := by
  unfold mj_isr at h
  split at h
  · next n hn => exact ⟨_, hn, fun x => ⟨rfl, rfl⟩⟩
  · next n hn => exact ⟨_, hn, fun x => ⟨rfl, rfl⟩⟩
  · cases h
set_option maxHeartbeats 4000000 in
theorem mj_sim_putfield {i : Nat} (hd : decode (mj_b y) pc = .ok (.putfield i, ln)) (hk : mj_okc y pc (.putfield i, ln, a, b, d, k) = true) (h : mj_sim y pc (.putfield i, ln, a, b, d, k) L st w c q = some C)
    (hC : mj_Cx y p R s m args meth cd ad A) (hR : mj_Rp D A s ad w H) (hS : va_S A s.heap H locs) (hl : mj_ls ad ls L) (hL : L.length = mj_ml y) (hc : c ≤ mj_mc y) (hq : q ≤ mj_ms y) (hN : mj_Nx l D y p e0 R s m args below meth cd Q ad A w.1.length C) : W p l e0 R s m args below meth cd H locs c q Q (F0 m pc ls (st.map (mj_v ad))) := by
  obtain ⟨hx, hb, hml, hown, hts, hnm, hr, hlk, hRm, hSt, hA⟩ := hC
  obtain ⟨ca, tys, hK, hP, hD, hT⟩ := hR
  simp only [mj_okc, Bool.and_eq_true] at hk
  obtain ⟨⟨⟨⟨hk1, hk2⟩, hk3⟩, hk4⟩, hk5⟩ := hk
  obtain rfl := Nat.eq_of_beq_eq_true hk1
  have ha : a < 7 := Nat.le_of_ble_eq_true hk2
  have hbN : b < mj_fn a := Nat.le_of_ble_eq_true hk3
  have hlink := mj_w1_T hts hk4 rfl
  obtain ⟨hin, ⟨ty0, hty⟩, hnmm⟩ := mj_clU a ha
  simp only [mj_sim] at h
  split at h
  · simp only [Bool.and_eq_true, decide_eq_true_eq, Bool.not_eq_true'] at hk5
    obtain ⟨h0, v, r, rfl, h2⟩ := mj_pir_inv h
    clear h
    split at h2
    · next hkd =>
      have hlt := mj_kd_lt hkd (by show (0 : Nat) ≠ 99; decide)
      have he := mj_ws_at (ad := ad) (ca := ca) hlt
      rw [mj_ce0 hkd] at he
      have hrk : mj_rk a b = false := by simp [mj_rk, hk5.1]
      cases h2
      refine va_put hx hb hts hin ty0 hty hnmm hown hK hP hD hS h0 he (mj_cl_at ha) b hbN hlink (fun _ z => z) hk5.2 (ty := .int) (v := .int v) (by show parseFieldDescriptor (mj_ds a b) = _; rw [hk5.1]; rfl) rfl rfl (by rw [mj_fs_len]; exact hbN) hd (fun H1 locs1 hP1 hD1 hS1 => ?_)
      exact hN ad H1 locs1 ls (fun _ => rfl) (fun _ _ => rfl) (mj_Rp_set hK hT rfl ((mj_ce0 (w := (w.1, mj_row w.2.1 h0 (va_up (w.2.1 h0) b v), w.2.2)) hkd).trans (congrArg (fun z => Sum.inr (a, z)) (mj_fs_int hbN hrk mj_row_eq rfl))) (fun a' e => mj_ce_same rfl (mj_row_ne e) rfl rfl) hP1 hD1) hS1 hl hL hc hq
    · cases h2
  · simp only [Bool.and_eq_true, decide_eq_true_eq, Bool.not_eq_true'] at hk5
    obtain ⟨h0, v, r, rfl, h2⟩ := mj_pir_inv h
    clear h
    split at h2
    · next hkd =>
      split at h2
      · next hv =>
        have hlt := mj_kd_lt hkd (by show (0 : Nat) ≠ 99; decide)
        have he := mj_ws_at (ad := ad) (ca := ca) hlt
        rw [mj_ce0 hkd] at he
        have hrk : mj_rk a b = false := by simp [mj_rk, hk5.1]
        cases h2
        refine va_put hx hb hts hin ty0 hty hnmm hown hK hP hD hS h0 he (mj_cl_at ha) b hbN hlink (fun _ z => z) hk5.2 (ty := .boolean) (v := .int v) (by show parseFieldDescriptor (mj_ds a b) = _; rw [hk5.1]; rfl) (by rcases hv with rfl | rfl <;> decide) (by rcases hv with rfl | rfl <;> decide) (by rw [mj_fs_len]; exact hbN) hd (fun H1 locs1 hP1 hD1 hS1 => ?_)
        exact hN ad H1 locs1 ls (fun _ => rfl) (fun _ _ => rfl) (mj_Rp_set hK hT rfl ((mj_ce0 (w := (w.1, mj_row w.2.1 h0 (va_up (w.2.1 h0) b v), w.2.2)) hkd).trans (congrArg (fun z => Sum.inr (a, z)) (mj_fs_int hbN hrk mj_row_eq rfl))) (fun a' e => mj_ce_same rfl (mj_row_ne e) rfl rfl) hP1 hD1) hS1 hl hL hc hq
      · cases h2
    · cases h2
  · next n1 n2 =>
    have hk6 : mj_rk a b = true ∧ mj_isr a b = true ∧ ((mj_cl a).2.1 b).2.2.2 = true ∧ (mj_nm y).name = "<init>" ∧ ((mj_cl a).2.1 b).1 = mj_own y := by
      split at hk5
      · exact absurd rfl n1
      · exact absurd rfl n2
      · simp only [Bool.and_eq_true, decide_eq_true_eq] at hk5
        exact ⟨hk5.1.1.1.1, hk5.1.1.1.2, hk5.1.1.2, hk5.1.2, hk5.2⟩
    obtain ⟨g1, g2, g3, g4, g5⟩ := hk6
    obtain ⟨ty, hty2, hnf⟩ := mj_isr_ty g2
    obtain ⟨h0, v, r, rfl, h2⟩ := mj_prr_inv h
    clear h
    split at h2
    · next hkd =>
      have hlt := mj_kd_lt hkd (by show (0 : Nat) ≠ 99; decide)
      have he := mj_ws_at (ad := ad) (ca := ca) hlt
      rw [mj_ce0 hkd] at he
      cases h2
      refine va_putF hx hb hts hin ty0 hty hnmm hown hK hP hD hS h0 he (mj_cl_at ha) b hbN hlink (fun _ z => z) g3 (hnm.trans g4) g5 (ty := ty) (v := .ref (ad v)) hty2 (hnf _).1 (hnf _).2 (by rw [mj_fs_len]; exact hbN) hd (fun H1 locs1 hP1 hD1 hS1 => ?_)
      exact hN ad H1 locs1 ls (fun _ => rfl) (fun _ _ => rfl) (mj_Rp_set hK hT rfl ((mj_ce0 (w := (w.1, w.2.1, w.2.2.1, mj_row w.2.2.2 h0 (va_up (w.2.2.2 h0) b (some v)))) hkd).trans (congrArg (fun z => Sum.inr (a, z)) (mj_fs_ref (w := w) (v := v) hbN g1 rfl mj_row_eq))) (fun a' e => mj_ce_same rfl rfl rfl (mj_row_ne e)) hP1 hD1) hS1 hl hL hc hq
    · cases h2
theorem mj_ty_at {ca : Nat → ClassId} {tys : List (ClassId × FieldType)} {h0 kd n : Nat} (hT : ∀ h, h < w.1.length → (mj_kd w h).1 ≠ 0 → (ca h, mj_ty (mj_kd w h).1) ∈ tys) (hkd : mj_kd w h0 = (kd, n)) (h0k : kd ≠ 0) (h9 : kd ≠ 99) : ∃ t0 : Nat, tys[t0]? = some (ca h0, mj_ty kd) := by
  have h := hT h0 (mj_kd_lt hkd h9) (by rw [hkd]; exact h0k)
  rw [hkd] at h
  exact List.getElem?_of_mem h
/-- a row of rows of longs is read -/
theorem mj_aldJ {cc : ByteArray} (hexec : p.tables.exec = Jvm.exec) (hb : cd.code = cc) {cl : List vw_C} {tys : List (ClassId × FieldType)} {ws : va_W} {x0 : Nat} {rest : List Value} (hK : va_K D cl tys s) (hP : va_P D cl ws H) (q0 t0 : Nat) {cA : ClassId} {ty : FieldType} {n : Nat} {f : Nat → Option Nat} (ha : ws[q0]? = some (x0, .inl (cA, n, .inr (.inr (.inr (.inr f)))))) (ht : tys[t0]? = some (cA, .array ty)) {i : Int32} (hin : vp_in i n) (hdg : decode cc pc = .ok (.aaload, 1))
    (kk : W p l e0 R s m args below meth cd H locs c q Q (F0 m (pc + 1) ls (va_rf (f i.toNatClampNeg) :: rest))) : W p l e0 R s m args below meth cd H locs c q Q (F0 m pc ls (.int i :: .ref x0 :: rest)) := by
  have hlt : i.toNatClampNeg < n := Nat.not_le.mp fun q => hin (Or.inr q)
  exact W.aald (v := va_rf (f i.toNatClampNeg)) (ty := .array ty) hexec hb (hP q0 _ ha) ((hK.2 t0 _ ht).1 n (fun j => va_rf (f j))) rfl (fun q => by cases q) (by show ¬ (i < 0 ∨ (arrV _ _ _).slots.size ≤ _); rw [arrV_size]; exact hin) (by show (arrV _ _ _).slots[_]? = _; rw [arrV_read _ _ hlt]) rfl rfl hdg kk
set_option maxHeartbeats 4000000 in
theorem mj_sim_array {ins : Instr} (hins : ins = .iaload ∨ ins = .laload ∨ ins = .aaload ∨ ins = .iastore ∨ ins = .lastore ∨ ins = .aastore ∨ ins = .arraylength) (hd : decode (mj_b y) pc = .ok (ins, ln)) (hk : mj_okc y pc (ins, ln, a, b, d, k) = true) (h : mj_sim y pc (ins, ln, a, b, d, k) L st w c q = some C)
    (hC : mj_Cx y p R s m args meth cd ad A) (hR : mj_Rp D A s ad w H) (hS : va_S A s.heap H locs) (hl : mj_ls ad ls L) (hL : L.length = mj_ml y) (hc : c ≤ mj_mc y) (hq : q ≤ mj_ms y) (hN : mj_Nx l D y p e0 R s m args below meth cd Q ad A w.1.length C) : W p l e0 R s m args below meth cd H locs c q Q (F0 m pc ls (st.map (mj_v ad))) := by
  obtain ⟨hx, hb, hml, hown, hts, hnm, hr, hlk, hRm, hSt, hA⟩ := hC
  have hN0 : ∀ (pc' : Nat) (st' : List Value), C = (pc', L, st', w, c, q) → W p l e0 R s m args below meth cd H locs c q Q (F0 m pc' ls (st'.map (mj_v ad))) := by
    intro pc' st' e
    subst e
    exact hN ad H locs ls (fun _ => rfl) (fun _ _ => rfl) hR hS hl hL hc hq
  obtain ⟨ca, tys, hK, hP, hD, hT⟩ := hR
  rcases hins with rfl | rfl | rfl | rfl | rfl | rfl | rfl
  · obtain rfl := Nat.eq_of_beq_eq_true (show Nat.beq ln 1 = true from hk)
    obtain ⟨h0, i, r, rfl, h2⟩ := mj_pir_inv (show mj_pir _ _ = some C from h)
    clear h
    obtain ⟨hkd, hin, h2⟩ := mj_ix_inv h2
    have he := mj_ws_at (ad := ad) (ca := ca) (mj_kd_lt hkd (by show (1 : Nat) ≠ 99; decide))
    rw [mj_ce1 hkd] at he
    obtain ⟨t0, ht⟩ := mj_ty_at hT hkd (by decide) (by decide)
    exact va_iald hx hb hK hP h0 t0 he ht hin hd (hN0 _ (.int (w.2.1 h0 i.toNatClampNeg) :: r) (Option.some.inj h2).symm)
  · obtain rfl := Nat.eq_of_beq_eq_true (show Nat.beq ln 1 = true from hk)
    obtain ⟨h0, i, r, rfl, h2⟩ := mj_pir_inv (show mj_pir _ _ = some C from h)
    clear h
    obtain ⟨hkd, hin, h2⟩ := mj_ix_inv h2
    have he := mj_ws_at (ad := ad) (ca := ca) (mj_kd_lt hkd (by show (2 : Nat) ≠ 99; decide))
    rw [mj_ce2 hkd] at he
    obtain ⟨t0, ht⟩ := mj_ty_at hT hkd (by decide) (by decide)
    exact va_lald hx hb hK hP h0 t0 he ht hin hd (hN0 _ (.long (w.2.2.1 h0 i.toNatClampNeg) :: r) (Option.some.inj h2).symm)
  · obtain rfl := Nat.eq_of_beq_eq_true (show Nat.beq ln 1 = true from hk)
    obtain ⟨h0, i, r, rfl, h2⟩ := mj_pir_inv (show mj_pir _ _ = some C from h)
    clear h
    split at h2
    · obtain ⟨hkd, hin, h2⟩ := mj_ix_inv h2
      have he := mj_ws_at (ad := ad) (ca := ca) (mj_kd_lt hkd (by show (4 : Nat) ≠ 99; decide))
      rw [mj_ce4 hkd] at he
      obtain ⟨t0, ht⟩ := mj_ty_at hT hkd (by decide) (by decide)
      have hlt : i.toNatClampNeg < (mj_kd w h0).2 := Nat.not_le.mp fun q => hin (Or.inr q)
      refine mj_aldJ hx hb hK hP h0 t0 he ht hin hd ?_
      have := hN0 _ (va_rf (w.2.2.2 h0 i.toNatClampNeg) :: r) (Option.some.inj h2).symm
      rw [List.map_cons, mj_v_rf] at this
      rw [if_pos hlt]
      exact this
    · obtain ⟨hkd, hin, h2⟩ := mj_ix_inv h2
      have he := mj_ws_at (ad := ad) (ca := ca) (mj_kd_lt hkd (by show (3 : Nat) ≠ 99; decide))
      rw [mj_ce3 hkd] at he
      obtain ⟨t0, ht⟩ := mj_ty_at hT hkd (by decide) (by decide)
      have hlt : i.toNatClampNeg < (mj_kd w h0).2 := Nat.not_le.mp fun q => hin (Or.inr q)
      refine va_aldq hx hb hK hP h0 t0 he ht hin hd ?_
      have := hN0 _ (va_rf (w.2.2.2 h0 i.toNatClampNeg) :: r) (Option.some.inj h2).symm
      rw [List.map_cons, mj_v_rf] at this
      rw [if_pos hlt]
      exact this
  · obtain rfl := Nat.eq_of_beq_eq_true (show Nat.beq ln 1 = true from hk)
    obtain ⟨h0, i, v, r, rfl, h2⟩ := mj_piir_inv (show mj_piir _ _ = some C from h)
    clear h
    obtain ⟨hkd, hin, h2⟩ := mj_ix_inv h2
    have he := mj_ws_at (ad := ad) (ca := ca) (mj_kd_lt hkd (by show (1 : Nat) ≠ 99; decide))
    rw [mj_ce1 hkd] at he
    obtain ⟨t0, ht⟩ := mj_ty_at hT hkd (by decide) (by decide)
    cases h2
    refine va_iast hx hb hK hP hD hS h0 t0 he ht hin hd (fun H1 locs1 hP1 hD1 hS1 => ?_)
    exact hN ad H1 locs1 ls (fun _ => rfl) (fun _ _ => rfl) (mj_Rp_set hK hT rfl ((mj_ce1 (w := (w.1, mj_row w.2.1 h0 (va_up (w.2.1 h0) i.toNatClampNeg v), w.2.2)) hkd).trans (congrArg (fun z => Sum.inl (ca h0, (mj_kd w h0).2, Sum.inl z)) mj_row_eq)) (fun a' e => mj_ce_same rfl (mj_row_ne e) rfl rfl) hP1 hD1) hS1 hl hL hc hq
  · obtain rfl := Nat.eq_of_beq_eq_true (show Nat.beq ln 1 = true from hk)
    obtain ⟨h0, i, v, r, rfl, h2⟩ := mj_plir_inv (show mj_plir _ _ = some C from h)
    clear h
    obtain ⟨hkd, hin, h2⟩ := mj_ix_inv h2
    have he := mj_ws_at (ad := ad) (ca := ca) (mj_kd_lt hkd (by show (2 : Nat) ≠ 99; decide))
    rw [mj_ce2 hkd] at he
    obtain ⟨t0, ht⟩ := mj_ty_at hT hkd (by decide) (by decide)
    cases h2
    refine va_last hx hb hK hP hD hS h0 t0 he ht hin hd (fun H1 locs1 hP1 hD1 hS1 => ?_)
    exact hN ad H1 locs1 ls (fun _ => rfl) (fun _ _ => rfl) (mj_Rp_set hK hT rfl ((mj_ce2 (w := (w.1, w.2.1, mj_row w.2.2.1 h0 (va_up (w.2.2.1 h0) i.toNatClampNeg v), w.2.2.2)) hkd).trans (congrArg (fun z => Sum.inl (ca h0, (mj_kd w h0).2, Sum.inr (Sum.inl z))) mj_row_eq)) (fun a' e => mj_ce_same rfl rfl (mj_row_ne e) rfl) hP1 hD1) hS1 hl hL hc hq
  · obtain rfl := Nat.eq_of_beq_eq_true (show Nat.beq ln 1 = true from hk)
    obtain ⟨h0, i, v, r, rfl, h2⟩ := mj_prir_inv (show mj_prir _ _ = some C from h)
    clear h
    split at h2
    · next hkv =>
      obtain ⟨hkd, hin, h2⟩ := mj_ix_inv h2
      have he := mj_ws_at (ad := ad) (ca := ca) (mj_kd_lt hkd (by show (3 : Nat) ≠ 99; decide))
      rw [mj_ce3 hkd] at he
      have hev := mj_ws_at (ad := ad) (ca := ca) (mj_kd_lt hkv (by show (0 : Nat) ≠ 99; decide))
      rw [mj_ce0 hkv] at hev
      obtain ⟨t0, ht⟩ := mj_ty_at hT hkd (by decide) (by decide)
      have hlt : i.toNatClampNeg < (mj_kd w h0).2 := Nat.not_le.mp fun q => hin (Or.inr q)
      cases h2
      refine va_astq hx hb hK hP hD hS h0 t0 v 0 (r := (RX0, TX0, 3)) he ht hev rfl hin hd (fun H1 locs1 hP1 hD1 hS1 => ?_)
      refine hN ad H1 locs1 ls (fun _ => rfl) (fun _ _ => rfl) (mj_Rp_set hK hT rfl ((mj_ce3 (w := (w.1, w.2.1, w.2.2.1, mj_row w.2.2.2 h0 (va_up (w.2.2.2 h0) i.toNatClampNeg (some v)))) hkd).trans (congrArg (fun z => Sum.inl (ca h0, (mj_kd w h0).2, Sum.inr (Sum.inr (Sum.inr (Sum.inr z))))) (funext fun j => ?_))) (fun a' e => mj_ce_same rfl rfl rfl (mj_row_ne e)) hP1 hD1) hS1 hl hL hc hq
      show (if j < _ then (mj_row w.2.2.2 h0 (va_up (w.2.2.2 h0) i.toNatClampNeg (some v)) h0 j).map ad else none) = _
      rw [mj_row_eq]
      by_cases e : j = i.toNatClampNeg
      · subst e
        simp [va_up, hlt]
      · simp [va_up, e]
    · cases h2
  · obtain rfl := Nat.eq_of_beq_eq_true (show Nat.beq ln 1 = true from hk)
    obtain ⟨h0, r, rfl, h2⟩ := mj_pr_inv (show mj_pr _ _ = some C from h)
    clear h
    split at h2
    · next hk1 =>
      have hkd : mj_kd w h0 = (1, (mj_kd w h0).2) := by rw [← hk1]
      have he := mj_ws_at (ad := ad) (ca := ca) (mj_kd_lt hkd (by show (1 : Nat) ≠ 99; decide))
      rw [mj_ce1 hkd] at he
      obtain ⟨t0, ht⟩ := mj_ty_at hT hkd (by decide) (by decide)
      exact va_alen hx hb hK hP h0 t0 he ht rfl hd (hN0 _ (.int (nI (mj_kd w h0).2) :: r) (Option.some.inj h2).symm)
    · cases h2
end MEM
