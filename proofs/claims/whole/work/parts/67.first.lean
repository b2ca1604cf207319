/-! the first state, and the machine's heap in the law's words -/
def offE : Off := mkO 0 0 0 0 14 1 (fun _ => 0) (fun _ => 0) (fun _ => 0) (fun _ _ => 0) (fun _ _ => 0) (fun _ _ => 0)
def staE : Sta := mkS offE 0 (fun _ => offE) 0 offE 0 (fun _ => offE) 0 (fun _ => 0) (fun _ => 0) (fun _ => 0) (fun _ _ => 0)
theorem vo_E : VO offE := ⟨by decide, by decide, by decide, by decide, by decide, by decide, fun p hp => absurd hp (Nat.not_lt_zero p), fun p hp => absurd hp (Nat.not_lt_zero p), fun p hp => absurd hp (Nat.not_lt_zero p), fun p q hp => absurd hp (Nat.not_lt_zero p), fun p hp => absurd hp (Nat.not_lt_zero p), fun p hp => absurd hp (Nat.not_lt_zero p), fun p hp => absurd hp (Nat.not_lt_zero p)⟩
theorem vs_E : VS staE := ⟨vo_E, by decide, by decide, fun j hj => absurd hj (Nat.not_lt_zero j), by decide, fun h => absurd h (by decide), by decide, fun j hj => absurd hj (Nat.not_lt_zero j), fun s _ => Nat.zero_le _, fun s _ => by show 0 < 4; decide⟩
noncomputable def chkC (I : Nat → Nat → Int32) (J : Nat → Nat → Int64) : Bool :=
  decide (I 1 0 = nI 0) && decide (I 1 1 = nI 0) && decide (I 1 2 = nI 0) && decide (I 1 3 = nI 14) && decide (I 1 4 = nI 1) && decide (I 2 0 = nI 0) && (List.range 8).all (fun c => decide (I 8 c = sI 0)) && decide (I 12 1 = nI 0) && decide (I 12 2 = nI 0) && decide (I 0 4 = nI 0) && decide (I 86 1 = nI 0) && (List.range 4).all (fun c => decide (I 90 c = sI 0)) && (List.range 4).all (fun c => (List.range 24).all (fun i => decide (J (92 + c) i = 0)))
noncomputable def chkM (I : Nat → Nat → Int32) (J : Nat → Nat → Int64) : Bool :=
  decide (I 1 147 = nI 0) && decide (I 1 148 = nI 0) && decide (I 1 149 = nI 0) && decide (I 1 150 = nI 0) && decide (I 1 151 = nI 14) && decide (I 1 152 = nI 1) && decide (I 1 153 = nI 0) && decide (I 0 1 = nI 0) && decide (I 0 3 = nI 0) && (List.range 4).all (fun c => decide (I 6 c = tI 0)) && (List.range 4).all (fun c => (List.range 24).all (fun i => decide (J 5 (24 * c + i) = 0)))
theorem chkC_ok : chkC mj_rC.1.2.1 mj_rC.1.2.2.1 = true := by decide +kernel
theorem chkM_ok : chkM mj_rM.1.2.1 mj_rM.1.2.2.1 = true := by decide +kernel
theorem all_lt {n : Nat} {f : Nat → Bool} (h : (List.range n).all f = true) : ∀ i, i < n → f i = true := fun i hi => List.all_eq_true.mp h i (List.mem_range.mpr hi)
theorem cw_E0 {I : Nat → Nat → Int32} {J : Nat → Nat → Int64} (h : chkC I J = true) : CW I J staE := by
  unfold chkC at h
  simp only [Bool.and_eq_true, decide_eq_true_eq] at h
  obtain ⟨⟨⟨⟨⟨⟨⟨⟨⟨⟨⟨⟨a1, a2⟩, a3⟩, a4⟩, a5⟩, a6⟩, a7⟩, a8⟩, a9⟩, b1⟩, b2⟩, b3⟩, b4⟩ := h
  refine ⟨⟨a1, a2, a3, a4, a5, a6, fun p hp => absurd hp (Nat.not_lt_zero p), fun p hp => absurd hp (Nat.not_lt_zero p), fun p hp => absurd hp (Nat.not_lt_zero p), fun c hc => of_decide_eq_true (all_lt a7 c hc), fun p hp => absurd hp (Nat.not_lt_zero p), fun p hp => absurd hp (Nat.not_lt_zero p)⟩, ⟨0, by decide, a8, a9, fun j hj => absurd hj (Nat.not_lt_zero j)⟩, b1, fun h => absurd h (by decide), b2, fun j hj => absurd hj (Nat.not_lt_zero j), fun s hs => of_decide_eq_true (all_lt b3 s hs), fun s _ h => absurd rfl h, fun s hs i hi => of_decide_eq_true (all_lt (all_lt b4 s hs) i hi)⟩
theorem mw_E0 {I : Nat → Nat → Int32} {J : Nat → Nat → Int64} (h : chkM I J = true) : MW I J staE := by
  unfold chkM at h
  simp only [Bool.and_eq_true, decide_eq_true_eq] at h
  obtain ⟨⟨⟨⟨⟨⟨⟨⟨⟨⟨a1, a2⟩, a3⟩, a4⟩, a5⟩, a6⟩, a7⟩, a8⟩, a9⟩, b1⟩, b2⟩ := h
  refine ⟨⟨a1, a2, a3, a4, a5, a6, fun p hp => absurd hp (Nat.not_lt_zero p), fun p hp => absurd hp (Nat.not_lt_zero p), fun p hp => absurd hp (Nat.not_lt_zero p), fun p hp => absurd hp (Nat.not_lt_zero p), fun p hp => absurd hp (Nat.not_lt_zero p), fun p hp => absurd hp (Nat.not_lt_zero p)⟩, ⟨a7, fun j hj => absurd hj (Nat.not_lt_zero j)⟩, a8, fun h => absurd h (by decide), a9, fun j hj => absurd hj (Nat.not_lt_zero j), fun s hs => of_decide_eq_true (all_lt b1 s hs), fun s _ h => absurd rfl h, fun s hs i hi => of_decide_eq_true (all_lt (all_lt b2 s hs) i hi)⟩
theorem cw_E : CW mj_rC.1.2.1 mj_rC.1.2.2.1 staE := cw_E0 chkC_ok
theorem mw_E : MW mj_rM.1.2.1 mj_rM.1.2.2.1 staE := mw_E0 chkM_ok
/-! only the references within the cells count -/
noncomputable def smK (K : List (Nat × Nat)) : Bool := K.all fun x => Nat.beq x.1 1 || Nat.beq x.1 2 || (Nat.beq x.1 0 && Nat.ble (mj_fn x.2) 64) || (Nat.ble 3 x.1 && Nat.ble x.2 64)
theorem mj_Rp_G {D : va_G} {A : Nat → Prop} {s : State} {ad : Nat → Nat} {K : List (Nat × Nat)} {I : Nat → Nat → Int32} {J : Nat → Nat → Int64} {G G' : Nat → Nat → Option Nat} {H : Heap} (hs : smK K = true) (hG : ∀ h, h < K.length → ∀ k, k < 64 → G h k = G' h k) (hR : mj_Rp D A s ad (K, I, J, G) H) : mj_Rp D A s ad (K, I, J, G') H := by
  obtain ⟨ca, tys, hK, hP, hD, hT⟩ := hR
  have e : mj_ws ad ca (K, I, J, G) = mj_ws ad ca (K, I, J, G') := by
    unfold mj_ws
    refine List.map_congr_left fun h hh => ?_
    have hlt : h < K.length := List.mem_range.mp hh
    have hm : K.getD h (99, 0) ∈ K := by
      rw [List.getD_eq_getElem?_getD, List.getElem?_eq_getElem hlt]
      exact List.getElem_mem hlt
    have hc := List.all_eq_true.mp hs _ hm
    have he : mj_ce ad ca (K, I, J, G) h = mj_ce ad ca (K, I, J, G') h := by
      unfold mj_ce mj_kd
      show (match K.getD h (99, 0) with | (0, ci) => _ | (1, n) => _ | (2, n) => _ | (_, n) => _) = (match K.getD h (99, 0) with | (0, ci) => _ | (1, n) => _ | (2, n) => _ | (_, n) => _)
      generalize K.getD h (99, 0) = x at hc ⊢
      obtain ⟨kd, n⟩ := x
      match kd with
      | 0 =>
        have hn : mj_fn n ≤ 64 := by
          simp only [Bool.or_eq_true, Bool.and_eq_true] at hc
          rcases hc with ((hc | hc) | hc) | hc
          · exact absurd (Nat.eq_of_beq_eq_true hc) (by decide)
          · exact absurd (Nat.eq_of_beq_eq_true hc) (by decide)
          · exact Nat.le_of_ble_eq_true hc.2
          · exact absurd (Nat.le_of_ble_eq_true hc.1) (by decide)
        show Sum.inr (n, mj_fs ad (K, I, J, G) n h) = Sum.inr (n, mj_fs ad (K, I, J, G') n h)
        congr 2
        unfold mj_fs
        refine List.map_congr_left fun k hk2 => ?_
        have hk3 : k < mj_fn n := List.mem_range.mp hk2
        show (if mj_rk n k = true then va_rf ((G h k).map ad) else _) = (if mj_rk n k = true then va_rf ((G' h k).map ad) else _)
        rw [hG h hlt k (by omega)]
      | 1 => rfl
      | 2 => rfl
      | kd + 3 =>
        have hn : n ≤ 64 := by
          simp only [Bool.or_eq_true, Bool.and_eq_true] at hc
          rcases hc with ((hc | hc) | hc) | hc
          · exact absurd (Nat.eq_of_beq_eq_true hc) (by omega)
          · exact absurd (Nat.eq_of_beq_eq_true hc) (by omega)
          · exact absurd (Nat.eq_of_beq_eq_true hc.1) (by omega)
          · exact Nat.le_of_ble_eq_true hc.2
        show Sum.inl (ca h, n, Sum.inr (Sum.inr (Sum.inr (Sum.inr fun j => if j < n then (G h j).map ad else none)))) = Sum.inl (ca h, n, Sum.inr (Sum.inr (Sum.inr (Sum.inr fun j => if j < n then (G' h j).map ad else none))))
        have e : (fun j => if j < n then (G h j).map ad else none) = fun j => if j < n then (G' h j).map ad else none := by
          funext j
          by_cases hj : j < n
          · rw [if_pos hj, if_pos hj, hG h hlt j (by omega)]
          · rw [if_neg hj, if_neg hj]
        rw [e]
    exact congrArg (fun z => (ad h, z)) he
  rw [e] at hP hD
  exact ⟨ca, tys, hK, hP, hD, hT⟩
theorem mj_Rp_eta {D : va_G} {A : Nat → Prop} {s : State} {ad : Nat → Nat} {H : Heap} {K : List (Nat × Nat)} {w : mjW} {G : Nat → Nat → Option Nat} (h : w.1 = K) (hs : smK K = true) (hG : ∀ h, h < K.length → ∀ k, k < 64 → w.2.2.2 h k = G h k) (hR : mj_Rp D A s ad w H) : mj_Rp D A s ad (K, w.2.1, w.2.2.1, G) H := by
  obtain ⟨a, b, c, d⟩ := w
  cases h
  exact mj_Rp_G hs hG hR
theorem smK_C : smK KC = true := by decide +kernel
theorem smK_M : smK KM = true := by decide +kernel
theorem rC_G : ∀ h, h < KC.length → ∀ k, k < 64 → mj_rC.1.2.2.2 h k = GC h k := fun h hh k hk => of_decide_eq_true (all_lt (all_lt mj_rC_G0 h (show h < 98 from hh)) k hk)
theorem rM_G : ∀ h, h < KM.length → ∀ k, k < 64 → mj_rM.1.2.2.2 h k = GM h k := fun h hh k hk => of_decide_eq_true (all_lt (all_lt mj_rM_G0 h (show h < 9 from hh)) k hk)
theorem rC_world {D : va_G} {A : Nat → Prop} {s : State} {ad : Nat → Nat} {H : Heap} (hR : mj_Rp D A s ad mj_rC.1 H) : mj_Rp D A s ad (KC, mj_rC.1.2.1, mj_rC.1.2.2.1, GC) H := mj_Rp_eta mj_rC_K smK_C rC_G hR
theorem rM_world {D : va_G} {A : Nat → Prop} {s : State} {ad : Nat → Nat} {H : Heap} (hR : mj_Rp D A s ad mj_rM.1 H) : mj_Rp D A s ad (KM, mj_rM.1.2.1, mj_rM.1.2.2.1, GM) H := mj_Rp_eta mj_rM_K smK_M rM_G hR
/-! two worlds side by side -/
def ApT (ad ad2 : Nat → Nat) : Prop := ∀ h, h < 98 → ∀ h2, h2 < 9 → ad h ≠ ad2 h2
theorem mj_Rp_addr {D : va_G} {A : Nat → Prop} {s : State} {ad : Nat → Nat} {w : mjW} {H : Heap} (hR : mj_Rp D A s ad w H) : ∀ h, h < w.1.length → A (ad h) ∧ ad h < H.size := by
  obtain ⟨ca, tys, hK, hP, hD, hT⟩ := hR
  intro h hh
  exact ⟨hD.2 h _ (mj_ws_at hh), (hP h _ (mj_ws_at hh)).lt⟩
theorem mj_Rp_kept {D : va_G} {A : Nat → Prop} {s : State} {ad : Nat → Nat} {w : mjW} {H H1 : Heap} (hR : mj_Rp D A s ad w H) (hk : ∀ h, h < w.1.length → H1[ad h]? = H[ad h]?) : mj_Rp D A s ad w H1 := by
  obtain ⟨ca, tys, hK, hP, hD, hT⟩ := hR
  refine ⟨ca, tys, hK, hP.kept fun k q hq => ?_, hD, hT⟩
  have hlt : k < w.1.length := by
    have := (List.getElem?_eq_some_iff.mp hq).1
    rwa [mj_ws_len] at this
  rw [mj_ws_at hlt] at hq
  cases hq
  exact hk k hlt
