/-! the law's walk, from its entry -/
theorem dl_0 : decode code 0 = .ok (.new 7, 3) := by decide +kernel
theorem dl_3 : decode code 3 = .ok (.dup, 1) := by decide +kernel
theorem dl_4 : decode code 4 = .ok (.invokespecial 9, 3) := by decide +kernel
theorem dl_7 : decode code 7 = .ok (.astore_n 1, 1) := by decide +kernel
theorem dl_8 : decode code 8 = .ok (.new 10, 3) := by decide +kernel
theorem dl_11 : decode code 11 = .ok (.dup, 1) := by decide +kernel
theorem dl_12 : decode code 12 = .ok (.invokespecial 12, 3) := by decide +kernel
theorem dl_15 : decode code 15 = .ok (.astore_n 2, 1) := by decide +kernel
theorem dl_16 : decode code 16 = .ok (.iconst 0, 1) := by decide +kernel
theorem dl_17 : decode code 17 = .ok (.istore_n 3, 1) := by decide +kernel
theorem dl_18 : decode code 18 = .ok (.iload_n 3, 1) := by decide +kernel
theorem dl_19 : decode code 19 = .ok (.aload_n 0, 1) := by decide +kernel
theorem dl_20 : decode code 20 = .ok (.arraylength, 1) := by decide +kernel
theorem dl_21 : decode code 21 = .ok (.bipush 6, 2) := by decide +kernel
theorem dl_23 : decode code 23 = .ok (.isub, 1) := by decide +kernel
theorem dl_24 : decode code 24 = .ok (.if_icmp .gt 1375, 3) := by decide +kernel
theorem dl_27 : decode code 27 = .ok (.aload_n 0, 1) := by decide +kernel
theorem dl_28 : decode code 28 = .ok (.iload_n 3, 1) := by decide +kernel
theorem dl_29 : decode code 29 = .ok (.iaload, 1) := by decide +kernel
theorem dl_30 : decode code 30 = .ok (.bipush 63, 2) := by decide +kernel
theorem dl_32 : decode code 32 = .ok (.iand, 1) := by decide +kernel
noncomputable def lw_offA : Array Int := #[155, 208, 241, 274, 307, 330, 363, 386, 409, 432, 445, 468, 491, 514, 527, 550, 583, 606, 649, 712, 745, 798, 841, 874, 927, 960, 973, 996, 1009, 1022, 1085, 1148, 1191, 1214, 1297]
theorem dl_33 : decode code 33 = .ok (.tableswitch 1360 0 34 lw_offA, 155) := by decide +kernel
theorem dl_1393 : decode code 1393 = .ok (.iinc 3 6, 3) := by decide +kernel
theorem dl_1396 : decode code 1396 = .ok (.goto (-1378), 3) := by decide +kernel
theorem dl_1399 : decode code 1399 = .ok (.iconst 1, 1) := by decide +kernel
theorem dl_1400 : decode code 1400 = .ok (.ireturn, 1) := by decide +kernel
theorem lw_off_ok : ∀ k, k < 35 → ∃ (cs : LwC) (off : Int), lw_tab[k]? = some cs ∧ lw_offA[k]? = some off ∧ ((33 : Nat) : Int) + off = (cs.1 : Int) := by
  have h : (List.range 35).all (fun k => match lw_tab[k]?, lw_offA[k]? with
    | some cs, some off => decide (((33 : Nat) : Int) + off = (cs.1 : Int))
    | _, _ => false) = true := by decide +kernel
  intro k hk
  have h1 := all_lt h k hk
  revert h1
  cases hcs : lw_tab[k]? with
  | none => intro h1; cases h1
  | some cs =>
    cases ho : lw_offA[k]? with
    | none => intro h1; cases h1
    | some off => intro h1; exact ⟨cs, off, rfl, rfl, of_decide_eq_true h1⟩
theorem lw_gt {L j : Nat} (hL : L ≤ 3072) (hj : 6 * j ≤ 3078) (h : ¬ Int32.ofNat L - 6 < nI (6 * j)) : 6 * j + 6 ≤ L := by
  have h1 := Int32.not_lt.mp h
  have h2 := Int32.le_iff_toInt_le.mp h1
  have e1 : (nI (6 * j)).toInt = ((6 * j : Nat) : Int) := Int32.toInt_ofNat_of_lt (by omega)
  have e2 : (Int32.ofNat L).toInt = (L : Int) := Int32.toInt_ofNat_of_lt (by omega)
  have e3 : (Int32.ofNat L - 6).toInt = (L : Int) - 6 := by
    rw [Int32.toInt_sub, e2]
    show ((L : Int) - 6).bmod (2 ^ 32) = _
    exact Int.bmod_eq_of_le (by omega) (by omega)
  rw [e1, e3] at h2
  omega
theorem lw_mask (x : Int32) : ∃ k : Nat, k < 64 ∧ (x &&& 63).toInt = (k : Int) := by
  refine ⟨x.toBitVec.toNat % 2 ^ 6, Nat.mod_lt _ (by decide), ?_⟩
  rw [pk_and x 6 (m := 63) (by decide)]
  have : x.toBitVec.toNat % 2 ^ 6 < 64 := Nat.mod_lt _ (by decide)
  exact Int32.toInt_ofNat_of_lt (by omega)
section WALK
variable {l : Launch} {D : va_G} {p : Program} {e : Env} {s : State} {m : MethodId} {below : List Frame} {meth : Method} {c : Code} {b a1 a2 L : Nat} {xs : Nat → Int32}
set_option maxHeartbeats 4000000 in
theorem law_loop (hL : L ≤ 3072) (C0 : lw_At p s m meth c b L xs) : ∀ (n j : Nat), 6 * j ≤ L → L < 6 * (j + n) → ∀ (H : Heap) (locs : List Loc) (ls : Array Slot), lv_has ls 4 [(0, .ref b), (1, .ref a1), (2, .ref a2), (3, .int (nI (6 * j)))] → lw_I D s a1 a2 H locs → W p l e room_1 s m #[Value.ref b] below meth c H locs 600000 7302250 (lw_Z below #[Value.ref b] s) (F0 m 18 ls []) := by
  have C1 := C0
  obtain ⟨hx, hb, hr, hml, hown, hts0, hX, hbl, hlocks, hgv⟩ := C1
  intro n
  induction n with
  | zero => intro j h1 h2; exact absurd h2 (by omega)
  | succ n ih =>
    intro j h1 h2 H locs ls hl hI
    have hS : va_S (fun q : Nat => s.heap.size ≤ q) s.heap H locs := by
      obtain ⟨_, _, _, _, _, _, _, _, _, _, _, _, _, _, _, _, _, h⟩ := hI
      exact h
    refine lv_iload_n hx hb dl_18 rfl (lv_at hl 3 rfl) ?_
    refine lv_aload_n hx hb dl_19 rfl (lv_at hl 0 rfl) ?_
    refine va_slen hx hb hX hbl (Nat.not_le.mpr hbl) hS dl_20 ?_
    refine lv_bipush (v := 6) hx hb dl_21 (by decide) ?_
    refine lv_isub hx hb dl_23 ?_
    refine lv_icmp_gt (tgt := 1399) hx hb dl_24 (by decide) (fun _ => ?_) (fun hng => ?_)
    · refine lv_iconst (v := 1) hx hb dl_1399 (by decide) ?_
      refine va_forget (fun q hq => hS.2.2 q hq) ?_
      exact lw_ret hx hb hr hlocks dl_1400
    · have hle := lw_gt hL (by omega) hng
      have hin : ∀ k, k < 6 → vp_in (nI (6 * j) + Int32.ofInt (Int.ofNat k)) L := fun k hk => by
        have e9 : nI (6 * j) + Int32.ofInt (Int.ofNat k) = nI (6 * j + k) := nI_add _ _
        rw [e9]
        exact vp_in_nI (by omega) (by omega)
      have hin0 : vp_in (nI (6 * j)) L := vp_in_nI (by omega) (by omega)
      have back : ∀ (H1 : Heap) (locs1 : List Loc), lw_I D s a1 a2 H1 locs1 → W p l e room_1 s m #[Value.ref b] below meth c H1 locs1 600000 7302250 (lw_Z below #[Value.ref b] s) (F0 m 1393 ls []) := by
        intro H1 locs1 hI1
        refine lv_iinc (v := nI (6 * (j + 1))) (lv' := [(3, .int (nI (6 * (j + 1)))), (0, .ref b), (1, .ref a1), (2, .ref a2)]) hx hb dl_1393 hl (k := 3) rfl (nI_add (6 * j) 6) (by decide) rfl (fun ls1 hl1 => ?_)
        refine lv_goto (tgt := 18) hx hb dl_1396 (by decide) ?_
        exact ih (j + 1) (by omega) (by omega) H1 locs1 ls1 (lv_sub hl1 [1, 2, 3, 0] rfl) hI1
      refine lv_aload_n hx hb dl_27 rfl (lv_at hl 0 rfl) ?_
      refine lv_iload_n hx hb dl_28 rfl (lv_at hl 3 rfl) ?_
      refine va_sld hx hb hX hbl (Nat.not_le.mpr hbl) hS hin0 dl_29 ?_
      refine lv_bipush (v := 63) hx hb dl_30 (by decide) ?_
      refine lv_iand hx hb dl_32 ?_
      obtain ⟨k, hk, ek⟩ := lw_mask (xs (nI (6 * j)).toNatClampNeg)
      by_cases hk35 : k < 35
      · obtain ⟨cs, off, g1, g2, g3⟩ := lw_off_ok k hk35
        refine lv_tableIn (off := off) (tgt := cs.1) hx hb dl_33 (by rw [ek]; omega) (by rw [ek]; omega) (by rw [ek]; show lw_offA[((k : Int) - 0).toNat]? = _; rw [show ((k : Int) - 0).toNat = k by omega]; exact g2) g3 ?_
        exact lw_case C0 g1 hl hin hI back
      · refine lv_tableOut (tgt := 1393) hx hb dl_33 (Or.inr (by rw [ek]; omega)) (by decide) ?_
        exact back H locs hI
end WALK
