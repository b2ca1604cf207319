/-! the law's cases -/
noncomputable def lw_is (pc : Nat) (i : Instr) (n : Nat) : Bool := decide (decode code pc = .ok (i, n))
noncomputable def lw_int (pc k : Nat) : Bool := lw_is pc (.aload_n 0) 1 && lw_is (pc + 1) (.iload_n 3) 1 && lw_is (pc + 1 + 1) (.iconst (Int.ofNat k)) 1 && lw_is (pc + 1 + 1 + 1) .iadd 1 && lw_is (pc + 1 + 1 + 1 + 1) .iaload 1 && Nat.blt k 6
noncomputable def lw_long (pc : Nat) : Bool := lw_int pc 4 && lw_is (pc + 5) .i2l 1 && lw_is (pc + 6) (.bipush 32) 2 && lw_is (pc + 8) .lshl 1 && lw_int (pc + 9) 5 && lw_is (pc + 14) .i2l 1 && lw_is (pc + 15) (.ldc2_w 151) 3 && lw_is (pc + 18) .land 1 && lw_is (pc + 19) .lor 1
noncomputable def lw_go : List Nat → Nat → Option Nat
  | [], pc => some pc
  | k :: ks, pc => if k = 9 then (if lw_long pc = true then lw_go ks (pc + 20) else none) else (if lw_int pc k = true then lw_go ks (pc + 5) else none)
noncomputable def lw_pl (xs : Nat → Int32) (x3 : Int32) (k : Nat) : Int32 := xs (x3 + Int32.ofInt (Int.ofNat k)).toNatClampNeg
noncomputable def argV (xs : Nat → Int32) (x3 : Int32) (k : Nat) : Value := if k = 9 then .long (((lw_pl xs x3 4).toInt64 <<< ((32 : Int32).toInt64 &&& 63)) ||| ((lw_pl xs x3 5).toInt64 &&& 4294967295)) else .int (lw_pl xs x3 k)
theorem argV_v (ad : Nat → Nat) (xs : Nat → Int32) (x3 : Int32) (ks : List Nat) : (ks.map (argV xs x3)).map (mj_v ad) = ks.map (argV xs x3) := by
  rw [List.map_map]
  refine List.map_congr_left fun k _ => ?_
  show mj_v ad (argV xs x3 k) = argV xs x3 k
  unfold argV
  by_cases h : k = 9
  · rw [if_pos h]; rfl
  · rw [if_neg h]; rfl
abbrev LwC : Type := Nat × List Nat × Nat × Nat × Nat × Nat × Nat × Nat
noncomputable def lw_cs : LwC → Bool
  | (pc, ks, ixC, dC, zC, ixM, dM, zM) => lw_is pc (.aload_n 1) 1 && (match lw_go ks (pc + 1) with
    | none => false
    | some p1 => lw_is p1 (.invokevirtual ixC) 3 && lw_is (p1 + 3) (.aload_n 2) 1 && (match lw_go ks (p1 + 3 + 1) with
      | none => false
      | some p2 => lw_is p2 (.invokevirtual ixM) 3 && Nat.ble p2 1390 && lw_is (p2 + 3) (.if_icmp .eq (1393 - ((p2 + 3 : Nat) : Int))) 3)) && lw_ckv ixC dC zC ks.length && lw_ckv ixM dM zM ks.length && Nat.beq (mj_ci zC) 5 && Nat.beq (mj_ci zM) 6 && Nat.ble (1 + (ks.map fun k => if k = 9 then 2 else 1).sum) (mj_ml zC) && Nat.ble (1 + (ks.map fun k => if k = 9 then 2 else 1).sum) (mj_ml zM)
theorem lw_k0 : lw_cs (188, [1, 2, 3, 4], 13, 240, 72, 17, 881, 141) = true := by decide +kernel
theorem lw_k1 : lw_cs (241, [1, 2], 18, 270, 73, 22, 909, 144) = true := by decide +kernel
theorem lw_k2 : lw_cs (274, [1, 2], 23, 316, 74, 26, 932, 145) = true := by decide +kernel
theorem lw_k3 : lw_cs (307, [1, 2], 27, 324, 75, 30, 937, 147) = true := by decide +kernel
theorem lw_k4 : lw_cs (340, [1], 31, 332, 76, 35, 945, 148) = true := by decide +kernel
theorem lw_k5 : lw_cs (363, [1, 2], 36, 336, 77, 39, 949, 149) = true := by decide +kernel
theorem lw_k6 : lw_cs (396, [1], 40, 340, 78, 43, 953, 151) = true := by decide +kernel
theorem lw_k7 : lw_cs (419, [1], 44, 345, 79, 47, 962, 152) = true := by decide +kernel
theorem lw_k8 : lw_cs (442, [1], 48, 349, 80, 51, 967, 153) = true := by decide +kernel
theorem lw_k9 : lw_cs (465, [], 52, 357, 81, 56, 973, 160) = true := by decide +kernel
theorem lw_k10 : lw_cs (478, [1], 57, 511, 82, 60, 1000, 162) = true := by decide +kernel
theorem lw_k11 : lw_cs (501, [1], 61, 524, 83, 64, 1008, 171) = true := by decide +kernel
theorem lw_k12 : lw_cs (524, [1], 65, 585, 84, 68, 1048, 172) = true := by decide +kernel
theorem lw_k13 : lw_cs (547, [], 69, 589, 85, 72, 1055, 173) = true := by decide +kernel
theorem lw_k14 : lw_cs (560, [1], 73, 597, 86, 76, 1059, 174) = true := by decide +kernel
theorem lw_k15 : lw_cs (583, [1, 2], 77, 601, 88, 80, 1063, 180) = true := by decide +kernel
theorem lw_k16 : lw_cs (616, [1], 81, 627, 89, 84, 1082, 181) = true := by decide +kernel
theorem lw_k17 : lw_cs (639, [1, 2, 3], 85, 639, 90, 89, 1090, 183) = true := by decide +kernel
theorem lw_k18 : lw_cs (682, [1, 2, 3, 4, 5], 90, 650, 91, 94, 1099, 187) = true := by decide +kernel
theorem lw_k19 : lw_cs (745, [1, 2], 95, 675, 92, 98, 1115, 188) = true := by decide +kernel
theorem lw_k20 : lw_cs (778, [1, 2, 3, 4], 99, 679, 93, 102, 1119, 189) = true := by decide +kernel
theorem lw_k21 : lw_cs (831, [1, 2, 3], 103, 687, 94, 106, 1127, 190) = true := by decide +kernel
theorem lw_k22 : lw_cs (874, [1, 2], 107, 696, 95, 110, 1131, 192) = true := by decide +kernel
theorem lw_k23 : lw_cs (907, [1, 2, 3, 4], 111, 704, 96, 114, 1142, 193) = true := by decide +kernel
theorem lw_k24 : lw_cs (960, [1, 2], 115, 712, 97, 118, 1146, 195) = true := by decide +kernel
theorem lw_k25 : lw_cs (993, [], 119, 719, 98, 122, 1154, 197) = true := by decide +kernel
theorem lw_k26 : lw_cs (1006, [1], 123, 732, 99, 126, 1162, 198) = true := by decide +kernel
theorem lw_k27 : lw_cs (1029, [], 127, 743, 100, 130, 1166, 199) = true := by decide +kernel
theorem lw_k28 : lw_cs (1042, [], 131, 751, 101, 134, 1170, 200) = true := by decide +kernel
theorem lw_k29 : lw_cs (1055, [1, 2, 3, 4, 5], 135, 755, 102, 138, 1174, 207) = true := by decide +kernel
theorem lw_k30 : lw_cs (1118, [1, 2, 3, 4, 5], 139, 788, 103, 142, 1197, 208) = true := by decide +kernel
theorem lw_k31 : lw_cs (1181, [1, 2, 3], 143, 799, 104, 146, 1205, 209) = true := by decide +kernel
theorem lw_k32 : lw_cs (1224, [1], 147, 807, 105, 150, 1209, 210) = true := by decide +kernel
theorem lw_k33 : lw_cs (1247, [1, 2, 3, 9], 153, 815, 106, 157, 1213, 211) = true := by decide +kernel
theorem lw_k34 : lw_cs (1330, [1, 2, 3, 4, 5], 158, 819, 107, 161, 1217, 212) = true := by decide +kernel
noncomputable def lw_tab : List LwC := [(188, [1, 2, 3, 4], 13, 240, 72, 17, 881, 141), (241, [1, 2], 18, 270, 73, 22, 909, 144), (274, [1, 2], 23, 316, 74, 26, 932, 145), (307, [1, 2], 27, 324, 75, 30, 937, 147), (340, [1], 31, 332, 76, 35, 945, 148), (363, [1, 2], 36, 336, 77, 39, 949, 149), (396, [1], 40, 340, 78, 43, 953, 151), (419, [1], 44, 345, 79, 47, 962, 152), (442, [1], 48, 349, 80, 51, 967, 153), (465, [], 52, 357, 81, 56, 973, 160), (478, [1], 57, 511, 82, 60, 1000, 162), (501, [1], 61, 524, 83, 64, 1008, 171), (524, [1], 65, 585, 84, 68, 1048, 172), (547, [], 69, 589, 85, 72, 1055, 173), (560, [1], 73, 597, 86, 76, 1059, 174), (583, [1, 2], 77, 601, 88, 80, 1063, 180), (616, [1], 81, 627, 89, 84, 1082, 181), (639, [1, 2, 3], 85, 639, 90, 89, 1090, 183), (682, [1, 2, 3, 4, 5], 90, 650, 91, 94, 1099, 187), (745, [1, 2], 95, 675, 92, 98, 1115, 188), (778, [1, 2, 3, 4], 99, 679, 93, 102, 1119, 189), (831, [1, 2, 3], 103, 687, 94, 106, 1127, 190), (874, [1, 2], 107, 696, 95, 110, 1131, 192), (907, [1, 2, 3, 4], 111, 704, 96, 114, 1142, 193), (960, [1, 2], 115, 712, 97, 118, 1146, 195), (993, [], 119, 719, 98, 122, 1154, 197), (1006, [1], 123, 732, 99, 126, 1162, 198), (1029, [], 127, 743, 100, 130, 1166, 199), (1042, [], 131, 751, 101, 134, 1170, 200), (1055, [1, 2, 3, 4, 5], 135, 755, 102, 138, 1174, 207), (1118, [1, 2, 3, 4, 5], 139, 788, 103, 142, 1197, 208), (1181, [1, 2, 3], 143, 799, 104, 146, 1205, 209), (1224, [1], 147, 807, 105, 150, 1209, 210), (1247, [1, 2, 3, 9], 153, 815, 106, 157, 1213, 211), (1330, [1, 2, 3, 4, 5], 158, 819, 107, 161, 1217, 212)]
theorem lw_tab_ok : ∀ cs ∈ lw_tab, lw_cs cs = true := List.forall_mem_cons.mpr ⟨lw_k0, List.forall_mem_cons.mpr ⟨lw_k1, List.forall_mem_cons.mpr ⟨lw_k2, List.forall_mem_cons.mpr ⟨lw_k3, List.forall_mem_cons.mpr ⟨lw_k4, List.forall_mem_cons.mpr ⟨lw_k5, List.forall_mem_cons.mpr ⟨lw_k6, List.forall_mem_cons.mpr ⟨lw_k7, List.forall_mem_cons.mpr ⟨lw_k8, List.forall_mem_cons.mpr ⟨lw_k9, List.forall_mem_cons.mpr ⟨lw_k10, List.forall_mem_cons.mpr ⟨lw_k11, List.forall_mem_cons.mpr ⟨lw_k12, List.forall_mem_cons.mpr ⟨lw_k13, List.forall_mem_cons.mpr ⟨lw_k14, List.forall_mem_cons.mpr ⟨lw_k15, List.forall_mem_cons.mpr ⟨lw_k16, List.forall_mem_cons.mpr ⟨lw_k17, List.forall_mem_cons.mpr ⟨lw_k18, List.forall_mem_cons.mpr ⟨lw_k19, List.forall_mem_cons.mpr ⟨lw_k20, List.forall_mem_cons.mpr ⟨lw_k21, List.forall_mem_cons.mpr ⟨lw_k22, List.forall_mem_cons.mpr ⟨lw_k23, List.forall_mem_cons.mpr ⟨lw_k24, List.forall_mem_cons.mpr ⟨lw_k25, List.forall_mem_cons.mpr ⟨lw_k26, List.forall_mem_cons.mpr ⟨lw_k27, List.forall_mem_cons.mpr ⟨lw_k28, List.forall_mem_cons.mpr ⟨lw_k29, List.forall_mem_cons.mpr ⟨lw_k30, List.forall_mem_cons.mpr ⟨lw_k31, List.forall_mem_cons.mpr ⟨lw_k32, List.forall_mem_cons.mpr ⟨lw_k33, List.forall_mem_cons.mpr ⟨lw_k34, fun _ h => absurd h List.not_mem_nil⟩⟩⟩⟩⟩⟩⟩⟩⟩⟩⟩⟩⟩⟩⟩⟩⟩⟩⟩⟩⟩⟩⟩⟩⟩⟩⟩⟩⟩⟩⟩⟩⟩⟩⟩
theorem lw_offs : ((#[155, 208, 241, 274, 307, 330, 363, 386, 409, 432, 445, 468, 491, 514, 527, 550, 583, 606, 649, 712, 745, 798, 841, 874, 927, 960, 973, 996, 1009, 1022, 1085, 1148, 1191, 1214, 1297] : Array Int).toList.zip (lw_tab.map fun q => q.1)).all (fun x => decide ((33 : Int) + x.1 = (x.2 : Int))) = true := by decide +kernel
theorem lw_sims : ∀ (k : Nat) (q : LwC), lw_tab[k]? = some q → ∀ (xs : Nat → Int32) (x3 : Int32), SimO q.2.2.2.2.1 q.2.2.2.2.2.2.2 (q.2.1.map (argV xs x3)) := by
  intro k q h xs x3
  match k, h with
  | 0, h => cases h; exact sim_person
  | 1, h => cases h; exact sim_of
  | 2, h => cases h; exact sim_till
  | 3, h => cases h; exact sim_sit
  | 4, h => cases h; exact sim_at
  | 5, h => cases h; exact sim_dry
  | 6, h => cases h; exact sim_weather
  | 7, h => cases h; exact sim_lasting
  | 8, h => cases h; exact sim_type
  | 9, h => cases h; exact sim_office
  | 10, h => cases h; exact sim_count
  | 11, h => cases h; exact sim_days
  | 12, h => cases h; exact sim_drift
  | 13, h => cases h; exact sim_undo
  | 14, h => cases h; exact sim_seed
  | 15, h => cases h; exact sim_writes
  | 16, h => cases h; exact sim_cheque
  | 17, h => cases h; exact sim_out
  | 18, h => cases h; exact sim_seats
  | 19, h => cases h; exact sim_who
  | 20, h => cases h; exact sim_likely
  | 21, h => cases h; exact sim_most
  | 22, h => cases h; exact sim_dryOut
  | 23, h => cases h; exact sim_forger
  | 24, h => cases h; exact sim_two
  | 25, h => cases h; exact sim_tree
  | 26, h => cases h; exact sim_signature
  | 27, h => cases h; exact sim_image
  | 28, h => cases h; exact sim_restore
  | 29, h => cases h; exact sim_lasted
  | 30, h => cases h; exact sim_film
  | 31, h => cases h; exact sim_sheet
  | 32, h => cases h; exact sim_drop
  | 33, h => cases h; exact sim_item
  | 34, h => cases h; exact sim_copy
  | k + 35, h => exact absurd (List.getElem?_eq_some_iff.mp h).1 (by show ¬ k + 35 < 35; omega)
theorem argV_flat (xs : Nat → Int32) (x3 : Int32) : ∀ ks : List Nat, (mj_flat (ks.map (argV xs x3))).length = (ks.map fun k => if k = 9 then 2 else 1).sum
  | [] => rfl
  | k :: ks => by
    have ih := argV_flat xs x3 ks
    simp only [mj_flat, List.map_cons, List.flatMap_cons, List.length_append, List.sum_cons] at ih ⊢
    rw [ih]
    unfold argV
    by_cases h : k = 9
    · rw [if_pos h, if_pos h]; rfl
    · rw [if_neg h, if_neg h]; rfl
theorem lw_is_d {pc n : Nat} {i : Instr} (h : lw_is pc i n = true) : decode code pc = .ok (i, n) := of_decide_eq_true h
section CASES
variable {l : Launch} {D : va_G} {p : Program} {e0 : Env} {s : State} {m : MethodId} {below : List Frame} {meth : Method} {cd : Code} {Q : State → Prop} {H : Heap} {locs : List Loc} {ls : Array Slot} {c q : Nat} {b a1 a2 L : Nat} {xs : Nat → Int32} {x3 : Int32}
theorem lw_int_W {k pc : Nat} {rest : List Value} (C0 : lw_At p s m meth cd b L xs) (hS : va_S (fun q : Nat => s.heap.size ≤ q) s.heap H locs) (hl : lv_has ls 4 [(0, .ref b), (1, .ref a1), (2, .ref a2), (3, .int x3)]) (hin : ∀ k, k < 6 → vp_in (x3 + Int32.ofInt (Int.ofNat k)) L) (h : lw_int pc k = true) (kk : W p l e0 room_1 s m #[Value.ref b] below meth cd H locs c q Q (F0 m (pc + 5) ls (.int (lw_pl xs x3 k) :: rest))) : W p l e0 room_1 s m #[Value.ref b] below meth cd H locs c q Q (F0 m pc ls rest) := by
  obtain ⟨hx, hb, hr, hml, hown, hts, hX, hbl, hlocks, hgv⟩ := C0
  simp only [lw_int, Bool.and_eq_true] at h
  obtain ⟨⟨⟨⟨⟨h0, h1⟩, h2⟩, h3⟩, h4⟩, h5⟩ := h
  refine lv_aload_n hx hb (lw_is_d h0) rfl (lv_at hl 0 rfl) ?_
  refine lv_iload_n hx hb (lw_is_d h1) rfl (lv_at hl 3 rfl) ?_
  refine lv_iconst hx hb (lw_is_d h2) rfl ?_
  refine lv_iadd hx hb (lw_is_d h3) ?_
  exact va_sld hx hb hX hbl (Nat.not_le.mpr hbl) hS (hin k (Nat.le_of_ble_eq_true h5)) (lw_is_d h4) kk
theorem lw_args : ∀ (ks : List Nat) (pc pc' : Nat) (rest : List Value), lw_At p s m meth cd b L xs → va_S (fun q : Nat => s.heap.size ≤ q) s.heap H locs → lv_has ls 4 [(0, .ref b), (1, .ref a1), (2, .ref a2), (3, .int x3)] → (∀ k, k < 6 → vp_in (x3 + Int32.ofInt (Int.ofNat k)) L) → lw_go ks pc = some pc' → W p l e0 room_1 s m #[Value.ref b] below meth cd H locs c q Q (F0 m pc' ls ((ks.map (argV xs x3)).reverse ++ rest)) → W p l e0 room_1 s m #[Value.ref b] below meth cd H locs c q Q (F0 m pc ls rest)
  | [], pc, pc', rest, C0, hS, hl, hin, h, kk => by
    cases h
    exact kk
  | k :: ks, pc, pc', rest, C0, hS, hl, hin, h, kk => by
    rw [List.map_cons, List.reverse_cons, List.append_assoc, List.singleton_append] at kk
    unfold lw_go at h
    by_cases hk : k = 9
    · rw [if_pos hk] at h
      by_cases hL : lw_long pc = true
      · rw [if_pos hL] at h
        have ih := lw_args ks (pc + 20) pc' (argV xs x3 k :: rest) C0 hS hl hin h kk
        unfold argV at ih
        rw [if_pos hk] at ih
        simp only [lw_long, Bool.and_eq_true] at hL
        obtain ⟨⟨⟨⟨⟨⟨⟨⟨g0, g1⟩, g2⟩, g3⟩, g4⟩, g5⟩, g6⟩, g7⟩, g8⟩ := hL
        have C1 := C0
        obtain ⟨hx, hb, hr, hml, hown, hts, hX, hbl, hlocks, hgv⟩ := C1
        refine lw_int_W C0 hS hl hin g0 ?_
        refine lv_i2l hx hb (lw_is_d g1) rfl ?_
        refine lv_bipush (v := 32) hx hb (lw_is_d g2) (by decide) ?_
        refine lv_lshl hx hb (lw_is_d g3) rfl ?_
        refine lw_int_W C0 hS hl hin g4 ?_
        refine lv_i2l hx hb (lw_is_d g5) rfl ?_
        refine lv_ldc2 (own := R_law) (v := 4294967295) hx hb hown (hts _ (by decide +kernel)) (lw_is_d g6) ?_
        refine lv_land hx hb (lw_is_d g7) ?_
        exact lv_lor hx hb (lw_is_d g8) ih
      · rw [if_neg hL] at h
        cases h
    · rw [if_neg hk] at h
      by_cases hL : lw_int pc k = true
      · rw [if_pos hL] at h
        have ih := lw_args ks (pc + 5) pc' (argV xs x3 k :: rest) C0 hS hl hin h kk
        unfold argV at ih
        rw [if_neg hk] at ih
        exact lw_int_W C0 hS hl hin hL ih
      · rw [if_neg hL] at h
        cases h
/-- what holds between the calls -/
def lw_I (D : va_G) (s : State) (a1 a2 : Nat) (H : Heap) (locs : List Loc) : Prop := ∃ (ad1 ad2 : Nat → Nat) (S : Sta) (Ic Im : Nat → Nat → Int32) (Jc Jm : Nat → Nat → Int64), ad1 0 = a1 ∧ ad2 0 = a2 ∧ mj_St ad1 (fun q : Nat => s.heap.size ≤ q) s ∧ mj_St ad2 (fun q : Nat => s.heap.size ≤ q) s ∧ mj_Rp D (fun q : Nat => s.heap.size ≤ q) s ad1 (KC, Ic, Jc, GC) H ∧ mj_Rp D (fun q : Nat => s.heap.size ≤ q) s ad2 (KM, Im, Jm, GM) H ∧ ApT ad1 ad2 ∧ VS S ∧ CW Ic Jc S ∧ MW Im Jm S ∧ va_S (fun q : Nat => s.heap.size ≤ q) s.heap H locs
set_option maxHeartbeats 4000000 in
theorem lw_case {k : Nat} {cs : LwC} (C0 : lw_At p s m meth cd b L xs) (hk : lw_tab[k]? = some cs) (hl : lv_has ls 4 [(0, .ref b), (1, .ref a1), (2, .ref a2), (3, .int x3)]) (hin : ∀ k, k < 6 → vp_in (x3 + Int32.ofInt (Int.ofNat k)) L) (hI : lw_I D s a1 a2 H locs)
    (kk : ∀ (H1 : Heap) (locs1 : List Loc), lw_I D s a1 a2 H1 locs1 → W p l e0 room_1 s m #[Value.ref b] below meth cd H1 locs1 600000 7302250 Q (F0 m 1393 ls [])) : W p l e0 room_1 s m #[Value.ref b] below meth cd H locs 600000 7302250 Q (F0 m cs.1 ls []) := by
  have hck := lw_tab_ok cs (List.mem_of_getElem? hk)
  have hsim := lw_sims k cs hk xs x3
  have C1 := C0
  obtain ⟨hx, hb, hr, hml, hown, hts0, hX, hbl, hlocks, hgv⟩ := C1
  have hts : ∀ w ∈ mj_T, w.before #[Value.ref b] s = true := fun w hw => hts0 w (List.mem_filter.mp hw).1
  obtain ⟨pc, ks, ixC, dC, zC, ixM, dM, zM⟩ := cs
  dsimp only at hsim ⊢
  simp only [lw_cs, Bool.and_eq_true] at hck
  obtain ⟨⟨⟨⟨⟨⟨⟨h0, hd⟩, hcC⟩, hcM⟩, hiC⟩, hiM⟩, hfC⟩, hfM⟩ := hck
  split at hd
  · cases hd
  next p1 hp1 =>
  simp only [Bool.and_eq_true] at hd
  obtain ⟨⟨d1, d2⟩, hd⟩ := hd
  split at hd
  · cases hd
  next p2 hp2 =>
  simp only [Bool.and_eq_true] at hd
  obtain ⟨⟨d3, d4⟩, d5⟩ := hd
  obtain ⟨ad1, ad2, S, Ic, Im, Jc, Jm, rfl, rfl, hSt1, hSt2, hR1, hR2, hap, hV, hC, hM, hS⟩ := hI
  obtain ⟨S', v, hV', eC, eM⟩ := hsim S Ic Im Jc Jm hV hC hM
  have hA : ∀ x : Nat, s.heap.size ≤ x → (fun q : Nat => s.heap.size ≤ q) x := fun _ h => h
  have hlen : (ks.map (argV xs x3)).length = ks.length := List.length_map ..
  have hfl : ∀ {z : Nat}, Nat.ble (1 + (ks.map fun k => if k = 9 then 2 else 1).sum) (mj_ml z) = true → (mj_flat (.ref 0 :: ks.map (argV xs x3))).length ≤ mj_ml z := fun {z} h => by
    have e : (mj_flat (.ref 0 :: ks.map (argV xs x3))).length = 1 + (mj_flat (ks.map (argV xs x3))).length := by
      simp only [mj_flat, List.flatMap_cons, List.length_append]
      rfl
    rw [e, argV_flat]
    exact Nat.le_of_ble_eq_true h
  refine lv_aload_n hx hb (lw_is_d h0) rfl (lv_at hl 1 rfl) ?_
  refine lw_args ks (pc + 1) p1 _ C0 hS hl hin hp1 ?_
  refine lw_callv hx hb hml hown hts hcC hlen (hfl hfC) (argV_v ad1 xs x3 ks) (by decide) eC (by rw [Nat.eq_of_beq_eq_true hiC]; rfl) hR1 hR2 hap hSt1 hS hA hl.1 (lw_is_d d1) (Nat.le_refl _) (Nat.le_refl _) ?_
  rintro w1 r H1 locs1 ⟨rfl, Ic', Jc', rfl, hC'⟩ hR1 hR2 hS
  refine lv_aload_n hx hb (lw_is_d d2) rfl (lv_at hl 2 rfl) ?_
  refine lw_args ks (p1 + 3 + 1) p2 _ C0 hS hl hin hp2 ?_
  refine lw_callv hx hb hml hown hts hcM hlen (hfl hfM) (argV_v ad2 xs x3 ks) (show (1 : Nat) + 0 ≤ 8 by decide) eM (by rw [Nat.eq_of_beq_eq_true hiM]; rfl) hR2 hR1 (fun h hh h2 hh2 e => hap h2 hh2 h hh e.symm) hSt2 hS hA hl.1 (lw_is_d d3) (Nat.le_refl _) (Nat.le_refl _) ?_
  rintro w1 r H1 locs1 ⟨rfl, Im', Jm', rfl, hM'⟩ hR2 hR1 hS
  refine lv_icmp_eq (tgt := 1393) hx hb (lw_is_d d5) (by omega) (fun _ => ?_) (fun z => absurd rfl z)
  exact kk _ _ ⟨ad1, ad2, S', Ic', Im', Jc', Jm', rfl, rfl, hSt1, hSt2, hR1, hR2, hap, hV', hC', hM', hS⟩
end CASES
