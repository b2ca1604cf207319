/-! the JDK's own: String.indexOf of the text "pslt" -/
def js_F : Nat → Prop := fun _ => False
def js_lat : MethodName := ⟨"java/lang/String", "isLatin1", "()Z"⟩
def js_len : MethodName := ⟨"java/lang/String", "length", "()I"⟩
def js_cod : MethodName := ⟨"java/lang/String", "coder", "()B"⟩
def js_ix2 : MethodName := ⟨"java/lang/String", "indexOf", "(II)I"⟩
def js_l1 : MethodName := ⟨"java/lang/StringLatin1", "indexOf", "([BIII)I"⟩
def js_can : MethodName := ⟨"java/lang/StringLatin1", "canEncode", "(I)Z"⟩
def js_chr : MethodName := ⟨"java/lang/StringLatin1", "indexOfChar", "([BIII)I"⟩
abbrev jb_lat : ByteArray := prog_12_method_154_code
abbrev jb_len : ByteArray := prog_12_method_54_code
abbrev jb_cod : ByteArray := prog_12_method_152_code
abbrev jb_ix2 : ByteArray := prog_12_method_80_code
abbrev jb_l1 : ByteArray := prog_13_method_22_code
abbrev jb_can : ByteArray := prog_13_method_4_code
abbrev jb_chr : ByteArray := prog_13_method_23_code
def js_R (f l : Nat) : Room := { frames := f, cells := 0, slots := 0, locals := l }
noncomputable abbrev js_ws (y : MethodName) (b : ByteArray) (n : Nat) (r : Option FieldType) : List Jvm.Cond := .code y b n r :: mj_T
/-- where 'p', 's', 'l', 't' stand, of a byte -/
noncomputable def js_ixq (b : Int32) : Int32 := if b = nI 112 then nI 0 else if b = nI 115 then nI 1 else if b = nI 108 then nI 2 else if b = nI 116 then nI 3 else -1
theorem js_ixq_c : ∀ k, k < 256 → js_ixq (nI k).toInt8.toInt32 = mj_ixc (nI k) := by
  have h : (List.range 256).all (fun k => decide (js_ixq (nI k).toInt8.toInt32 = mj_ixc (nI k))) = true := by decide +kernel
  exact fun k hk => of_decide_eq_true (List.all_eq_true.mp h k (List.mem_range.mpr hk))
theorem js_out {x : Int32} (h : x < 0 ∨ nI 255 < x) : mj_ixc x = -1 := by
  unfold mj_ixc
  have hne : ∀ k : Nat, k < 256 → x ≠ nI k := by
    rintro k hk rfl
    rcases h with h | h
    · exact nI_pos (by omega) h
    · exact nI_nlt (by omega) (by omega) h
  rw [if_neg (hne 112 (by omega)), if_neg (hne 115 (by omega)), if_neg (hne 108 (by omega)), if_neg (hne 116 (by omega))]
section JDK
variable {l : Launch} {p : Program} {e0 : Env} {R : Room} {s : State} {m : MethodId} {args : Array Value} {below : List Frame} {meth : Method} {cd : Code} {Q : State → Prop} {H : Heap} {locs : List Loc} {ls : Array Slot} {pc : Nat} {c q : Nat}
theorem js_use {st0 rest : List Value} {x : Int32} {a0 : Array Value} (hr : va_Run p l e0 R s m args below meth cd H locs c q 0 0 (F0 m pc ls st0) rest (vp_Si (fun r => r = x) a0) js_F) (kk : W p l e0 R s m args below meth cd H locs c q Q (F0 m (pc + 3) ls (.int x :: rest))) : W p l e0 R s m args below meth cd H locs c q Q (F0 m pc ls st0) := by
  intro T hT X
  obtain ⟨v', st₀, t, T', L', hh0, X', hL', e1, e2, ⟨r0, hv', hp', hb'⟩, stp⟩ := hr T hT X
  cases hv'
  subst hp'
  obtain rfl : L' = [] := by
    cases L' with
    | nil => rfl
    | cons z _ => exact (hL' z List.mem_cons_self).elim
  have e3 : T'.heap = H := by rw [e1, hb', hh0]
  rw [List.append_nil] at X'
  obtain ⟨t2, a1, b1⟩ := kk T' e3 X'
  exact ⟨t2, stp t2 a1, b1⟩
theorem js_pay {y : MethodName} {b : ByteArray} {n : Nat} {r : Option FieldType} (hts : ∀ w ∈ mj_T, w.before args s = true) (hcode : (Jvm.Cond.code y b n r).before args s = true) : ∀ w ∈ js_ws y b n r, ∀ (a' : Array Value) (U : State), s.WarmedH U.vm → w.before a' U = true := fun w hw a' U hW => by
  rcases List.mem_cons.mp hw with rfl | hw
  · exact word_at hW (Or.inl rfl) hcode
  · exact word_at hW (good_of_word (List.mem_filter.mp hw).2) (hts w hw)
end JDK
set_option maxHeartbeats 4000000 in
theorem js_coder (l : Launch) (a v : Nat) : Met l js_cod (js_ws js_cod jb_cod 1 (some .byte)) (js_R 0 0) (va_Pc [.ref a] (fun U => mj_Str a v js_F U U.heap)) (vp_Si (fun r => r = 0)) 0 0 js_F := by
  refine Met.ofW (cc := jb_cod) (maxL := 1) (ret := some .byte) (by decide) rfl ?_
  intro p e s m args below meth c s₁ B hml hv
  obtain ⟨rfl, hStr⟩ := hv
  have hx := B.exec
  have hb := B.bytes
  have hr := B.returns
  have hts0 := atoms_spec (ws := js_ws js_cod jb_cod 1 (some .byte)) B.pre
  have hts : ∀ w ∈ mj_T, w.before [Value.ref a].toArray s = true := fun w hw => hts0 w (List.mem_cons_of_mem _ hw)
  have hown : s.vm.findClass "java/lang/String" = some m.cls := findClass_of_methodNamed B.named
  have hlocks := B.notSynchronized
  have hS : va_S js_F s.heap s.heap [] := va_S.rf
  have hl := lv_entry ([.ref a]) (n := 1) (Nat.le_of_ble_eq_true rfl)
  rw [lg_entry_eq]
  generalize (lg_sl ([.ref a]) ++ List.replicate (1 - (lg_sl ([.ref a])).length) Slot.unset).toArray = ls at hl ⊢
  have hl : lv_has ls 1 [(0, .ref a)] := hl
  have hLat := hStr.1.1 0 (by decide)
  refine va_gets hx hb hStr.2 hS hown (mj_w1_T hts (dd := 394) (by decide +kernel) rfl) (fun _ z => z) (by decide +kernel : decode jb_cod 0 = .ok (.getstatic 38, 3)) ?_
  refine lv_if_eq (tgt := 13) hx hb (by decide +kernel : decode jb_cod 3 = .ok (.ifCond .eq 10, 3)) (by decide) (fun h => absurd h (by decide)) (fun _ => ?_)
  refine lv_aload_n hx hb (by decide +kernel : decode jb_cod 6 = .ok (.aload_n 0, 1)) rfl (lv_at hl 0 rfl) ?_
  refine vk_getf hx hb hLat.2.1 hS hown (mj_w1_T hts (dd := 1222) (by decide +kernel) rfl) (fun _ z => z) (by decide +kernel : decode jb_cod 7 = .ok (.getfield 15, 3)) ?_
  refine lv_goto (tgt := 14) hx hb (by decide +kernel : decode jb_cod 10 = .ok (.goto 4, 3)) (by decide) ?_
  exact W.zret (v := 0) (ty := .byte) hx hb hr (by decide) (fun t ht _ => ⟨0, rfl, rfl, ht⟩) (fun q h => by cases h) (by decide +kernel : decode jb_cod 14 = .ok (.ireturn, 1))
set_option maxHeartbeats 4000000 in
theorem js_isLatin (l : Launch) (a v : Nat) : Met l js_lat (js_ws js_lat jb_lat 1 (some .boolean)) (js_R 0 0) (va_Pc [.ref a] (fun U => mj_Str a v js_F U U.heap)) (vp_Si (fun r => r = 1)) 0 0 js_F := by
  refine Met.ofW (cc := jb_lat) (maxL := 1) (ret := some .boolean) (by decide) rfl ?_
  intro p e s m args below meth c s₁ B hml hv
  obtain ⟨rfl, hStr⟩ := hv
  have hx := B.exec
  have hb := B.bytes
  have hr := B.returns
  have hts0 := atoms_spec (ws := js_ws js_lat jb_lat 1 (some .boolean)) B.pre
  have hts : ∀ w ∈ mj_T, w.before [Value.ref a].toArray s = true := fun w hw => hts0 w (List.mem_cons_of_mem _ hw)
  have hown : s.vm.findClass "java/lang/String" = some m.cls := findClass_of_methodNamed B.named
  have hlocks := B.notSynchronized
  have hS : va_S js_F s.heap s.heap [] := va_S.rf
  have hl := lv_entry ([.ref a]) (n := 1) (Nat.le_of_ble_eq_true rfl)
  rw [lg_entry_eq]
  generalize (lg_sl ([.ref a]) ++ List.replicate (1 - (lg_sl ([.ref a])).length) Slot.unset).toArray = ls at hl ⊢
  have hl : lv_has ls 1 [(0, .ref a)] := hl
  have hLat := hStr.1.1 0 (by decide)
  refine va_gets hx hb hStr.2 hS hown (mj_w1_T hts (dd := 394) (by decide +kernel) rfl) (fun _ z => z) (by decide +kernel : decode jb_lat 0 = .ok (.getstatic 38, 3)) ?_
  refine lv_if_eq (tgt := 17) hx hb (by decide +kernel : decode jb_lat 3 = .ok (.ifCond .eq 14, 3)) (by decide) (fun h => absurd h (by decide)) (fun _ => ?_)
  refine lv_aload_n hx hb (by decide +kernel : decode jb_lat 6 = .ok (.aload_n 0, 1)) rfl (lv_at hl 0 rfl) ?_
  refine vk_getf hx hb hLat.2.1 hS hown (mj_w1_T hts (dd := 1222) (by decide +kernel) rfl) (fun _ z => z) (by decide +kernel : decode jb_lat 7 = .ok (.getfield 15, 3)) ?_
  refine lv_if_ne (tgt := 17) hx hb (by decide +kernel : decode jb_lat 10 = .ok (.ifCond .ne 7, 3)) (by decide) (fun h => absurd rfl h) (fun _ => ?_)
  refine lv_iconst (v := 1) hx hb (by decide +kernel : decode jb_lat 13 = .ok (.iconst 1, 1)) (by decide) ?_
  refine lv_goto (tgt := 18) hx hb (by decide +kernel : decode jb_lat 14 = .ok (.goto 4, 3)) (by decide) ?_
  exact W.zret (v := 1) (ty := .boolean) hx hb hr (by decide) (fun t ht _ => ⟨1, rfl, rfl, ht⟩) (fun q h => by cases h) (by decide +kernel : decode jb_lat 18 = .ok (.ireturn, 1))
set_option maxHeartbeats 4000000 in
theorem js_length (l : Launch) (a v : Nat) : Met l js_len (js_ws js_len jb_len 1 (some .int)) (js_R 1 20) (va_Pc [.ref a] (fun U => mj_Str a v js_F U U.heap)) (vp_Si (fun r => r = nI 4)) 0 0 js_F := by
  refine Met.ofW (cc := jb_len) (maxL := 1) (ret := some .int) (by decide) rfl ?_
  intro p e s m args below meth c s₁ B hml hv
  obtain ⟨rfl, hStr⟩ := hv
  have hx := B.exec
  have hb := B.bytes
  have hr := B.returns
  have hts0 := atoms_spec (ws := js_ws js_len jb_len 1 (some .int)) B.pre
  have hts : ∀ w ∈ mj_T, w.before [Value.ref a].toArray s = true := fun w hw => hts0 w (List.mem_cons_of_mem _ hw)
  have hown : s.vm.findClass "java/lang/String" = some m.cls := findClass_of_methodNamed B.named
  have hlocks := B.notSynchronized
  have hS : va_S js_F s.heap s.heap [] := va_S.rf
  have hl := lv_entry ([.ref a]) (n := 1) (Nat.le_of_ble_eq_true rfl)
  rw [lg_entry_eq]
  generalize (lg_sl ([.ref a]) ++ List.replicate (1 - (lg_sl ([.ref a])).length) Slot.unset).toArray = ls at hl ⊢
  have hl : lv_has ls 1 [(0, .ref a)] := hl
  have hLat := hStr.1.1 0 (by decide)
  refine lv_aload_n hx hb (by decide +kernel : decode jb_len 0 = .ok (.aload_n 0, 1)) rfl (lv_at hl 0 rfl) ?_
  refine vk_getf hx hb hLat.2.2.1 hS hown (mj_w1_T hts (dd := 1223) (by decide +kernel) rfl) (fun _ z => z) (by decide +kernel : decode jb_len 1 = .ok (.getfield 9, 3)) ?_
  refine va_tlen hx hb hLat.2.2.2 hS (v := nI 4) rfl (by decide +kernel : decode jb_len 4 = .ok (.arraylength, 1)) ?_
  refine lv_aload_n hx hb (by decide +kernel : decode jb_len 5 = .ok (.aload_n 0, 1)) rfl (lv_at hl 0 rfl) ?_
  have hcode : (Jvm.Cond.code js_cod jb_cod 1 (some .byte)).before [Value.ref a].toArray s = true := mj_w1_T hts (dd := 403) (by decide +kernel) rfl
  refine js_use (x := 0) (va_runV (R := js_R 1 20) (C := "java/lang/String") (b := a) (As := []) (rest := [.int (nI 4)]) (nL := 1) (index := 335) (n := 0) (own := "java/lang/String") (Ts := mj_T) ⟨hx, hb, hml, hown, hts⟩ (js_coder l a v)
    ⟨⟨rfl, rfl, by decide, by decide, js_pay hts hcode, List.mem_cons_self, hcode, mj_w1_T hts mj_gl10 rfl, by decide, fun sig hs => by
      have h5 : (parseMethodDescriptor js_cod.desc).map (fun d => d.parameters.length) = some 0 := by decide +kernel
      rw [hs] at h5
      exact (Option.some.inj h5).symm, mj_w1_T hts (dd := 400) (by decide +kernel) rfl⟩, mj_w1_T hts (dd := 401) (by decide +kernel) rfl, mj_w1_T hts (dd := 402) (by decide +kernel) rfl⟩
    ⟨fun a0 U g mk z => ⟨z.1, mj_Str.moved (u := U) (U := U.calling g mk a0) (Vm.Alike.refl U.vm) z.2⟩, vk_recv hStr.1 (i := 0) (by decide) hS, fun U hU hW => ⟨rfl, by show mj_Str a v js_F U U.heap; rw [hU]; exact mj_Str.moved hW.alike hStr⟩⟩ rfl rfl hl.1 rfl (lv_room (by decide)) (by decide +kernel : decode jb_len 6 = .ok (.invokevirtual 335, 3)) ⟨Nat.zero_le _, Nat.zero_le _⟩) ?_
  refine lv_ishr hx hb (by decide +kernel : decode jb_len 9 = .ok (.ishr, 1)) ?_
  exact W.iret (v := nI 4 >>> ((0 : Int32) &&& 31)) hx hb hr (fun t ht _ => ⟨_, rfl, by decide, ht⟩) (fun q h => by cases h) (by decide +kernel : decode jb_len 10 = .ok (.ireturn, 1))
set_option maxHeartbeats 4000000 in
theorem js_canEnc (l : Launch) (x : Int32) : Met l js_can (js_ws js_can jb_can 1 (some .boolean)) (js_R 0 0) (va_Pc [.int x] (fun _ => True)) (vp_Si (fun r => r = if x < 0 ∨ nI 255 < x then 0 else 1)) 0 0 js_F := by
  refine Met.ofW (cc := jb_can) (maxL := 1) (ret := some .boolean) (by decide) rfl ?_
  intro p e s m args below meth c s₁ B hml hv
  obtain ⟨rfl, -⟩ := hv
  have hx := B.exec
  have hb := B.bytes
  have hr := B.returns
  have hlocks := B.notSynchronized
  have hl := lv_entry ([.int x]) (n := 1) (Nat.le_of_ble_eq_true rfl)
  rw [lg_entry_eq]
  generalize (lg_sl ([.int x]) ++ List.replicate (1 - (lg_sl ([.int x])).length) Slot.unset).toArray = ls at hl ⊢
  have hl : lv_has ls 1 [(0, .int x)] := hl
  refine lv_iload_n hx hb (by decide +kernel : decode jb_can 0 = .ok (.iload_n 0, 1)) rfl (lv_at hl 0 rfl) ?_
  have hz : (x < 0 ∨ nI 255 < x) → W p l e (headSpec (js_ws js_can jb_can 1 (some .boolean)) (js_R 0 0)).room s m [Value.int x].toArray below meth c s.heap [] 0 0 (MQ below (vp_Si (fun r => r = if x < 0 ∨ nI 255 < x then 0 else 1)) [Value.int x].toArray s 0 0 js_F) (F0 m 15 ls []) := by
    intro h
    refine lv_iconst (v := 0) hx hb (by decide +kernel : decode jb_can 15 = .ok (.iconst 0, 1)) (by decide) ?_
    exact W.zret (v := 0) (ty := .boolean) hx hb hr (by decide) (fun t ht _ => ⟨0, rfl, by rw [if_pos h], ht⟩) (fun q h => by cases h) (by decide +kernel : decode jb_can 16 = .ok (.ireturn, 1))
  refine lv_if_lt (tgt := 15) hx hb (by decide +kernel : decode jb_can 1 = .ok (.ifCond .lt 14, 3)) (by decide) (fun h => hz (Or.inl h)) (fun h1 => ?_)
  refine lv_iload_n hx hb (by decide +kernel : decode jb_can 4 = .ok (.iload_n 0, 1)) rfl (lv_at hl 0 rfl) ?_
  refine lv_sipush (v := nI 255) hx hb (by decide +kernel : decode jb_can 5 = .ok (.sipush 255, 3)) (by decide) ?_
  refine lv_icmp_gt (tgt := 15) hx hb (by decide +kernel : decode jb_can 8 = .ok (.if_icmp .gt 7, 3)) (by decide) (fun h => hz (Or.inr h)) (fun h2 => ?_)
  refine lv_iconst (v := 1) hx hb (by decide +kernel : decode jb_can 11 = .ok (.iconst 1, 1)) (by decide) ?_
  refine lv_goto (tgt := 16) hx hb (by decide +kernel : decode jb_can 12 = .ok (.goto 4, 3)) (by decide) ?_
  exact W.zret (v := 1) (ty := .boolean) hx hb hr (by decide) (fun t ht _ => ⟨1, rfl, by rw [if_neg (fun z => z.elim h1 h2)], ht⟩) (fun q h => by cases h) (by decide +kernel : decode jb_can 16 = .ok (.ireturn, 1))
set_option maxHeartbeats 8000000 in
theorem js_char (l : Launch) (a v : Nat) (x : Int32) : Met l js_chr (js_ws js_chr jb_chr 6 (some .int)) (js_R 0 0) (va_Pc [.ref v, .int x, .int (nI 0), .int (nI 4)] (fun U => mj_Str a v js_F U U.heap)) (vp_Si (fun r => r = js_ixq x.toInt8.toInt32)) 0 0 js_F := by
  refine Met.ofW (cc := jb_chr) (maxL := 6) (ret := some .int) (by decide) rfl ?_
  intro p e s m args below meth c s₁ B hml hv
  obtain ⟨rfl, hStr⟩ := hv
  have hx := B.exec
  have hb := B.bytes
  have hr := B.returns
  have hlocks := B.notSynchronized
  have hS : va_S js_F s.heap s.heap [] := va_S.rf
  have hl := lv_entry ([.ref v, .int x, .int (nI 0), .int (nI 4)]) (n := 6) (Nat.le_of_ble_eq_true rfl)
  rw [lg_entry_eq]
  generalize (lg_sl ([.ref v, .int x, .int (nI 0), .int (nI 4)]) ++ List.replicate (6 - (lg_sl ([.ref v, .int x, .int (nI 0), .int (nI 4)])).length) Slot.unset).toArray = ls at hl ⊢
  have hl : lv_has ls 6 [(0, .ref v), (1, .int x), (2, .int (nI 0)), (3, .int (nI 4))] := hl
  have hLat := hStr.1.1 0 (by decide)
  refine lv_iload_n hx hb (by decide +kernel : decode jb_chr 0 = .ok (.iload_n 1, 1)) rfl (lv_at hl 1 rfl) ?_
  refine lv_i2b (v := x.toInt8.toInt32) hx hb (by decide +kernel : decode jb_chr 1 = .ok (.i2b, 1)) rfl ?_
  generalize x.toInt8.toInt32 = z
  refine lv_istore (lv' := [(4, .int z), (0, .ref v), (1, .int x), (2, .int (nI 0)), (3, .int (nI 4))]) hx hb (by decide +kernel : decode jb_chr 2 = .ok (.istore 4, 2)) hl (by decide) rfl (fun ls hl => ?_)
  refine lv_iload_n hx hb (by decide +kernel : decode jb_chr 4 = .ok (.iload_n 2, 1)) rfl (lv_at hl 3 rfl) ?_
  refine lv_istore (lv' := [(5, .int (nI 0)), (4, .int z), (0, .ref v), (1, .int x), (2, .int (nI 0)), (3, .int (nI 4))]) hx hb (by decide +kernel : decode jb_chr 5 = .ok (.istore 5, 2)) hl (by decide) rfl (fun ls hl => ?_)
  have hret : ∀ (ls : Array Slot) (i : Nat), lv_has ls 6 [(5, .int (nI i)), (4, .int z), (0, .ref v), (1, .int x), (2, .int (nI 0)), (3, .int (nI 4))] → js_ixq z = nI i → W p l e (headSpec (js_ws js_chr jb_chr 6 (some .int)) (js_R 0 0)).room s m [Value.ref v, .int x, .int (nI 0), .int (nI 4)].toArray below meth c s.heap [] 0 0 (MQ below (vp_Si (fun r => r = js_ixq z)) [Value.ref v, .int x, .int (nI 0), .int (nI 4)].toArray s 0 0 js_F) (F0 m 22 ls []) := by
    intro ls i hl hi
    refine lv_iload hx hb (by decide +kernel : decode jb_chr 22 = .ok (.iload 5, 2)) (lv_at hl 0 rfl) ?_
    exact W.iret (v := nI i) hx hb hr (fun t ht _ => ⟨_, rfl, hi.symm, ht⟩) (fun q h => by cases h) (by decide +kernel : decode jb_chr 24 = .ok (.ireturn, 1))
  have hstep : ∀ (ls : Array Slot) (i : Nat) (w : Int32), i < 4 → lv_has ls 6 [(5, .int (nI i)), (4, .int z), (0, .ref v), (1, .int x), (2, .int (nI 0)), (3, .int (nI 4))] → ([112, 115, 108, 116] : List Int32).getD i 0 = w → (w = z → js_ixq z = nI i) → (¬ w = z → ∀ ls' : Array Slot, lv_has ls' 6 [(5, .int (nI (i + 1))), (4, .int z), (0, .ref v), (1, .int x), (2, .int (nI 0)), (3, .int (nI 4))] → W p l e (headSpec (js_ws js_chr jb_chr 6 (some .int)) (js_R 0 0)).room s m [Value.ref v, .int x, .int (nI 0), .int (nI 4)].toArray below meth c s.heap [] 0 0 (MQ below (vp_Si (fun r => r = js_ixq z)) [Value.ref v, .int x, .int (nI 0), .int (nI 4)].toArray s 0 0 js_F) (F0 m 7 ls' [])) →
      W p l e (headSpec (js_ws js_chr jb_chr 6 (some .int)) (js_R 0 0)).room s m [Value.ref v, .int x, .int (nI 0), .int (nI 4)].toArray below meth c s.heap [] 0 0 (MQ below (vp_Si (fun r => r = js_ixq z)) [Value.ref v, .int x, .int (nI 0), .int (nI 4)].toArray s 0 0 js_F) (F0 m 7 ls []) := by
    intro ls i w hi hl hw h1 h2
    refine lv_iload hx hb (by decide +kernel : decode jb_chr 7 = .ok (.iload 5, 2)) (lv_at hl 0 rfl) ?_
    refine lv_iload_n hx hb (by decide +kernel : decode jb_chr 9 = .ok (.iload_n 3, 1)) rfl (lv_at hl 5 rfl) ?_
    refine lv_icmp_ge (tgt := 31) hx hb (by decide +kernel : decode jb_chr 10 = .ok (.if_icmp .ge 21, 3)) (by decide) (fun h => absurd h (nI_ge hi (by decide))) (fun _ => ?_)
    refine lv_aload_n hx hb (by decide +kernel : decode jb_chr 13 = .ok (.aload_n 0, 1)) rfl (lv_at hl 2 rfl) ?_
    refine lv_iload hx hb (by decide +kernel : decode jb_chr 14 = .ok (.iload 5, 2)) (lv_at hl 0 rfl) ?_
    refine va_tb hx hb hLat.2.2.2 hS (v := .int w) (vp_in_nI (show i < ([4] : List Nat).getD 0 0 from hi) (by decide)) (by
      show Value.int (([[112, 115, 108, 116]] : List (List Int32)).getD 0 [] |>.getD (nI i).toNatClampNeg 0) = _
      rw [nI_clamp (by omega)]
      exact congrArg Value.int hw) (by decide +kernel : decode jb_chr 16 = .ok (.baload, 1)) ?_
    refine lv_iload hx hb (by decide +kernel : decode jb_chr 17 = .ok (.iload 4, 2)) (lv_at hl 1 rfl) ?_
    refine lv_icmp_ne (tgt := 25) hx hb (by decide +kernel : decode jb_chr 19 = .ok (.if_icmp .ne 6, 3)) (by decide) (fun h => ?_) (fun h => hret ls i hl (h1 h))
    refine lv_iinc (v := nI (i + 1)) (lv' := [(5, .int (nI (i + 1))), (4, .int z), (0, .ref v), (1, .int x), (2, .int (nI 0)), (3, .int (nI 4))]) hx hb (by decide +kernel : decode jb_chr 25 = .ok (.iinc 5 1, 3)) hl (k := 0) rfl (nI_1 i) (by decide) rfl (fun ls hl => ?_)
    refine lv_goto (tgt := 7) hx hb (by decide +kernel : decode jb_chr 28 = .ok (.goto (-21), 3)) (by decide) ?_
    exact h2 h ls hl
  refine hstep ls 0 112 (by decide) hl rfl (fun h => by subst h; decide) (fun g0 ls hl => ?_)
  refine hstep ls 1 115 (by decide) hl rfl (fun h => by subst h; decide) (fun g1 ls hl => ?_)
  refine hstep ls 2 108 (by decide) hl rfl (fun h => by subst h; decide) (fun g2 ls hl => ?_)
  refine hstep ls 3 116 (by decide) hl rfl (fun h => by subst h; decide) (fun g3 ls hl => ?_)
  refine lv_iload hx hb (by decide +kernel : decode jb_chr 7 = .ok (.iload 5, 2)) (lv_at hl 0 rfl) ?_
  refine lv_iload_n hx hb (by decide +kernel : decode jb_chr 9 = .ok (.iload_n 3, 1)) rfl (lv_at hl 5 rfl) ?_
  refine lv_icmp_ge (tgt := 31) hx hb (by decide +kernel : decode jb_chr 10 = .ok (.if_icmp .ge 21, 3)) (by decide) (fun _ => ?_) (fun h => absurd (by decide) h)
  refine lv_iconst (v := -1) hx hb (by decide +kernel : decode jb_chr 31 = .ok (.iconst (-1), 1)) (by decide) ?_
  exact W.iret (v := -1) hx hb hr (fun t ht _ => ⟨_, rfl, by
    unfold js_ixq
    rw [if_neg (fun h => g0 h.symm), if_neg (fun h => g1 h.symm), if_neg (fun h => g2 h.symm), if_neg (fun h => g3 h.symm)], ht⟩) (fun q h => by cases h) (by decide +kernel : decode jb_chr 32 = .ok (.ireturn, 1))
theorem js_hpar {y : MethodName} {n : Nat} (h : (parseMethodDescriptor y.desc).map (fun d => d.parameters.length) = some n) : ∀ sig, parseMethodDescriptor y.desc = some sig → n = sig.parameters.length := fun sig hs => by
  rw [hs] at h
  exact (Option.some.inj h).symm
set_option maxHeartbeats 8000000 in
theorem js_L1 (l : Launch) (a v : Nat) (x : Int32) : Met l js_l1 (js_ws js_l1 jb_l1 4 (some .int)) (js_R 1 25) (va_Pc [.ref v, .int x, .int (nI 0), .int (nI 4)] (fun U => mj_Str a v js_F U U.heap)) (vp_Si (fun r => r = mj_ixc x)) 0 0 js_F := by
  refine Met.ofW (cc := jb_l1) (maxL := 4) (ret := some .int) (by decide) rfl ?_
  intro p e s m args below meth c s₁ B hml hv
  obtain ⟨rfl, hStr⟩ := hv
  have hx := B.exec
  have hb := B.bytes
  have hr := B.returns
  have hts0 := atoms_spec (ws := js_ws js_l1 jb_l1 4 (some .int)) B.pre
  have hts : ∀ w ∈ mj_T, w.before [Value.ref v, .int x, .int (nI 0), .int (nI 4)].toArray s = true := fun w hw => hts0 w (List.mem_cons_of_mem _ hw)
  have hown : s.vm.findClass "java/lang/StringLatin1" = some m.cls := findClass_of_methodNamed B.named
  have hlocks := B.notSynchronized
  have hS : va_S js_F s.heap s.heap [] := va_S.rf
  have hl := lv_entry ([.ref v, .int x, .int (nI 0), .int (nI 4)]) (n := 4) (Nat.le_of_ble_eq_true rfl)
  rw [lg_entry_eq]
  generalize (lg_sl ([.ref v, .int x, .int (nI 0), .int (nI 4)]) ++ List.replicate (4 - (lg_sl ([.ref v, .int x, .int (nI 0), .int (nI 4)])).length) Slot.unset).toArray = ls at hl ⊢
  have hl : lv_has ls 4 [(0, .ref v), (1, .int x), (2, .int (nI 0)), (3, .int (nI 4))] := hl
  have hLat := hStr.1.1 0 (by decide)
  have hini : (Jvm.Cond.initialized "java/lang/StringLatin1").before [Value.ref v, .int x, .int (nI 0), .int (nI 4)].toArray s = true := mj_w1_T hts (dd := 60) (by decide +kernel) rfl
  refine lv_iload_n hx hb (by decide +kernel : decode jb_l1 0 = .ok (.iload_n 1, 1)) rfl (lv_at hl 1 rfl) ?_
  have hcode : (Jvm.Cond.code js_can jb_can 1 (some .boolean)).before [Value.ref v, .int x, .int (nI 0), .int (nI 4)].toArray s = true := mj_w1_T hts (dd := 409) (by decide +kernel) rfl
  refine js_use (x := if x < 0 ∨ nI 255 < x then 0 else 1) (va_runS (R := js_R 1 25) (As := [.int x]) (rest := []) (nL := 4) (index := 88) (n := 1) (own := "java/lang/StringLatin1") (Ts := mj_T) ⟨hx, hb, hml, hown, hts⟩ (js_canEnc l x)
    ⟨⟨rfl, rfl, by decide, by decide, js_pay hts hcode, List.mem_cons_self, hcode, hini, by decide, js_hpar (y := js_can) (by decide +kernel), mj_w1_T hts (dd := 407) (by decide +kernel) rfl⟩, mj_w1_T hts (dd := 408) (by decide +kernel) rfl⟩
    ⟨fun a0 U g mk z => ⟨z.1, trivial⟩, fun U hU hW => ⟨rfl, trivial⟩⟩ rfl rfl hl.1 rfl (lv_room (by decide)) (by decide +kernel : decode jb_l1 1 = .ok (.invokestatic 88, 3)) ⟨Nat.zero_le _, Nat.zero_le _⟩) ?_
  by_cases hout : x < 0 ∨ nI 255 < x
  · rw [if_pos hout]
    refine lv_if_ne (tgt := 9) hx hb (by decide +kernel : decode jb_l1 4 = .ok (.ifCond .ne 5, 3)) (by decide) (fun h => absurd rfl h) (fun _ => ?_)
    refine lv_iconst (v := -1) hx hb (by decide +kernel : decode jb_l1 7 = .ok (.iconst (-1), 1)) (by decide) ?_
    exact W.iret (v := -1) hx hb hr (fun t ht _ => ⟨_, rfl, (js_out hout).symm, ht⟩) (fun q h => by cases h) (by decide +kernel : decode jb_l1 8 = .ok (.ireturn, 1))
  · rw [if_neg hout]
    refine lv_if_ne (tgt := 9) hx hb (by decide +kernel : decode jb_l1 4 = .ok (.ifCond .ne 5, 3)) (by decide) (fun _ => ?_) (fun h => absurd h (by decide))
    refine lv_iload_n hx hb (by decide +kernel : decode jb_l1 9 = .ok (.iload_n 2, 1)) rfl (lv_at hl 2 rfl) ?_
    refine lv_iconst (v := nI 0) hx hb (by decide +kernel : decode jb_l1 10 = .ok (.iconst 0, 1)) (by decide) ?_
    refine va_mmax (x := nI 0) (y := nI 0) hx hb (hml.trans hl.1.symm) hown (mj_w1_T hts (dd := 410) (by decide +kernel) rfl) (mj_w1_T hts (dd := 411) (by decide +kernel) rfl) (mj_w1_T hts mj_gl1 rfl) (mj_w1_T hts (dd := 412) (by decide +kernel) rfl) (by decide) (by decide) (Nat.zero_le _) (Nat.zero_le _) (by decide +kernel : decode jb_l1 11 = .ok (.invokestatic 92, 3)) ?_
    rw [show (if nI 0 < nI 0 then nI 0 else nI 0) = nI 0 by decide]
    refine lv_istore_n (lv' := [(2, .int (nI 0)), (0, .ref v), (1, .int x), (3, .int (nI 4))]) hx hb (by decide +kernel : decode jb_l1 14 = .ok (.istore_n 2, 1)) rfl hl (by decide) rfl (fun ls hl => ?_)
    refine lv_iload_n hx hb (by decide +kernel : decode jb_l1 15 = .ok (.iload_n 3, 1)) rfl (lv_at hl 3 rfl) ?_
    refine lv_aload_n hx hb (by decide +kernel : decode jb_l1 16 = .ok (.aload_n 0, 1)) rfl (lv_at hl 1 rfl) ?_
    refine va_tlen hx hb hLat.2.2.2 hS (v := nI 4) rfl (by decide +kernel : decode jb_l1 17 = .ok (.arraylength, 1)) ?_
    refine va_mmin (x := nI 4) (y := nI 4) hx hb (hml.trans hl.1.symm) hown (mj_w1_T hts (dd := 413) (by decide +kernel) rfl) (mj_w1_T hts mj_gl0 rfl) (mj_w1_T hts mj_gl1 rfl) (mj_w1_T hts mj_gl2 rfl) (by decide) (by decide) (Nat.zero_le _) (Nat.zero_le _) (by decide +kernel : decode jb_l1 18 = .ok (.invokestatic 38, 3)) ?_
    rw [show (if nI 4 < nI 4 then nI 4 else nI 4) = nI 4 by decide]
    refine lv_istore_n (lv' := [(3, .int (nI 4)), (2, .int (nI 0)), (0, .ref v), (1, .int x)]) hx hb (by decide +kernel : decode jb_l1 21 = .ok (.istore_n 3, 1)) rfl hl (by decide) rfl (fun ls hl => ?_)
    refine lv_iload_n hx hb (by decide +kernel : decode jb_l1 22 = .ok (.iload_n 2, 1)) rfl (lv_at hl 1 rfl) ?_
    refine lv_iload_n hx hb (by decide +kernel : decode jb_l1 23 = .ok (.iload_n 3, 1)) rfl (lv_at hl 0 rfl) ?_
    refine lv_icmp_lt (tgt := 29) hx hb (by decide +kernel : decode jb_l1 24 = .ok (.if_icmp .lt 5, 3)) (by decide) (fun _ => ?_) (fun h => absurd (by decide) h)
    refine lv_aload_n hx hb (by decide +kernel : decode jb_l1 29 = .ok (.aload_n 0, 1)) rfl (lv_at hl 2 rfl) ?_
    refine lv_iload_n hx hb (by decide +kernel : decode jb_l1 30 = .ok (.iload_n 1, 1)) rfl (lv_at hl 3 rfl) ?_
    refine lv_iload_n hx hb (by decide +kernel : decode jb_l1 31 = .ok (.iload_n 2, 1)) rfl (lv_at hl 1 rfl) ?_
    refine lv_iload_n hx hb (by decide +kernel : decode jb_l1 32 = .ok (.iload_n 3, 1)) rfl (lv_at hl 0 rfl) ?_
    have hcode2 : (Jvm.Cond.code js_chr jb_chr 6 (some .int)).before [Value.ref v, .int x, .int (nI 0), .int (nI 4)].toArray s = true := mj_w1_T hts (dd := 418) (by decide +kernel) rfl
    refine js_use (x := js_ixq x.toInt8.toInt32) (va_runS (R := js_R 1 25) (As := [.ref v, .int x, .int (nI 0), .int (nI 4)]) (rest := []) (nL := 4) (index := 95) (n := 4) (own := "java/lang/StringLatin1") (Ts := mj_T) ⟨hx, hb, hml, hown, hts⟩ (js_char l a v x)
      ⟨⟨rfl, rfl, by decide, by decide, js_pay hts hcode2, List.mem_cons_self, hcode2, hini, by decide, js_hpar (y := js_chr) (by decide +kernel), mj_w1_T hts (dd := 416) (by decide +kernel) rfl⟩, mj_w1_T hts (dd := 417) (by decide +kernel) rfl⟩
      ⟨fun a0 U g mk z => ⟨z.1, mj_Str.moved (u := U) (U := U.calling g mk a0) (Vm.Alike.refl U.vm) z.2⟩, fun U hU hW => ⟨rfl, by show mj_Str a v js_F U U.heap; rw [hU]; exact mj_Str.moved hW.alike hStr⟩⟩ rfl rfl hl.1 rfl (lv_room (by decide)) (by decide +kernel : decode jb_l1 33 = .ok (.invokestatic 95, 3)) ⟨Nat.zero_le _, Nat.zero_le _⟩) ?_
    have hin : ∃ k, k < 256 ∧ x = nI k := by
      obtain ⟨j, hj, rfl⟩ := nI_of2 (M := nI 255) (n := 255) (nI_toInt (by omega)) (fun h => hout (Or.inl h)) (Int32.not_lt.mp fun h => hout (Or.inr h))
      exact ⟨j, by omega, rfl⟩
    obtain ⟨k, hk, rfl⟩ := hin
    exact W.iret (v := js_ixq (nI k).toInt8.toInt32) hx hb hr (fun t ht _ => ⟨_, rfl, js_ixq_c k hk, ht⟩) (fun q h => by cases h) (by decide +kernel : decode jb_l1 36 = .ok (.ireturn, 1))
set_option maxHeartbeats 8000000 in
theorem js_I2 (l : Launch) (a v : Nat) (x : Int32) : Met l js_ix2 (js_ws js_ix2 jb_ix2 3 (some .int)) (js_R 2 48) (va_Pc [.ref a, .int x, .int (nI 0)] (fun U => mj_Str a v js_F U U.heap)) (vp_Si (fun r => r = mj_ixc x)) 0 0 js_F := by
  refine Met.ofW (cc := jb_ix2) (maxL := 3) (ret := some .int) (by decide) rfl ?_
  intro p e s m args below meth c s₁ B hml hv
  obtain ⟨rfl, hStr⟩ := hv
  have hx := B.exec
  have hb := B.bytes
  have hr := B.returns
  have hts0 := atoms_spec (ws := js_ws js_ix2 jb_ix2 3 (some .int)) B.pre
  have hts : ∀ w ∈ mj_T, w.before [Value.ref a, .int x, .int (nI 0)].toArray s = true := fun w hw => hts0 w (List.mem_cons_of_mem _ hw)
  have hown : s.vm.findClass "java/lang/String" = some m.cls := findClass_of_methodNamed B.named
  have hlocks := B.notSynchronized
  have hS : va_S js_F s.heap s.heap [] := va_S.rf
  have hl := lv_entry ([.ref a, .int x, .int (nI 0)]) (n := 3) (Nat.le_of_ble_eq_true rfl)
  rw [lg_entry_eq]
  generalize (lg_sl ([.ref a, .int x, .int (nI 0)]) ++ List.replicate (3 - (lg_sl ([.ref a, .int x, .int (nI 0)])).length) Slot.unset).toArray = ls at hl ⊢
  have hl : lv_has ls 3 [(0, .ref a), (1, .int x), (2, .int (nI 0))] := hl
  have hLat := hStr.1.1 0 (by decide)
  refine lv_aload_n hx hb (by decide +kernel : decode jb_ix2 0 = .ok (.aload_n 0, 1)) rfl (lv_at hl 0 rfl) ?_
  have hcode : (Jvm.Cond.code js_lat jb_lat 1 (some .boolean)).before [Value.ref a, .int x, .int (nI 0)].toArray s = true := mj_w1_T hts (dd := 393) (by decide +kernel) rfl
  refine js_use (x := 1) (va_runV (R := js_R 2 48) (C := "java/lang/String") (b := a) (As := []) (rest := []) (nL := 3) (index := 492) (n := 0) (own := "java/lang/String") (Ts := mj_T) ⟨hx, hb, hml, hown, hts⟩ (js_isLatin l a v)
    ⟨⟨rfl, rfl, by decide, by decide, js_pay hts hcode, List.mem_cons_self, hcode, mj_w1_T hts mj_gl10 rfl, by decide, js_hpar (y := js_lat) (by decide +kernel), mj_w1_T hts (dd := 390) (by decide +kernel) rfl⟩, mj_w1_T hts (dd := 391) (by decide +kernel) rfl, mj_w1_T hts (dd := 392) (by decide +kernel) rfl⟩
    ⟨fun a0 U g mk z => ⟨z.1, mj_Str.moved (u := U) (U := U.calling g mk a0) (Vm.Alike.refl U.vm) z.2⟩, vk_recv hStr.1 (i := 0) (by decide) hS, fun U hU hW => ⟨rfl, by show mj_Str a v js_F U U.heap; rw [hU]; exact mj_Str.moved hW.alike hStr⟩⟩ rfl rfl hl.1 rfl (lv_room (by decide)) (by decide +kernel : decode jb_ix2 1 = .ok (.invokevirtual 492, 3)) ⟨Nat.zero_le _, Nat.zero_le _⟩) ?_
  refine lv_if_eq (tgt := 23) hx hb (by decide +kernel : decode jb_ix2 4 = .ok (.ifCond .eq 19, 3)) (by decide) (fun h => absurd h (by decide)) (fun _ => ?_)
  refine lv_aload_n hx hb (by decide +kernel : decode jb_ix2 7 = .ok (.aload_n 0, 1)) rfl (lv_at hl 0 rfl) ?_
  refine vk_getf hx hb hLat.2.2.1 hS hown (mj_w1_T hts (dd := 1223) (by decide +kernel) rfl) (fun _ z => z) (by decide +kernel : decode jb_ix2 8 = .ok (.getfield 9, 3)) ?_
  refine lv_iload_n hx hb (by decide +kernel : decode jb_ix2 11 = .ok (.iload_n 1, 1)) rfl (lv_at hl 1 rfl) ?_
  refine lv_iload_n hx hb (by decide +kernel : decode jb_ix2 12 = .ok (.iload_n 2, 1)) rfl (lv_at hl 2 rfl) ?_
  refine lv_aload_n hx hb (by decide +kernel : decode jb_ix2 13 = .ok (.aload_n 0, 1)) rfl (lv_at hl 0 rfl) ?_
  have hcode2 : (Jvm.Cond.code js_len jb_len 1 (some .int)).before [Value.ref a, .int x, .int (nI 0)].toArray s = true := mj_w1_T hts (dd := 399) (by decide +kernel) rfl
  refine js_use (x := nI 4) (va_runV (R := js_R 2 48) (C := "java/lang/String") (b := a) (As := []) (rest := [.int (nI 0), .int x, .ref v]) (nL := 3) (index := 505) (n := 0) (own := "java/lang/String") (Ts := mj_T) ⟨hx, hb, hml, hown, hts⟩ (js_length l a v)
    ⟨⟨rfl, rfl, by decide, by decide, js_pay hts hcode2, List.mem_cons_self, hcode2, mj_w1_T hts mj_gl10 rfl, by decide, js_hpar (y := js_len) (by decide +kernel), mj_w1_T hts (dd := 396) (by decide +kernel) rfl⟩, mj_w1_T hts (dd := 397) (by decide +kernel) rfl, mj_w1_T hts (dd := 398) (by decide +kernel) rfl⟩
    ⟨fun a0 U g mk z => ⟨z.1, mj_Str.moved (u := U) (U := U.calling g mk a0) (Vm.Alike.refl U.vm) z.2⟩, vk_recv hStr.1 (i := 0) (by decide) hS, fun U hU hW => ⟨rfl, by show mj_Str a v js_F U U.heap; rw [hU]; exact mj_Str.moved hW.alike hStr⟩⟩ rfl rfl hl.1 rfl (lv_room (Nat.le_of_ble_eq_true rfl)) (by decide +kernel : decode jb_ix2 14 = .ok (.invokevirtual 505, 3)) ⟨Nat.zero_le _, Nat.zero_le _⟩) ?_
  have hcode3 : (Jvm.Cond.code js_l1 jb_l1 4 (some .int)).before [Value.ref a, .int x, .int (nI 0)].toArray s = true := mj_w1_T hts (dd := 406) (by decide +kernel) rfl
  refine js_use (x := mj_ixc x) (va_runS (R := js_R 2 48) (As := [.ref v, .int x, .int (nI 0), .int (nI 4)]) (rest := []) (nL := 3) (index := 637) (n := 4) (own := "java/lang/String") (Ts := mj_T) ⟨hx, hb, hml, hown, hts⟩ (js_L1 l a v x)
    ⟨⟨rfl, rfl, by decide, by decide, js_pay hts hcode3, List.mem_cons_self, hcode3, mj_w1_T hts (dd := 60) (by decide +kernel) rfl, by decide, js_hpar (y := js_l1) (by decide +kernel), mj_w1_T hts (dd := 404) (by decide +kernel) rfl⟩, mj_w1_T hts (dd := 405) (by decide +kernel) rfl⟩
    ⟨fun a0 U g mk z => ⟨z.1, mj_Str.moved (u := U) (U := U.calling g mk a0) (Vm.Alike.refl U.vm) z.2⟩, fun U hU hW => ⟨rfl, by show mj_Str a v js_F U U.heap; rw [hU]; exact mj_Str.moved hW.alike hStr⟩⟩ rfl rfl hl.1 rfl (lv_room (by decide)) (by decide +kernel : decode jb_ix2 17 = .ok (.invokestatic 637, 3)) ⟨Nat.zero_le _, Nat.zero_le _⟩) ?_
  refine lv_goto (tgt := 36) hx hb (by decide +kernel : decode jb_ix2 20 = .ok (.goto 16, 3)) (by decide) ?_
  exact W.iret (v := mj_ixc x) hx hb hr (fun t ht _ => ⟨_, rfl, rfl, ht⟩) (fun q h => by cases h) (by decide +kernel : decode jb_ix2 36 = .ok (.ireturn, 1))
set_option maxHeartbeats 8000000 in
theorem mj_js (l : Launch) : mj_JS l := by
  intro a v x
  refine Met.ofW (cc := mj_ixB) (maxL := 2) (ret := some .int) (by decide) rfl ?_
  intro p e s m args below meth c s₁ B hml hv
  obtain ⟨rfl, hStr⟩ := hv
  have hx := B.exec
  have hb := B.bytes
  have hr := B.returns
  have hts0 := atoms_spec (ws := js_ws mj_ixN mj_ixB 2 (some .int)) B.pre
  have hts : ∀ w ∈ mj_T, w.before [Value.ref a, .int x].toArray s = true := fun w hw => hts0 w (List.mem_cons_of_mem _ hw)
  have hown : s.vm.findClass "java/lang/String" = some m.cls := findClass_of_methodNamed B.named
  have hlocks := B.notSynchronized
  have hS : va_S js_F s.heap s.heap [] := va_S.rf
  have hl := lv_entry ([.ref a, .int x]) (n := 2) (Nat.le_of_ble_eq_true rfl)
  rw [lg_entry_eq]
  generalize (lg_sl ([.ref a, .int x]) ++ List.replicate (2 - (lg_sl ([.ref a, .int x])).length) Slot.unset).toArray = ls at hl ⊢
  have hl : lv_has ls 2 [(0, .ref a), (1, .int x)] := hl
  refine lv_aload_n hx hb (by decide +kernel : decode mj_ixB 0 = .ok (.aload_n 0, 1)) rfl (lv_at hl 0 rfl) ?_
  refine lv_iload_n hx hb (by decide +kernel : decode mj_ixB 1 = .ok (.iload_n 1, 1)) rfl (lv_at hl 1 rfl) ?_
  refine lv_iconst (v := nI 0) hx hb (by decide +kernel : decode mj_ixB 2 = .ok (.iconst 0, 1)) (by decide) ?_
  have hcode : (Jvm.Cond.code js_ix2 jb_ix2 3 (some .int)).before [Value.ref a, .int x].toArray s = true := mj_w1_T hts (dd := 389) (by decide +kernel) rfl
  refine js_use (x := mj_ixc x) (va_runV (R := mj_ixR) (C := "java/lang/String") (b := a) (As := [.int x, .int (nI 0)]) (rest := []) (nL := 2) (index := 633) (n := 2) (own := "java/lang/String") (Ts := mj_T) ⟨hx, hb, hml, hown, hts⟩ (js_I2 l a v x)
    ⟨⟨rfl, rfl, by decide, by decide, js_pay hts hcode, List.mem_cons_self, hcode, mj_w1_T hts mj_gl10 rfl, by decide, js_hpar (y := js_ix2) (by decide +kernel), mj_w1_T hts (dd := 386) (by decide +kernel) rfl⟩, mj_w1_T hts (dd := 387) (by decide +kernel) rfl, mj_w1_T hts (dd := 388) (by decide +kernel) rfl⟩
    ⟨fun a0 U g mk z => ⟨z.1, mj_Str.moved (u := U) (U := U.calling g mk a0) (Vm.Alike.refl U.vm) z.2⟩, vk_recv hStr.1 (i := 0) (by decide) hS, fun U hU hW => ⟨rfl, by show mj_Str a v js_F U U.heap; rw [hU]; exact mj_Str.moved hW.alike hStr⟩⟩ rfl rfl hl.1 rfl (lv_room (by decide)) (by decide +kernel : decode mj_ixB 3 = .ok (.invokevirtual 633, 3)) ⟨Nat.zero_le _, Nat.zero_le _⟩) ?_
  exact W.iret (v := mj_ixc x) hx hb hr (fun t ht _ => ⟨_, rfl, rfl, ht⟩) (fun q h => by cases h) (by decide +kernel : decode mj_ixB 6 = .ok (.ireturn, 1))
