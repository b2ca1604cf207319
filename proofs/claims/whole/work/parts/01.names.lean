/-! ===== BEGIN new T[n][m]: the outer array a place, the inner ones among the pooled ===== -/
/-- f, but v at every address of l -/
def vr_up {α : Type} (f : Nat → α) (l : List Nat) (v : α) : Nat → α := fun a => if a ∈ l then v else f a
theorem vr_up_in {α : Type} {f : Nat → α} {l : List Nat} {v : α} {a : Nat} (h : a ∈ l) : vr_up f l v a = v := if_pos h
theorem vr_up_ne {α : Type} {f : Nat → α} {l : List Nat} {v : α} {a : Nat} (h : a ∉ l) : vr_up f l v a = f a := if_neg h
theorem vr_rows {L l : List Nat} {f : Nat → va_E} {e : va_E} (h : ∀ a, a ∈ l → a ∉ L) : va_pl L f ++ l.map (fun a => (a, e)) = va_pl (L ++ l) (vr_up f l e) := by
  unfold va_pl
  rw [List.map_append]
  congr 1
  · apply List.map_congr_left
    intro a ha
    rw [vr_up_ne (fun q => h a q ha)]
  · apply List.map_congr_left
    intro a ha
    rw [vr_up_in ha]
theorem vr_lay {X rows : va_W} {x : Nat × va_E} {pl : va_W} {D : va_G} {cl : List vw_C} {H : Heap} (hP : va_P D cl (((X ++ pl) ++ [x]) ++ rows) H) : va_P D cl ((X ++ [x]) ++ (pl ++ rows)) H := by
  rw [List.append_assoc (X ++ pl)] at hP
  have h := va_P.swap hP
  rw [← List.append_assoc X] at h
  have h2 := va_P.swap h
  rw [List.append_assoc (X ++ [x])] at h2
  exact h2
theorem vr_layD {X rows : va_W} {x : Nat × va_E} {pl : va_W} {A : Nat → Prop} (hD : va_D A (((X ++ pl) ++ [x]) ++ rows)) : va_D A ((X ++ [x]) ++ (pl ++ rows)) := by
  rw [List.append_assoc (X ++ pl)] at hD
  have h := va_D.swap hD
  rw [← List.append_assoc X] at h
  have h2 := va_D.swap h
  rw [List.append_assoc (X ++ [x])] at h2
  exact h2
theorem vr_outer (c : ClassId) (N h0 : Nat) : ∀ i : Nat, Jvm.Free.Multi.outerC c N h0 i = arrV c N (fun j => va_rf (if j < i then some (h0 + 1 + j) else none))
  | 0 => by
    show ({ cls := c, slots := Array.replicate N .null, vm := .none } : Cell) = _
    rw [arrV_new]
    refine congrArg (arrV c N) (funext fun j => ?_)
    simp [va_rf]
  | i + 1 => by
    show (Jvm.Free.Multi.outerC c N h0 i).setSlot i (.ref (h0 + 1 + i)) = _
    rw [vr_outer c N h0 i, arrV_store]
    refine congrArg (arrV c N) (funext fun j => ?_)
    by_cases e : j = i
    · subst e
      simp [updV, va_rf]
    · by_cases h : j < i
      · simp [updV, e, h, Nat.lt_succ_of_lt h]
      · simp [updV, e, h, show ¬ j < i + 1 by omega]
section VGM
variable {p : Program} {l : Launch} {e : Env} {R : Room} {s : State} {m : MethodId} {args : Array Value} {below : List Frame} {meth : Method} {c : Code} {H : Heap} {locs : List Loc} {cells slots : Nat} {Q : State → Prop}
variable {cc : ByteArray} {pc : Nat} {ls : Array Slot} {rest : List Value} {D : va_G} {cl : List vw_C} {A : Nat → Prop} {a : Nat} {tys : List (ClassId × FieldType)} {ws : va_W} {H0 : Heap}
theorem va_mna {X : va_W} {L : List Nat} {f : Nat → va_E} {cc : ByteArray} (hexec : p.tables.exec = Jvm.exec) (hb : c.code = cc) {own : String} {index : Nat} {ty : FieldType} {cy : ClassId} (hown : s.vm.findClass own = some m.cls) (hclink : (Cond.classLink own index ("[" ++ (FieldType.array ty).toString)).before args s = true) (hover : (Cond.arrayOver (.array ty)).before args s = true) (harr : (Cond.arrayClass ty).before args s = true) (hcy : s.vm.findClass (FieldType.array ty).toString = some cy)
    (hK : va_K D cl tys s) (hP : va_P D cl (X ++ va_pl L f) H) (hD : va_D A (X ++ va_pl L f)) (hS : va_S A H0 H locs) (hA : ∀ q, H0.size ≤ q → A q) {n k : Int32} {N' K' : Nat} {z : vp_A} (hn : ¬ n < 0) (hk : ¬ k < 0) (hN : n.toNatClampNeg = N') (hM : k.toNatClampNeg = K')
    (hb1 : N' * 4 ≤ 536870912) (hb2 : K' * componentBytes ty ≤ 536870912) (hb3 : K' ≤ 536870912) (hdf : fits ty (defaultValue ty) = true) (hdd : (defaultValue ty).isDefault = true) (hcells : cells + (1 + N') ≤ R.cells) (hslots : slots + (N' + N' * K') ≤ R.slots) (hz : ∀ c : ClassId, Jvm.Free.Multi.innerC c K' (defaultValue ty) = vp_cell c z) (hdg : decode cc pc = .ok (.multianewarray index 2, 4))
    (kk : ∀ (q : Nat) (r : Nat → Nat) (cA : ClassId) (H1 : Heap), (∀ i j : Nat, i < N' → j < N' → r i = r j → i = j) → (∀ i : Nat, i < N' → r i ∉ L) → va_K D cl (tys ++ [(cA, .array ty)]) s →
      va_P D cl ((X ++ [(q, .inl (cA, N', .inr (.inr (.inr (.inr (fun i => if i < N' then some (r i) else none))))))]) ++ va_pl (L ++ (List.range N').map r) (vr_up f ((List.range N').map r) (.inl (cy, z)))) H1 → va_D A ((X ++ [(q, .inl (cA, N', .inr (.inr (.inr (.inr (fun i => if i < N' then some (r i) else none))))))]) ++ va_pl (L ++ (List.range N').map r) (vr_up f ((List.range N').map r) (.inl (cy, z)))) → va_S A H0 H1 locs →
      W p l e R s m args below meth c H1 locs (cells + 1 + N') (slots + N' + N' * K') Q (F0 m (pc + 4) ls (.ref q :: rest))) : W p l e R s m args below meth c H locs cells slots Q (F0 m pc ls (.int k :: .int n :: rest)) := by
  subst hN
  subst hM
  intro T hT Xs
  obtain ⟨vm₁, cA, comp, -, fA, fC, hO, -, X', step⟩ := Xs.multianewarray2F hexec hown hclink hover harr (g := F0 m pc ls (.int k :: .int n :: rest)) rfl (by rw [hb]; exact hdg) rfl hn hk hb1 hb2 hb3 hdf hdd hcells hslots
  have ec : some cy = some comp := hcy.symm.trans fC
  cases ec
  generalize hF : Jvm.Free.Multi.fill (T.setVm vm₁) cA cy n.toNatClampNeg k.toNatClampNeg (defaultValue ty) n.toNatClampNeg = F at X' step
  have hTh : (T.setVm vm₁).heap = H := hT
  obtain ⟨f1, f2, -, -⟩ := Jvm.Free.Multi.fill_facts (T.setVm vm₁) cA cy n.toNatClampNeg k.toNatClampNeg (defaultValue ty) n.toNatClampNeg
  rw [hF, hTh] at f1 f2
  have hold : ∀ x : Nat, x < H.size → F.heap[x]? = H[x]? := fun x hx => by
    have := Jvm.Free.Multi.fill_old (T.setVm vm₁) cA cy n.toNatClampNeg k.toNatClampNeg (defaultValue ty) (a := x) (by rw [hTh]; exact hx) n.toNatClampNeg
    rw [hF, hTh] at this
    exact this
  have hrow : ∀ j : Nat, j < n.toNatClampNeg → F.heap[H.size + 1 + j]? = some (vp_cell cy z) := fun j hj => by
    have := Jvm.Free.Multi.fill_inner (T.setVm vm₁) cA cy n.toNatClampNeg k.toNatClampNeg (defaultValue ty) n.toNatClampNeg j hj
    rw [hF, hTh, hz] at this
    exact this
  have hout : Jvm.Free.Multi.outerC cA n.toNatClampNeg H.size n.toNatClampNeg = vp_cell cA (n.toNatClampNeg, .inr (.inr (.inr (.inr (fun i => if i < n.toNatClampNeg then some (H.size + 1 + i) else none))))) := by
    rw [vp_cell_q]
    exact vr_outer cA n.toNatClampNeg H.size n.toNatClampNeg
  rw [hout] at f2
  have hlt : ∀ a, a ∈ L → a < H.size := fun a ha => by
    obtain ⟨k9, hk9⟩ := va_pl_get (X := X) (f := f) ha
    exact (hP k9 _ hk9).lt
  have hnl : ∀ i : Nat, i < n.toNatClampNeg → H.size + 1 + i ∉ L := fun i _ h => by
    have := hlt _ h
    omega
  have hnm : ∀ a, a ∈ (List.range n.toNatClampNeg).map (fun i => H.size + 1 + i) → a ∉ L := fun a ha h => by
    obtain ⟨i, -, rfl⟩ := List.mem_map.mp ha
    have := hlt _ h
    omega
  have hP0 : va_P D cl (X ++ va_pl L f) F.heap := hP.kept (fun k9 x hx => hold x.1 ((hP k9 x hx).lt))
  have hP1 : va_P D cl ((X ++ va_pl L f) ++ [(H.size, .inl (cA, n.toNatClampNeg, .inr (.inr (.inr (.inr (fun i => if i < n.toNatClampNeg then some (H.size + 1 + i) else none))))))]) F.heap := hP0.app (fun k9 x hx => by
    have h0 : k9 < 1 := (List.getElem?_eq_some_iff.mp hx).1
    rw [show k9 = 0 by omega] at hx
    cases hx
    exact f2)
  have hP2 : va_P D cl (((X ++ va_pl L f) ++ [(H.size, .inl (cA, n.toNatClampNeg, .inr (.inr (.inr (.inr (fun i => if i < n.toNatClampNeg then some (H.size + 1 + i) else none))))))]) ++ ((List.range n.toNatClampNeg).map (fun i => H.size + 1 + i)).map (fun a => (a, .inl (cy, z)))) F.heap := hP1.app (fun k9 x hx => by
    obtain ⟨a, ha, rfl⟩ := List.mem_map.mp (List.mem_of_getElem? hx)
    obtain ⟨i, hi, rfl⟩ := List.mem_map.mp ha
    exact hrow i (List.mem_range.mp hi))
  have hD2 : va_D A (((X ++ va_pl L f) ++ [(H.size, .inl (cA, n.toNatClampNeg, .inr (.inr (.inr (.inr (fun i => if i < n.toNatClampNeg then some (H.size + 1 + i) else none))))))]) ++ ((List.range n.toNatClampNeg).map (fun i => H.size + 1 + i)).map (fun a => (a, .inl (cy, z)))) := by
    have hD1 := hD.push (e := .inl (cA, n.toNatClampNeg, .inr (.inr (.inr (.inr (fun i => if i < n.toNatClampNeg then some (H.size + 1 + i) else none)))))) hP rfl (hA _ hS.1)
    generalize hW1 : (X ++ va_pl L f) ++ [(H.size, .inl (cA, n.toNatClampNeg, .inr (.inr (.inr (.inr (fun i => if i < n.toNatClampNeg then some (H.size + 1 + i) else none))))))] = W1 at hD1 hP1 ⊢
    have hle : ∀ (k9 : Nat) (x : Nat × va_E), W1[k9]? = some x → x.1 ≤ H.size := fun k9 x hx => by
      rw [← hW1] at hx
      by_cases hl : k9 < (X ++ va_pl L f).length
      · rw [List.getElem?_append_left hl] at hx
        exact Nat.le_of_lt ((hP k9 x hx).lt)
      · rw [List.getElem?_append_right (by omega)] at hx
        have h0 : k9 - (X ++ va_pl L f).length < 1 := (List.getElem?_eq_some_iff.mp hx).1
        rw [show k9 - (X ++ va_pl L f).length = 0 by omega] at hx
        cases hx
        exact Nat.le_refl _
    have hr : ∀ (k9 : Nat) (x : Nat × va_E), (((List.range n.toNatClampNeg).map (fun i => H.size + 1 + i)).map (fun a => ((a, .inl (cy, z)) : Nat × va_E)))[k9]? = some x → x.1 = H.size + 1 + k9 := fun k9 x hx => by
      rw [List.getElem?_map, List.getElem?_map] at hx
      by_cases h9 : k9 < n.toNatClampNeg
      · rw [List.getElem?_range h9] at hx
        cases hx
        rfl
      · have hn0 : (List.range n.toNatClampNeg)[k9]? = none := List.getElem?_eq_none (by rw [List.length_range]; omega)
        rw [hn0] at hx
        cases hx
    refine ⟨fun i j x y hi hj hxy => ?_, fun k9 x hx => ?_⟩
    · by_cases h1 : i < W1.length <;> by_cases h2 : j < W1.length
      · rw [List.getElem?_append_left h1] at hi
        rw [List.getElem?_append_left h2] at hj
        exact hD1.1 i j x y hi hj hxy
      · rw [List.getElem?_append_left h1] at hi
        rw [List.getElem?_append_right (by omega)] at hj
        have := hle _ _ hi
        have := hr _ _ hj
        omega
      · rw [List.getElem?_append_right (by omega)] at hi
        rw [List.getElem?_append_left h2] at hj
        have := hle _ _ hj
        have := hr _ _ hi
        omega
      · rw [List.getElem?_append_right (by omega)] at hi hj
        have := hr _ _ hi
        have := hr _ _ hj
        omega
    · by_cases h1 : k9 < W1.length
      · rw [List.getElem?_append_left h1] at hx
        exact hD1.2 k9 x hx
      · rw [List.getElem?_append_right (by omega)] at hx
        have := hr _ _ hx
        exact hA _ (by have := hS.1; omega)
  have hAr : ArrOfT s cA (.array ty) := fun N9 z9 => by
    obtain ⟨-, k9, hk9, cm9, hkk9⟩ := (hO 0 0 0).1
    exact ⟨(fun q hq => by cases hq), k9, hk9, cm9, hkk9⟩
  have hK2 : va_K D cl (tys ++ [(cA, .array ty)]) s := ⟨hK.1, fun k9 x hx => by
    by_cases hl : k9 < tys.length
    · rw [List.getElem?_append_left hl] at hx
      exact hK.2 k9 x hx
    · rw [List.getElem?_append_right (by omega)] at hx
      have h0 : k9 - tys.length < 1 := (List.getElem?_eq_some_iff.mp hx).1
      rw [show k9 - tys.length = 0 by omega] at hx
      cases hx
      exact ⟨hAr, fA⟩⟩
  obtain ⟨t, a1, b1⟩ := kk H.size (fun i => H.size + 1 + i) cA F.heap (fun i j _ _ h => by have h9 : H.size + 1 + i = H.size + 1 + j := h; omega) hnl hK2 (by rw [← vr_rows hnm]; exact vr_lay hP2) (by rw [← vr_rows hnm]; exact vr_layD hD2) ⟨by rw [f1]; have := hS.1; omega, fun x h1 h2 => (hold x (Nat.lt_of_lt_of_le h1 hS.1)).trans (hS.2.1 x h1 h2), hS.2.2⟩ F rfl X'
  refine ⟨t, step t ?_, b1⟩
  have e : T.heap.size = H.size := by rw [hT]
  rw [e]
  exact a1
end VGM
/-! ===== END ===== -/

def RX0 : String := "CaughtHand$Hands"
def TX0 : u_T := fun k => match k with
  | 0 => ("CaughtHand$Hands", "day", "I", false)
  | 1 => ("CaughtHand$Hands", "written", "[I", true)
  | _ => ("CaughtHand$Hands", "end", "[I", true)
def tyX0 : Nat → FieldType := fun k => match k with
  | 0 => .int
  | 1 => .array .int
  | _ => .array .int
abbrev wsX00 : List Cond := u_ws RX0 TX0 3
theorem nmX0 : ∀ a, a < 3 → ∀ b, b < 3 → a ≠ b → (TX0 a).2.1 ≠ (TX0 b).2.1 := by decide +kernel
theorem tyX0_ok : ∀ k, k < 3 → parseFieldDescriptor (TX0 k).2.2.1 = some (tyX0 k) := by decide +kernel
abbrev cX0_init : ByteArray := prog_2_method_1_code
def yX0_init : MethodName := ⟨RX0, "<init>", "()V"⟩
abbrev cX0_become : ByteArray := prog_2_method_2_code
def yX0_become : MethodName := ⟨RX0, "become", "(LCaughtHand$Hands;)V"⟩
abbrev cX0_begin : ByteArray := prog_2_method_3_code
def yX0_begin : MethodName := ⟨RX0, "begin", "(II)V"⟩
abbrev cX0_endOf : ByteArray := prog_2_method_4_code
def yX0_endOf : MethodName := ⟨RX0, "endOf", "(II)I"⟩
abbrev cX0_takenBy : ByteArray := prog_2_method_5_code
def yX0_takenBy : MethodName := ⟨RX0, "takenBy", "(I)I"⟩
abbrev cX0_giveBack : ByteArray := prog_2_method_6_code
def yX0_giveBack : MethodName := ⟨RX0, "giveBack", "(II)V"⟩
abbrev cX0_write : ByteArray := prog_2_method_7_code
def yX0_write : MethodName := ⟨RX0, "write", "(IIII)V"⟩
def RX1 : String := "CaughtHand$Office"
def TX1 : u_T := fun k => match k with
  | 0 => ("CaughtHand$Office", "people", "I", false)
  | 1 => ("CaughtHand$Office", "dryChairs", "I", false)
  | 2 => ("CaughtHand$Office", "wetBits", "I", false)
  | 3 => ("CaughtHand$Office", "lastingDays", "I", false)
  | 4 => ("CaughtHand$Office", "draw", "I", false)
  | 5 => ("CaughtHand$Office", "hands", "LCaughtHand$Hands;", true)
  | 6 => ("CaughtHand$Office", "kinds", "[I", true)
  | 7 => ("CaughtHand$Office", "strengths", "[I", true)
  | 8 => ("CaughtHand$Office", "own", "[I", true)
  | 9 => ("CaughtHand$Office", "sitters", "[I", true)
  | 10 => ("CaughtHand$Office", "watching", "I", false)
  | 11 => ("CaughtHand$Office", "watched", "[I", true)
  | 12 => ("CaughtHand$Office", "models", "[I", true)
  | _ => ("CaughtHand$Office", "before", "[I", true)
def tyX1 : Nat → FieldType := fun k => match k with
  | 0 => .int
  | 1 => .int
  | 2 => .int
  | 3 => .int
  | 4 => .int
  | 5 => .object "CaughtHand$Hands"
  | 6 => .array .int
  | 7 => .array .int
  | 8 => .array .int
  | 9 => .array .int
  | 10 => .int
  | 11 => .array .int
  | 12 => .array .int
  | _ => .array .int
abbrev wsX10 : List Cond := u_ws RX1 TX1 14
theorem nmX1 : ∀ a, a < 14 → ∀ b, b < 14 → a ≠ b → (TX1 a).2.1 ≠ (TX1 b).2.1 := by decide +kernel
theorem tyX1_ok : ∀ k, k < 14 → parseFieldDescriptor (TX1 k).2.2.1 = some (tyX1 k) := by decide +kernel
abbrev cX1_init : ByteArray := prog_3_method_1_code
def yX1_init : MethodName := ⟨RX1, "<init>", "()V"⟩
abbrev cX1_clear : ByteArray := prog_3_method_2_code
def yX1_clear : MethodName := ⟨RX1, "clear", "()V"⟩
abbrev cX1_moveIn : ByteArray := prog_3_method_3_code
def yX1_moveIn : MethodName := ⟨RX1, "moveIn", "(LCaughtHand$Office;)V"⟩
abbrev cX1_become : ByteArray := prog_3_method_4_code
def yX1_become : MethodName := ⟨RX1, "become", "(LCaughtHand$Office;)V"⟩
abbrev cX1_add : ByteArray := prog_3_method_5_code
def yX1_add : MethodName := ⟨RX1, "add", "(IIII)I"⟩
abbrev cX1_has : ByteArray := prog_3_method_6_code
def yX1_has : MethodName := ⟨RX1, "has", "(I)Z"⟩
abbrev cX1_kindOf : ByteArray := prog_3_method_7_code
def yX1_kindOf : MethodName := ⟨RX1, "kindOf", "(I)I"⟩
abbrev cX1_strengthOf : ByteArray := prog_3_method_8_code
def yX1_strengthOf : MethodName := ⟨RX1, "strengthOf", "(I)I"⟩
abbrev cX1_ownOf : ByteArray := prog_3_method_9_code
def yX1_ownOf : MethodName := ⟨RX1, "ownOf", "(I)I"⟩
abbrev cX1_writtenBy : ByteArray := prog_3_method_10_code
def yX1_writtenBy : MethodName := ⟨RX1, "writtenBy", "(I)I"⟩
abbrev cX1_sitterOn : ByteArray := prog_3_method_11_code
def yX1_sitterOn : MethodName := ⟨RX1, "sitterOn", "(I)I"⟩
abbrev cX1_chairOf : ByteArray := prog_3_method_12_code
def yX1_chairOf : MethodName := ⟨RX1, "chairOf", "(I)I"⟩
abbrev cX1_exchange : ByteArray := prog_3_method_13_code
def yX1_exchange : MethodName := ⟨RX1, "exchange", "(II)V"⟩
abbrev cX1_isDry : ByteArray := prog_3_method_14_code
def yX1_isDry : MethodName := ⟨RX1, "isDry", "(I)Z"⟩
abbrev cX1_isWet : ByteArray := prog_3_method_15_code
def yX1_isWet : MethodName := ⟨RX1, "isWet", "()Z"⟩
abbrev cX1_drawWet : ByteArray := prog_3_method_16_code
def yX1_drawWet : MethodName := ⟨RX1, "drawWet", "()Z"⟩
abbrev cX1_lastsFrom : ByteArray := prog_3_method_17_code
def yX1_lastsFrom : MethodName := ⟨RX1, "lastsFrom", "(I)I"⟩
abbrev cX1_takenByAll : ByteArray := prog_3_method_18_code
def yX1_takenByAll : MethodName := ⟨RX1, "takenByAll", "()I"⟩
abbrev cX1_writersOf : ByteArray := prog_3_method_19_code
def yX1_writersOf : MethodName := ⟨RX1, "writersOf", "(II)I"⟩
abbrev cX1_beginsLike : ByteArray := prog_3_method_20_code
def yX1_beginsLike : MethodName := ⟨RX1, "beginsLike", "(II)Z"⟩
abbrev cX1_watchAll : ByteArray := prog_3_method_21_code
def yX1_watchAll : MethodName := ⟨RX1, "watchAll", "()V"⟩
abbrev cX1_watchOnly : ByteArray := prog_3_method_22_code
def yX1_watchOnly : MethodName := ⟨RX1, "watchOnly", "(I)V"⟩
abbrev cX1_chain : ByteArray := prog_3_method_23_code
def yX1_chain : MethodName := ⟨RX1, "chain", "()I"⟩
abbrev cX1_modelOf : ByteArray := prog_3_method_24_code
def yX1_modelOf : MethodName := ⟨RX1, "modelOf", "(I)I"⟩
abbrev cX1_strongerOn : ByteArray := prog_3_method_25_code
def yX1_strongerOn : MethodName := ⟨RX1, "strongerOn", "(II)I"⟩
abbrev cX1_passDay : ByteArray := prog_3_method_26_code
def yX1_passDay : MethodName := ⟨RX1, "passDay", "(Z)I"⟩
abbrev cX1_take : ByteArray := prog_3_method_27_code
def yX1_take : MethodName := ⟨RX1, "take", "(I)I"⟩
abbrev cX1_passDays : ByteArray := prog_3_method_28_code
def yX1_passDays : MethodName := ⟨RX1, "passDays", "(I)V"⟩
abbrev cX1_follow : ByteArray := prog_3_method_29_code
def yX1_follow : MethodName := ⟨RX1, "follow", "(II[I)V"⟩
def RX2 : String := "CaughtHand$Past"
def TX2 : u_T := fun k => match k with
  | 0 => ("CaughtHand$Past", "ring", "[LCaughtHand$Hands;", true)
  | 1 => ("CaughtHand$Past", "next", "I", false)
  | _ => ("CaughtHand$Past", "known", "I", false)
def tyX2 : Nat → FieldType := fun k => match k with
  | 0 => .array (.object "CaughtHand$Hands")
  | 1 => .int
  | _ => .int
abbrev wsX20 : List Cond := u_ws RX2 TX2 3
theorem nmX2 : ∀ a, a < 3 → ∀ b, b < 3 → a ≠ b → (TX2 a).2.1 ≠ (TX2 b).2.1 := by decide +kernel
theorem tyX2_ok : ∀ k, k < 3 → parseFieldDescriptor (TX2 k).2.2.1 = some (tyX2 k) := by decide +kernel
abbrev cX2_init : ByteArray := prog_4_method_1_code
def yX2_init : MethodName := ⟨RX2, "<init>", "()V"⟩
abbrev cX2_forget : ByteArray := prog_4_method_2_code
def yX2_forget : MethodName := ⟨RX2, "forget", "()V"⟩
abbrev cX2_add : ByteArray := prog_4_method_3_code
def yX2_add : MethodName := ⟨RX2, "add", "(LCaughtHand$Hands;)V"⟩
abbrev cX2_takeBack : ByteArray := prog_4_method_4_code
def yX2_takeBack : MethodName := ⟨RX2, "takeBack", "(LCaughtHand$Hands;)V"⟩
abbrev cX2_become : ByteArray := prog_4_method_5_code
def yX2_become : MethodName := ⟨RX2, "become", "(LCaughtHand$Past;)V"⟩
def RX3 : String := "CaughtHand$Reader"
def TX3 : u_T := fun k => match k with
  | 0 => ("CaughtHand$Reader", "letters", "[I", true)
  | 1 => ("CaughtHand$Reader", "length", "I", false)
  | _ => ("CaughtHand$Reader", "place", "I", false)
def tyX3 : Nat → FieldType := fun k => match k with
  | 0 => .array .int
  | 1 => .int
  | _ => .int
abbrev wsX30 : List Cond := u_ws RX3 TX3 3
theorem nmX3 : ∀ a, a < 3 → ∀ b, b < 3 → a ≠ b → (TX3 a).2.1 ≠ (TX3 b).2.1 := by decide +kernel
theorem tyX3_ok : ∀ k, k < 3 → parseFieldDescriptor (TX3 k).2.2.1 = some (tyX3 k) := by decide +kernel
abbrev cX3_init : ByteArray := prog_5_method_1_code
def yX3_init : MethodName := ⟨RX3, "<init>", "()V"⟩
abbrev cX3_append : ByteArray := prog_5_method_2_code
def yX3_append : MethodName := ⟨RX3, "append", "(I)I"⟩
abbrev cX3_empty : ByteArray := prog_5_method_3_code
def yX3_empty : MethodName := ⟨RX3, "empty", "()V"⟩
abbrev cX3_readInto : ByteArray := prog_5_method_4_code
def yX3_readInto : MethodName := ⟨RX3, "readInto", "(LCaughtHand$Office;)I"⟩
abbrev cX3_readPerson : ByteArray := prog_5_method_5_code
def yX3_readPerson : MethodName := ⟨RX3, "readPerson", "(LCaughtHand$Office;)Z"⟩
abbrev cX3_readKind : ByteArray := prog_5_method_6_code
def yX3_readKind : MethodName := ⟨RX3, "readKind", "()I"⟩
abbrev cX3_readDigit : ByteArray := prog_5_method_7_code
def yX3_readDigit : MethodName := ⟨RX3, "readDigit", "(I)I"⟩
abbrev cX3_readHand : ByteArray := prog_5_method_8_code
def yX3_readHand : MethodName := ⟨RX3, "readHand", "()I"⟩
abbrev cX3_readFreeChair : ByteArray := prog_5_method_9_code
def yX3_readFreeChair : MethodName := ⟨RX3, "readFreeChair", "(LCaughtHand$Office;)I"⟩
abbrev cX3_readWeather : ByteArray := prog_5_method_10_code
def yX3_readWeather : MethodName := ⟨RX3, "readWeather", "(LCaughtHand$Office;)Z"⟩
abbrev cX3_skips : ByteArray := prog_5_method_11_code
def yX3_skips : MethodName := ⟨RX3, "skips", "(C)Z"⟩
abbrev cX3_letter : ByteArray := prog_5_method_12_code
def yX3_letter : MethodName := ⟨RX3, "letter", "()I"⟩
abbrev cX3_fault : ByteArray := prog_5_method_13_code
def yX3_fault : MethodName := ⟨RX3, "fault", "()I"⟩
def RX4 : String := "CaughtHand$Row"
def TX4 : u_T := fun k => match k with
  | _ => ("", "", "", false)
def tyX4 : Nat → FieldType := fun k => match k with
  | _ => .int
abbrev wsX40 : List Cond := u_ws RX4 TX4 0
theorem nmX4 : ∀ a, a < 0 → ∀ b, b < 0 → a ≠ b → (TX4 a).2.1 ≠ (TX4 b).2.1 := by decide +kernel
theorem tyX4_ok : ∀ k, k < 0 → parseFieldDescriptor (TX4 k).2.2.1 = some (tyX4 k) := by decide +kernel
abbrev cX4_packed : ByteArray := prog_6_method_2_code
def yX4_packed : MethodName := ⟨RX4, "packed", "(I)I"⟩
abbrev cX4_figures : ByteArray := prog_6_method_3_code
def yX4_figures : MethodName := ⟨RX4, "figures", "(I)I"⟩
abbrev cX4_stroke : ByteArray := prog_6_method_4_code
def yX4_stroke : MethodName := ⟨RX4, "stroke", "(II)I"⟩
abbrev cX4_firstStrokes : ByteArray := prog_6_method_5_code
def yX4_firstStrokes : MethodName := ⟨RX4, "firstStrokes", "(II)I"⟩
abbrev cX4_alike : ByteArray := prog_6_method_6_code
def yX4_alike : MethodName := ⟨RX4, "alike", "(II)I"⟩
abbrev cX4_firstPlace : ByteArray := prog_6_method_7_code
def yX4_firstPlace : MethodName := ⟨RX4, "firstPlace", "(I)I"⟩
abbrev cX4_needsBoth : ByteArray := prog_6_method_8_code
def yX4_needsBoth : MethodName := ⟨RX4, "needsBoth", "(III)Z"⟩
def RX5 : String := "CaughtHand$Sheets"
def TX5 : u_T := fun k => match k with
  | 0 => ("CaughtHand$Sheets", "lanes", "[I", true)
  | 1 => ("CaughtHand$Sheets", "sizes", "[I", true)
  | _ => ("CaughtHand$Sheets", "rows", "[[J", true)
def tyX5 : Nat → FieldType := fun k => match k with
  | 0 => .array .int
  | 1 => .array .int
  | _ => .array (.array .long)
abbrev wsX50 : List Cond := u_ws RX5 TX5 3
theorem nmX5 : ∀ a, a < 3 → ∀ b, b < 3 → a ≠ b → (TX5 a).2.1 ≠ (TX5 b).2.1 := by decide +kernel
theorem tyX5_ok : ∀ k, k < 3 → parseFieldDescriptor (TX5 k).2.2.1 = some (tyX5 k) := by decide +kernel
abbrev cX5_init : ByteArray := prog_7_method_1_code
def yX5_init : MethodName := ⟨RX5, "<init>", "()V"⟩
abbrev cX5_lay : ByteArray := prog_7_method_2_code
def yX5_lay : MethodName := ⟨RX5, "lay", "(III)V"⟩
abbrev cX5_takeAway : ByteArray := prog_7_method_3_code
def yX5_takeAway : MethodName := ⟨RX5, "takeAway", "(I)I"⟩
abbrev cX5_refusal : ByteArray := prog_7_method_4_code
def yX5_refusal : MethodName := ⟨RX5, "refusal", "(IIII)I"⟩
abbrev cX5_moveRefusal : ByteArray := prog_7_method_5_code
def yX5_moveRefusal : MethodName := ⟨RX5, "moveRefusal", "(IIIII)I"⟩
abbrev cX5_holds : ByteArray := prog_7_method_6_code
def yX5_holds : MethodName := ⟨RX5, "holds", "(III)Z"⟩
abbrev cX5_valueAt : ByteArray := prog_7_method_7_code
def yX5_valueAt : MethodName := ⟨RX5, "valueAt", "(II)J"⟩
abbrev cX5_put : ByteArray := prog_7_method_8_code
def yX5_put : MethodName := ⟨RX5, "put", "(IIJ)V"⟩
abbrev cX5_move : ByteArray := prog_7_method_9_code
def yX5_move : MethodName := ⟨RX5, "move", "(IIIII)V"⟩
abbrev cX5_lowestBits : ByteArray := prog_7_method_10_code
def yX5_lowestBits : MethodName := ⟨RX5, "lowestBits", "(IJ)J"⟩
def RX6 : String := "CaughtHand"
def TX6 : u_T := fun k => match k with
  | 0 => ("CaughtHand", "live", "LCaughtHand$Office;", true)
  | 1 => ("CaughtHand", "past", "LCaughtHand$Past;", true)
  | 2 => ("CaughtHand", "kept", "LCaughtHand$Office;", true)
  | 3 => ("CaughtHand", "keptPast", "LCaughtHand$Past;", true)
  | 4 => ("CaughtHand", "hasImage", "Z", false)
  | 5 => ("CaughtHand", "trial", "LCaughtHand$Office;", true)
  | 6 => ("CaughtHand", "tape", "LCaughtHand$Reader;", true)
  | 7 => ("CaughtHand", "sheets", "LCaughtHand$Sheets;", true)
  | 8 => ("CaughtHand", "trail", "[I", true)
  | 9 => ("CaughtHand", "triedChains", "[I", true)
  | _ => ("CaughtHand", "tried", "I", false)
def tyX6 : Nat → FieldType := fun k => match k with
  | 0 => .object "CaughtHand$Office"
  | 1 => .object "CaughtHand$Past"
  | 2 => .object "CaughtHand$Office"
  | 3 => .object "CaughtHand$Past"
  | 4 => .boolean
  | 5 => .object "CaughtHand$Office"
  | 6 => .object "CaughtHand$Reader"
  | 7 => .object "CaughtHand$Sheets"
  | 8 => .array .int
  | 9 => .array .int
  | _ => .int
abbrev wsX60 : List Cond := u_ws RX6 TX6 11
theorem nmX6 : ∀ a, a < 11 → ∀ b, b < 11 → a ≠ b → (TX6 a).2.1 ≠ (TX6 b).2.1 := by decide +kernel
theorem tyX6_ok : ∀ k, k < 11 → parseFieldDescriptor (TX6 k).2.2.1 = some (tyX6 k) := by decide +kernel
abbrev cX6_init : ByteArray := prog_1_method_1_code
def yX6_init : MethodName := ⟨RX6, "<init>", "()V"⟩
abbrev cX6_person : ByteArray := prog_1_method_2_code
def yX6_person : MethodName := ⟨RX6, "person", "(IIII)I"⟩
abbrev cX6_of : ByteArray := prog_1_method_3_code
def yX6_of : MethodName := ⟨RX6, "of", "(II)I"⟩
abbrev cX6_till : ByteArray := prog_1_method_4_code
def yX6_till : MethodName := ⟨RX6, "till", "(II)I"⟩
abbrev cX6_sit : ByteArray := prog_1_method_5_code
def yX6_sit : MethodName := ⟨RX6, "sit", "(II)I"⟩
abbrev cX6_at : ByteArray := prog_1_method_6_code
def yX6_at : MethodName := ⟨RX6, "at", "(I)I"⟩
abbrev cX6_dry : ByteArray := prog_1_method_7_code
def yX6_dry : MethodName := ⟨RX6, "dry", "(II)I"⟩
abbrev cX6_weather : ByteArray := prog_1_method_8_code
def yX6_weather : MethodName := ⟨RX6, "weather", "(I)I"⟩
abbrev cX6_lasting : ByteArray := prog_1_method_9_code
def yX6_lasting : MethodName := ⟨RX6, "lasting", "(I)I"⟩
abbrev cX6_type : ByteArray := prog_1_method_10_code
def yX6_type : MethodName := ⟨RX6, "type", "(I)I"⟩
abbrev cX6_office : ByteArray := prog_1_method_11_code
def yX6_office : MethodName := ⟨RX6, "office", "()I"⟩
abbrev cX6_count : ByteArray := prog_1_method_12_code
def yX6_count : MethodName := ⟨RX6, "count", "(I)I"⟩
abbrev cX6_days : ByteArray := prog_1_method_13_code
def yX6_days : MethodName := ⟨RX6, "days", "(I)I"⟩
abbrev cX6_drift : ByteArray := prog_1_method_14_code
def yX6_drift : MethodName := ⟨RX6, "drift", "(I)I"⟩
abbrev cX6_undo : ByteArray := prog_1_method_15_code
def yX6_undo : MethodName := ⟨RX6, "undo", "()I"⟩
abbrev cX6_seed : ByteArray := prog_1_method_16_code
def yX6_seed : MethodName := ⟨RX6, "seed", "(I)I"⟩
abbrev cX6_pass : ByteArray := prog_1_method_17_code
def yX6_pass : MethodName := ⟨RX6, "pass", "(IZ)I"⟩
abbrev cX6_writes : ByteArray := prog_1_method_18_code
def yX6_writes : MethodName := ⟨RX6, "writes", "(II)I"⟩
abbrev cX6_cheque : ByteArray := prog_1_method_19_code
def yX6_cheque : MethodName := ⟨RX6, "cheque", "(I)I"⟩
abbrev cX6_out : ByteArray := prog_1_method_20_code
def yX6_out : MethodName := ⟨RX6, "out", "(III)I"⟩
abbrev cX6_seats : ByteArray := prog_1_method_21_code
def yX6_seats : MethodName := ⟨RX6, "seats", "(IIIII)I"⟩
abbrev cX6_who : ByteArray := prog_1_method_22_code
def yX6_who : MethodName := ⟨RX6, "who", "(II)I"⟩
abbrev cX6_likely : ByteArray := prog_1_method_23_code
def yX6_likely : MethodName := ⟨RX6, "likely", "(IIII)I"⟩
abbrev cX6_most : ByteArray := prog_1_method_24_code
def yX6_most : MethodName := ⟨RX6, "most", "(III)I"⟩
abbrev cX6_dryOut : ByteArray := prog_1_method_25_code
def yX6_dryOut : MethodName := ⟨RX6, "dryOut", "(II)I"⟩
abbrev cX6_forger : ByteArray := prog_1_method_26_code
def yX6_forger : MethodName := ⟨RX6, "forger", "(IIII)I"⟩
abbrev cX6_two : ByteArray := prog_1_method_27_code
def yX6_two : MethodName := ⟨RX6, "two", "(II)I"⟩
abbrev cX6_tree : ByteArray := prog_1_method_28_code
def yX6_tree : MethodName := ⟨RX6, "tree", "()I"⟩
abbrev cX6_signature : ByteArray := prog_1_method_29_code
def yX6_signature : MethodName := ⟨RX6, "signature", "(I)I"⟩
abbrev cX6_image : ByteArray := prog_1_method_30_code
def yX6_image : MethodName := ⟨RX6, "image", "()I"⟩
abbrev cX6_restore : ByteArray := prog_1_method_31_code
def yX6_restore : MethodName := ⟨RX6, "restore", "()I"⟩
abbrev cX6_lasted : ByteArray := prog_1_method_32_code
def yX6_lasted : MethodName := ⟨RX6, "lasted", "(IIIII)I"⟩
abbrev cX6_film : ByteArray := prog_1_method_33_code
def yX6_film : MethodName := ⟨RX6, "film", "(IIIII)I"⟩
abbrev cX6_sheet : ByteArray := prog_1_method_34_code
def yX6_sheet : MethodName := ⟨RX6, "sheet", "(III)I"⟩
abbrev cX6_drop : ByteArray := prog_1_method_35_code
def yX6_drop : MethodName := ⟨RX6, "drop", "(I)I"⟩
abbrev cX6_item : ByteArray := prog_1_method_36_code
def yX6_item : MethodName := ⟨RX6, "item", "(IIIJ)I"⟩
abbrev cX6_copy : ByteArray := prog_1_method_37_code
def yX6_copy : MethodName := ⟨RX6, "copy", "(IIIII)I"⟩
abbrev cX6_within : ByteArray := prog_1_method_38_code
def yX6_within : MethodName := ⟨RX6, "within", "(III)Z"⟩
abbrev cX6_isChair : ByteArray := prog_1_method_39_code
def yX6_isChair : MethodName := ⟨RX6, "isChair", "(I)Z"⟩
abbrev cX6_isPlace : ByteArray := prog_1_method_40_code
def yX6_isPlace : MethodName := ⟨RX6, "isPlace", "(I)Z"⟩
abbrev cX6_isForetold : ByteArray := prog_1_method_41_code
def yX6_isForetold : MethodName := ⟨RX6, "isForetold", "(I)Z"⟩
abbrev cX6_isSheet : ByteArray := prog_1_method_42_code
def yX6_isSheet : MethodName := ⟨RX6, "isSheet", "(I)Z"⟩
abbrev cX6_isLane : ByteArray := prog_1_method_43_code
def yX6_isLane : MethodName := ⟨RX6, "isLane", "(I)Z"⟩
abbrev cX6_foretellAll : ByteArray := prog_1_method_44_code
def yX6_foretellAll : MethodName := ⟨RX6, "foretellAll", "(I)V"⟩
abbrev cX6_foretellOne : ByteArray := prog_1_method_45_code
def yX6_foretellOne : MethodName := ⟨RX6, "foretellOne", "(II)V"⟩
abbrev cX6_firstOther : ByteArray := prog_1_method_46_code
def yX6_firstOther : MethodName := ⟨RX6, "firstOther", "(II)I"⟩
abbrev cX6_keepsItsOwn : ByteArray := prog_1_method_47_code
def yX6_keepsItsOwn : MethodName := ⟨RX6, "keepsItsOwn", "(III)Z"⟩
abbrev cX6_forgedOn : ByteArray := prog_1_method_48_code
def yX6_forgedOn : MethodName := ⟨RX6, "forgedOn", "(IIII)I"⟩
abbrev cX6_weathersThatEndIn : ByteArray := prog_1_method_49_code
def yX6_weathersThatEndIn : MethodName := ⟨RX6, "weathersThatEndIn", "(III)I"⟩
abbrev cX6_fewestExchanges : ByteArray := prog_1_method_50_code
def yX6_fewestExchanges : MethodName := ⟨RX6, "fewestExchanges", "(IIII)I"⟩
abbrev cX6_isExchange : ByteArray := prog_1_method_51_code
def yX6_isExchange : MethodName := ⟨RX6, "isExchange", "(I)Z"⟩
abbrev cX6_endsSo : ByteArray := prog_1_method_52_code
def yX6_endsSo : MethodName := ⟨RX6, "endsSo", "(IIIIII)Z"⟩
abbrev cX6_wasTriedInVain : ByteArray := prog_1_method_53_code
def yX6_wasTriedInVain : MethodName := ⟨RX6, "wasTriedInVain", "(I)Z"⟩
abbrev cX6_nextJoined : ByteArray := prog_1_method_54_code
def yX6_nextJoined : MethodName := ⟨RX6, "nextJoined", "(I)I"⟩
abbrev cX6_changesTo : ByteArray := prog_1_method_55_code
def yX6_changesTo : MethodName := ⟨RX6, "changesTo", "(II)I"⟩
abbrev cX6_arePapers : ByteArray := prog_1_method_56_code
def yX6_arePapers : MethodName := ⟨RX6, "arePapers", "(III)Z"⟩
abbrev cX6_areOnTrail : ByteArray := prog_1_method_57_code
def yX6_areOnTrail : MethodName := ⟨RX6, "areOnTrail", "(III)Z"⟩
def RX7 : String := "CaughtHandModel"
def TX7 : u_T := fun k => match k with
  | 0 => ("CaughtHandModel", "w", "[I", true)
  | 1 => ("CaughtHandModel", "isImage", "Z", false)
  | 2 => ("CaughtHandModel", "tape", "[I", true)
  | 3 => ("CaughtHandModel", "tapeSize", "I", false)
  | 4 => ("CaughtHandModel", "read", "I", false)
  | 5 => ("CaughtHandModel", "wrong", "Z", false)
  | 6 => ("CaughtHandModel", "told", "[I", true)
  | 7 => ("CaughtHandModel", "toldMany", "I", false)
  | 8 => ("CaughtHandModel", "toldWeather", "I", false)
  | 9 => ("CaughtHandModel", "wrote", "[I", true)
  | 10 => ("CaughtHandModel", "items", "[J", true)
  | 11 => ("CaughtHandModel", "laneOf", "[I", true)
  | 12 => ("CaughtHandModel", "size", "[I", true)
  | _ => ("CaughtHandModel", "taken", "[J", true)
def tyX7 : Nat → FieldType := fun k => match k with
  | 0 => .array .int
  | 1 => .boolean
  | 2 => .array .int
  | 3 => .int
  | 4 => .int
  | 5 => .boolean
  | 6 => .array .int
  | 7 => .int
  | 8 => .int
  | 9 => .array .int
  | 10 => .array .long
  | 11 => .array .int
  | 12 => .array .int
  | _ => .array .long
abbrev wsX70 : List Cond := u_ws RX7 TX7 14
theorem nmX7 : ∀ a, a < 14 → ∀ b, b < 14 → a ≠ b → (TX7 a).2.1 ≠ (TX7 b).2.1 := by decide +kernel
theorem tyX7_ok : ∀ k, k < 14 → parseFieldDescriptor (TX7 k).2.2.1 = some (tyX7 k) := by decide +kernel
abbrev cX7_init : ByteArray := prog_9_method_1_code
def yX7_init : MethodName := ⟨RX7, "<init>", "()V"⟩
abbrev cX7_in : ByteArray := prog_9_method_3_code
def yX7_in : MethodName := ⟨RX7, "in", "(JJJ)Z"⟩
abbrev cX7_one : ByteArray := prog_9_method_4_code
def yX7_one : MethodName := ⟨RX7, "one", "(Z)I"⟩
abbrev cX7_has : ByteArray := prog_9_method_5_code
def yX7_has : MethodName := ⟨RX7, "has", "(II)Z"⟩
abbrev cX7_ones : ByteArray := prog_9_method_6_code
def yX7_ones : MethodName := ⟨RX7, "ones", "(I)I"⟩
abbrev cX7_common : ByteArray := prog_9_method_7_code
def yX7_common : MethodName := ⟨RX7, "common", "(II)I"⟩
abbrev cX7_isPerson : ByteArray := prog_9_method_8_code
def yX7_isPerson : MethodName := ⟨RX7, "isPerson", "(I)Z"⟩
abbrev cX7_isChair : ByteArray := prog_9_method_9_code
def yX7_isChair : MethodName := ⟨RX7, "isChair", "(I)Z"⟩
abbrev cX7_figure : ByteArray := prog_9_method_10_code
def yX7_figure : MethodName := ⟨RX7, "figure", "(II)I"⟩
abbrev cX7_isPaper : ByteArray := prog_9_method_11_code
def yX7_isPaper : MethodName := ⟨RX7, "isPaper", "(J)Z"⟩
abbrev cX7_written : ByteArray := prog_9_method_12_code
def yX7_written : MethodName := ⟨RX7, "written", "(I)I"⟩
abbrev cX7_sitsOn : ByteArray := prog_9_method_13_code
def yX7_sitsOn : MethodName := ⟨RX7, "sitsOn", "(II)I"⟩
abbrev cX7_add : ByteArray := prog_9_method_14_code
def yX7_add : MethodName := ⟨RX7, "add", "(IIII)V"⟩
abbrev cX7_person : ByteArray := prog_9_method_15_code
def yX7_person : MethodName := ⟨RX7, "person", "(IIII)I"⟩
abbrev cX7_tills : ByteArray := prog_9_method_16_code
def yX7_tills : MethodName := ⟨RX7, "tills", "(I)I"⟩
abbrev cX7_lastsOf : ByteArray := prog_9_method_17_code
def yX7_lastsOf : MethodName := ⟨RX7, "lastsOf", "(II)I"⟩
abbrev cX7_of : ByteArray := prog_9_method_18_code
def yX7_of : MethodName := ⟨RX7, "of", "(II)I"⟩
abbrev cX7_till : ByteArray := prog_9_method_19_code
def yX7_till : MethodName := ⟨RX7, "till", "(II)I"⟩
abbrev cX7_exchange : ByteArray := prog_9_method_20_code
def yX7_exchange : MethodName := ⟨RX7, "exchange", "(III)V"⟩
abbrev cX7_sit : ByteArray := prog_9_method_21_code
def yX7_sit : MethodName := ⟨RX7, "sit", "(II)I"⟩
abbrev cX7_at : ByteArray := prog_9_method_22_code
def yX7_at : MethodName := ⟨RX7, "at", "(I)I"⟩
abbrev cX7_dry : ByteArray := prog_9_method_23_code
def yX7_dry : MethodName := ⟨RX7, "dry", "(II)I"⟩
abbrev cX7_become : ByteArray := prog_9_method_24_code
def yX7_become : MethodName := ⟨RX7, "become", "(II)I"⟩
abbrev cX7_weather : ByteArray := prog_9_method_25_code
def yX7_weather : MethodName := ⟨RX7, "weather", "(I)I"⟩
abbrev cX7_lasting : ByteArray := prog_9_method_26_code
def yX7_lasting : MethodName := ⟨RX7, "lasting", "(I)I"⟩
abbrev cX7_type : ByteArray := prog_9_method_27_code
def yX7_type : MethodName := ⟨RX7, "type", "(I)I"⟩
abbrev cX7_here : ByteArray := prog_9_method_28_code
def yX7_here : MethodName := ⟨RX7, "here", "()I"⟩
abbrev cX7_need : ByteArray := prog_9_method_29_code
def yX7_need : MethodName := ⟨RX7, "need", "(Z)V"⟩
abbrev cX7_kindOf : ByteArray := prog_9_method_30_code
def yX7_kindOf : MethodName := ⟨RX7, "kindOf", "(I)I"⟩
abbrev cX7_readPerson : ByteArray := prog_9_method_31_code
def yX7_readPerson : MethodName := ⟨RX7, "readPerson", "()V"⟩
abbrev cX7_readWeather : ByteArray := prog_9_method_32_code
def yX7_readWeather : MethodName := ⟨RX7, "readWeather", "()V"⟩
abbrev cX7_readOffice : ByteArray := prog_9_method_33_code
def yX7_readOffice : MethodName := ⟨RX7, "readOffice", "()V"⟩
abbrev cX7_office : ByteArray := prog_9_method_34_code
def yX7_office : MethodName := ⟨RX7, "office", "()I"⟩
abbrev cX7_allTills : ByteArray := prog_9_method_35_code
def yX7_allTills : MethodName := ⟨RX7, "allTills", "()I"⟩
abbrev cX7_count : ByteArray := prog_9_method_36_code
def yX7_count : MethodName := ⟨RX7, "count", "(I)I"⟩
abbrev cX7_ownAgain : ByteArray := prog_9_method_37_code
def yX7_ownAgain : MethodName := ⟨RX7, "ownAgain", "(I)V"⟩
abbrev cX7_isDry : ByteArray := prog_9_method_38_code
def yX7_isDry : MethodName := ⟨RX7, "isDry", "(II)Z"⟩
abbrev cX7_looksAt : ByteArray := prog_9_method_39_code
def yX7_looksAt : MethodName := ⟨RX7, "looksAt", "(II)I"⟩
abbrev cX7_takes : ByteArray := prog_9_method_40_code
def yX7_takes : MethodName := ⟨RX7, "takes", "(II)I"⟩
abbrev cX7_pass : ByteArray := prog_9_method_41_code
def yX7_pass : MethodName := ⟨RX7, "pass", "(IZ)I"⟩
abbrev cX7_isWet : ByteArray := prog_9_method_42_code
def yX7_isWet : MethodName := ⟨RX7, "isWet", "(I)Z"⟩
abbrev cX7_remember : ByteArray := prog_9_method_43_code
def yX7_remember : MethodName := ⟨RX7, "remember", "()V"⟩
abbrev cX7_refusedDays : ByteArray := prog_9_method_44_code
def yX7_refusedDays : MethodName := ⟨RX7, "refusedDays", "(I)I"⟩
abbrev cX7_days : ByteArray := prog_9_method_45_code
def yX7_days : MethodName := ⟨RX7, "days", "(I)I"⟩
abbrev cX7_drift : ByteArray := prog_9_method_46_code
def yX7_drift : MethodName := ⟨RX7, "drift", "(I)I"⟩
abbrev cX7_undo : ByteArray := prog_9_method_47_code
def yX7_undo : MethodName := ⟨RX7, "undo", "()I"⟩
abbrev cX7_seed : ByteArray := prog_9_method_48_code
def yX7_seed : MethodName := ⟨RX7, "seed", "(I)I"⟩
abbrev cX7_begin : ByteArray := prog_9_method_49_code
def yX7_begin : MethodName := ⟨RX7, "begin", "()V"⟩
abbrev cX7_goOn : ByteArray := prog_9_method_50_code
def yX7_goOn : MethodName := ⟨RX7, "goOn", "(I)V"⟩
abbrev cX7_isLong : ByteArray := prog_9_method_51_code
def yX7_isLong : MethodName := ⟨RX7, "isLong", "(I)Z"⟩
abbrev cX7_writesNow : ByteArray := prog_9_method_52_code
def yX7_writesNow : MethodName := ⟨RX7, "writesNow", "(I)I"⟩
abbrev cX7_ownOf : ByteArray := prog_9_method_53_code
def yX7_ownOf : MethodName := ⟨RX7, "ownOf", "(I)I"⟩
abbrev cX7_writes : ByteArray := prog_9_method_54_code
def yX7_writes : MethodName := ⟨RX7, "writes", "(II)I"⟩
abbrev cX7_cheque : ByteArray := prog_9_method_55_code
def yX7_cheque : MethodName := ⟨RX7, "cheque", "(I)I"⟩
abbrev cX7_like : ByteArray := prog_9_method_56_code
def yX7_like : MethodName := ⟨RX7, "like", "(II)I"⟩
abbrev cX7_out : ByteArray := prog_9_method_57_code
def yX7_out : MethodName := ⟨RX7, "out", "(III)I"⟩
abbrev cX7_writesBy : ByteArray := prog_9_method_58_code
def yX7_writesBy : MethodName := ⟨RX7, "writesBy", "(IIIIII)Z"⟩
abbrev cX7_isExchange : ByteArray := prog_9_method_59_code
def yX7_isExchange : MethodName := ⟨RX7, "isExchange", "(I)Z"⟩
abbrev cX7_seatsBy : ByteArray := prog_9_method_60_code
def yX7_seatsBy : MethodName := ⟨RX7, "seatsBy", "(IIII)I"⟩
abbrev cX7_seats : ByteArray := prog_9_method_61_code
def yX7_seats : MethodName := ⟨RX7, "seats", "(IIIII)I"⟩
abbrev cX7_who : ByteArray := prog_9_method_62_code
def yX7_who : MethodName := ⟨RX7, "who", "(II)I"⟩
abbrev cX7_likely : ByteArray := prog_9_method_63_code
def yX7_likely : MethodName := ⟨RX7, "likely", "(IIII)I"⟩
abbrev cX7_most : ByteArray := prog_9_method_64_code
def yX7_most : MethodName := ⟨RX7, "most", "(III)I"⟩
abbrev cX7_staysOwn : ByteArray := prog_9_method_65_code
def yX7_staysOwn : MethodName := ⟨RX7, "staysOwn", "(III)Z"⟩
abbrev cX7_dryOut : ByteArray := prog_9_method_66_code
def yX7_dryOut : MethodName := ⟨RX7, "dryOut", "(II)I"⟩
abbrev cX7_forger : ByteArray := prog_9_method_67_code
def yX7_forger : MethodName := ⟨RX7, "forger", "(IIII)I"⟩
abbrev cX7_ownIn : ByteArray := prog_9_method_68_code
def yX7_ownIn : MethodName := ⟨RX7, "ownIn", "(II)I"⟩
abbrev cX7_two : ByteArray := prog_9_method_69_code
def yX7_two : MethodName := ⟨RX7, "two", "(II)I"⟩
abbrev cX7_changes : ByteArray := prog_9_method_70_code
def yX7_changes : MethodName := ⟨RX7, "changes", "(II)I"⟩
abbrev cX7_tree : ByteArray := prog_9_method_71_code
def yX7_tree : MethodName := ⟨RX7, "tree", "()I"⟩
abbrev cX7_signature : ByteArray := prog_9_method_72_code
def yX7_signature : MethodName := ⟨RX7, "signature", "(I)I"⟩
abbrev cX7_image : ByteArray := prog_9_method_73_code
def yX7_image : MethodName := ⟨RX7, "image", "()I"⟩
abbrev cX7_restore : ByteArray := prog_9_method_74_code
def yX7_restore : MethodName := ⟨RX7, "restore", "()I"⟩
abbrev cX7_isSheet : ByteArray := prog_9_method_75_code
def yX7_isSheet : MethodName := ⟨RX7, "isSheet", "(I)Z"⟩
abbrev cX7_cut : ByteArray := prog_9_method_76_code
def yX7_cut : MethodName := ⟨RX7, "cut", "(IJ)J"⟩
abbrev cX7_areThere : ByteArray := prog_9_method_77_code
def yX7_areThere : MethodName := ⟨RX7, "areThere", "(III)Z"⟩
abbrev cX7_refusedRow : ByteArray := prog_9_method_78_code
def yX7_refusedRow : MethodName := ⟨RX7, "refusedRow", "(IIII)I"⟩
abbrev cX7_arePapers : ByteArray := prog_9_method_79_code
def yX7_arePapers : MethodName := ⟨RX7, "arePapers", "(III)Z"⟩
abbrev cX7_lastsSo : ByteArray := prog_9_method_80_code
def yX7_lastsSo : MethodName := ⟨RX7, "lastsSo", "(IIIII)Z"⟩
abbrev cX7_lasted : ByteArray := prog_9_method_81_code
def yX7_lasted : MethodName := ⟨RX7, "lasted", "(IIIII)I"⟩
abbrev cX7_film : ByteArray := prog_9_method_82_code
def yX7_film : MethodName := ⟨RX7, "film", "(IIIII)I"⟩
abbrev cX7_sheet : ByteArray := prog_9_method_83_code
def yX7_sheet : MethodName := ⟨RX7, "sheet", "(III)I"⟩
abbrev cX7_drop : ByteArray := prog_9_method_84_code
def yX7_drop : MethodName := ⟨RX7, "drop", "(I)I"⟩
abbrev cX7_item : ByteArray := prog_9_method_85_code
def yX7_item : MethodName := ⟨RX7, "item", "(IIIJ)I"⟩
abbrev cX7_copy : ByteArray := prog_9_method_86_code
def yX7_copy : MethodName := ⟨RX7, "copy", "(IIIII)I"⟩
abbrev vwCl : List vw_C := [(RX0, TX0, 3), (RX1, TX1, 14), (RX2, TX2, 3), (RX3, TX3, 3), (RX5, TX5, 3), (RX6, TX6, 11), (RX7, TX7, 14)]
theorem inX0 : ∀ w ∈ wsX00, w ∈ lw_tbl := by decide +kernel
theorem inX1 : ∀ w ∈ wsX10, w ∈ lw_tbl := by decide +kernel
theorem inX2 : ∀ w ∈ wsX20, w ∈ lw_tbl := by decide +kernel
theorem inX3 : ∀ w ∈ wsX30, w ∈ lw_tbl := by decide +kernel
theorem inX4 : ∀ w ∈ wsX40, w ∈ lw_tbl := by decide +kernel
theorem inX5 : ∀ w ∈ wsX50, w ∈ lw_tbl := by decide +kernel
theorem inX6 : ∀ w ∈ wsX60, w ∈ lw_tbl := by decide +kernel
theorem inX7 : ∀ w ∈ wsX70, w ∈ lw_tbl := by decide +kernel
