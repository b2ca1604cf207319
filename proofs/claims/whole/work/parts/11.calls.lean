/-! calls; the small machine's runs are the machine's -/
theorem mj_AOA_spec {args : Array Value} {first s : State} {o : Option Outcome} {idx : List Nat} {t : FieldType} (h : (Jvm.Cond.arrayOver (.array t)).holds args first o s idx = true) :
    ∃ comp c k, s.vm.findClass (FieldType.array t).toString = some comp ∧ (s.vm.classes.findIdx? fun (x : Class) => match x.kind with | .array component _ => component == comp | _ => false) = some c ∧ s.vm.classes[c]? = some k ∧ k.kind = .array comp (.array t) ∧ s.vm.findClass ("[" ++ (FieldType.array t).toString) = some c := by
  simp only [Jvm.Cond.holds, Jvm.Cond.value, beq_iff_eq] at h
  cases hc : s.vm.findClass (FieldType.array t).toString with
  | none => simp [hc] at h
  | some comp =>
    simp only [hc, Option.bind_some, Option.bind_eq_some_iff, Option.map_eq_some_iff] at h
    obtain ⟨c, hi, k, hk, hb⟩ := h
    obtain ⟨hlt, hp, -⟩ := Array.findIdx?_eq_some_iff_getElem.mp hi
    have hkk : s.vm.classes[c] = k := (Array.getElem?_eq_some_iff.mp hk).2
    rw [hkk] at hp
    cases hkind : k.kind with
    | array component ty =>
      rw [hkind] at hb hp
      simp at hb hp
      exact ⟨comp, c, k, rfl, hi, hk, by rw [hkind, hp, hb.1], hb.2⟩
    | _ => rw [hkind] at hb; simp at hb
theorem mj_idx_bare (vm : Vm) (comp : ClassId) : (vm.bare.classes.findIdx? fun (x : Class) => match x.kind with | .array component _ => component == comp | _ => false) = (vm.classes.findIdx? fun (x : Class) => match x.kind with | .array component _ => component == comp | _ => false) := by
  simp only [Vm.bare, Array.findIdx?_map]
  rfl
theorem mj_AOA.moved {u U : State} (hvm : u.vm.Alike U.vm) (h : mj_AOA u) : mj_AOA U := by
  obtain ⟨comp, c, k, h1, h2, h3, h4, h5⟩ := mj_AOA_spec (t := .long) h
  obtain ⟨k', hk', he⟩ := hvm.2.2 _ _ h3
  have hi : (U.vm.classes.findIdx? fun (x : Class) => match x.kind with | .array component _ => component == comp | _ => false) = some c := by
    rw [← mj_idx_bare]
    first | rw [hvm.bare_eq] | rw [← hvm.bare_eq]
    rw [mj_idx_bare]
    exact h2
  have hkind : k'.kind = .array comp (.array .long) := by rw [he]; exact h4
  have f1 : U.vm.findClass (FieldType.array .long).toString = some comp := by rw [hvm.findClass]; exact h1
  have f2 : U.vm.findClass ("[" ++ (FieldType.array .long).toString) = some c := by rw [hvm.findClass]; exact h5
  unfold mj_AOA Jvm.Cond.before Jvm.Cond.holds
  simp only [Jvm.Cond.value]
  rw [f1, Option.bind_some]
  refine (congrArg (fun o : Option Nat => (o.bind (fun c => (U.vm.classes[c]?).map fun (k : Class) => match k.kind with | .array _ ty => decide (ty = FieldType.array .long) && decide (U.vm.findClass ("[" ++ (FieldType.array .long).toString) = some c) | _ => false) == some true)) hi).trans ?_
  simp [hk', hkind, f2]
theorem mj_St.go {ad : Nat → Nat} {A B : Nat → Prop} {s U : State} (hW : s.WarmedH U.vm) (h : mj_St ad A s) (hq : ∀ x : Nat, x < s.heap.size → ¬ A x → U.heap[x]? = s.heap[x]?) (hAB : ∀ x, B x → A x) : mj_St ad B U := by
  obtain ⟨h1, h2, h3, h4, ⟨adV, h5⟩, h6⟩ := h
  exact ⟨fun q hqq => (h1 q hqq).warmM hW, h2.moved hW.alike, h3.moved hW.alike, h4.warm hW, ⟨adV, ((h5.moved hW.alike).kept hq).narrow hAB⟩, ((h6.moved hW.alike).kept hq).narrow hAB⟩
theorem mj_St.blind {ad : Nat → Nat} {A : Nat → Prop} {U : State} {g : JFrame} {mk : MethodId} {a : Array Value} (h : mj_St ad A U) : mj_St ad A (U.calling g mk a) := by
  obtain ⟨h1, h2, h3, h4, ⟨adV, h5⟩, h6⟩ := h
  have hv : (U.calling g mk a).vm = U.vm := rfl
  exact ⟨fun q hqq => (h1 q hqq).same rfl rfl, h2.moved (u := U) (U := U.calling g mk a) (Vm.Alike.refl U.vm), h3.moved (u := U) (U := U.calling g mk a) (Vm.Alike.refl U.vm), h4.same (u := U) (U := U.calling g mk a) rfl, ⟨adV, h5.moved (u := U) (U := U.calling g mk a) (Vm.Alike.refl U.vm)⟩, h6.moved (u := U) (U := U.calling g mk a) (Vm.Alike.refl U.vm)⟩
theorem mj_Rp.moved {D : va_G} {A : Nat → Prop} {u U : State} {ad : Nat → Nat} {w : mjW} {H : Heap} (hvm : u.vm.Alike U.vm) (h : mj_Rp D A u ad w H) : mj_Rp D A U ad w H := by
  obtain ⟨ca, tys, hK, hP, hD, hT⟩ := h
  exact ⟨ca, tys, va_K.moved hvm hK, hP, hD, hT⟩
def mj_A (ad : Nat → Nat) (n sz : Nat) : Nat → Prop := fun x => (∃ h, h < n ∧ ad h = x) ∨ sz ≤ x
theorem mj_Rp.self {D : va_G} {A : Nat → Prop} {s : State} {ad : Nat → Nat} {w : mjW} {H : Heap} (h : mj_Rp D A s ad w H) (sz : Nat) : mj_Rp D (mj_A ad w.1.length sz) s ad w H ∧ ∀ x, (∃ h, h < w.1.length ∧ ad h = x) → A x := by
  obtain ⟨ca, tys, hK, hP, hD, hT⟩ := h
  refine ⟨⟨ca, tys, hK, hP, ⟨hD.1, fun k x hx => ?_⟩, hT⟩, fun x hx => ?_⟩
  · have hk : k < w.1.length := by
      have := (List.getElem?_eq_some_iff.mp hx).1
      rwa [mj_ws_len] at this
    rw [mj_ws_at hk] at hx
    cases hx
    exact Or.inl ⟨k, hk, rfl⟩
  · obtain ⟨k, hk, rfl⟩ := hx
    exact hD.2 k _ (mj_ws_at hk)
theorem mj_Rp.weak {D : va_G} {A B : Nat → Prop} {s : State} {ad : Nat → Nat} {w : mjW} {H : Heap} (h : mj_Rp D A s ad w H) (hAB : ∀ x, A x → B x) : mj_Rp D B s ad w H := by
  obtain ⟨ca, tys, hK, hP, hD, hT⟩ := h
  exact ⟨ca, tys, hK, hP, ⟨hD.1, fun k x hx => hAB _ (hD.2 k x hx)⟩, hT⟩
/-- a return instruction stands at pc, fit for r -/
def mj_rd (y pc : Nat) (r : Option Value) : Prop := match r with
  | none => decode (mj_b y) pc = .ok (.return_, 1) ∧ mj_ret y = none
  | some (.int v) => decode (mj_b y) pc = .ok (.ireturn, 1) ∧ (mj_ret y = some .int ∨ (mj_ret y = some .boolean ∧ (v = 0 ∨ v = 1)))
  | some (.long _) => decode (mj_b y) pc = .ok (.lreturn, 1) ∧ mj_ret y = some .long
  | _ => False
def mj_Wk (l : Launch) (D : va_G) (y pc : Nat) (L : mjL) (st : List Value) (w : mjW) (c q : Nat) (w' : mjW) (r : Option Value) : Prop :=
  ∀ (p : Program) (e0 : Env) (R : Room) (s : State) (m : MethodId) (args : Array Value) (below : List Frame) (meth : Method) (cd : Code) (Q : State → Prop) (ad : Nat → Nat) (A : Nat → Prop) (H : Heap) (locs : List Loc) (ls : Array Slot),
    mj_Cx y p R s m args meth cd ad A → mj_Rp D A s ad w H → va_S A s.heap H locs → mj_ls ad ls L → L.length = mj_ml y → c ≤ mj_mc y → q ≤ mj_ms y →
    (∀ (ad1 : Nat → Nat) (H1 : Heap) (locs1 : List Loc) (pc1 : Nat) (ls1 : Array Slot) (c1 q1 : Nat), (mj_mc y = 0 → ad1 = ad) → (∀ h : Nat, h < w.1.length ∨ h = 1000 → ad1 h = ad h) → mj_Rp D A s ad1 w' H1 → va_S A s.heap H1 locs1 → c1 ≤ mj_mc y → q1 ≤ mj_ms y → mj_rd y pc1 r → W p l e0 R s m args below meth cd H1 locs1 c1 q1 Q (F0 m pc1 ls1 ((r.map (mj_v ad1)).toList))) →
    W p l e0 R s m args below meth cd H locs c q Q (F0 m pc ls (st.map (mj_v ad)))
def mj_Pc (D : va_G) (ad : Nat → Nat) (w : mjW) (sz : Nat) (as : List Value) : Array Value → State → Prop := va_Pc (as.map (mj_v ad)) (fun U => U.heap.size = sz ∧ mj_Rp D (mj_A ad w.1.length sz) U ad w U.heap ∧ mj_St ad (mj_A ad w.1.length sz) U)
def mj_Qc (D : va_G) (B : Nat → Prop) (ad : Nat → Nat) (n mc0 : Nat) (w' : mjW) (r : Option Value) : Array Value → State → Outcome → State → Prop := fun _ st oc t => (∃ ad' : Nat → Nat, (mc0 = 0 → ad' = ad) ∧ (∀ h : Nat, h < n ∨ h = 1000 → ad' h = ad h) ∧ oc = .returned (r.map (mj_v ad')) ∧ mj_Rp D B t ad' w' t.heap) ∧ va_F B st t
noncomputable def mj_wsz (z : Nat) : List Jvm.Cond := .code (mj_nm z) (mj_b z) (mj_ml z) (mj_ret z) :: mj_T
theorem mj_flat_len (ad : Nat → Nat) (as : List Value) : (lg_sl (as.map (mj_v ad))).length = (mj_flat as).length := by
  induction as with
  | nil => rfl
  | cons v as ih =>
    simp only [lg_sl, mj_flat, List.map_cons, List.flatMap_cons, List.length_append] at ih ⊢
    rw [ih, mj_v_cat]
    split <;> rfl
theorem mj_flat_args (ad : Nat → Nat) : ∀ (as : List Value) (k i : Nat) (v : Value), (mj_flat as)[i]? = some (some v) → (k + i, mj_v ad v) ∈ lv_args k (as.map (mj_v ad))
  | [], k, i, v, h => by simp [mj_flat] at h
  | u :: as, k, i, v, h => by
    simp only [mj_flat, List.flatMap_cons] at h
    rw [List.map_cons, lv_args, mj_v_cat]
    by_cases hc : u.category = 2
    · rw [if_pos hc] at h ⊢
      match i, h with
      | 0, h => cases h; exact List.mem_cons_self
      | 1, h => cases h
      | i + 2, h =>
        have := mj_flat_args ad as (k + 2) i v h
        rw [show k + (i + 2) = k + 2 + i by omega]
        exact List.mem_cons_of_mem _ this
    · rw [if_neg hc] at h ⊢
      match i, h with
      | 0, h => cases h; exact List.mem_cons_self
      | i + 1, h =>
        have := mj_flat_args ad as (k + 1) i v h
        rw [show k + (i + 1) = k + 1 + i by omega]
        exact List.mem_cons_of_mem _ this
theorem mj_entry_len {z : Nat} {as : List Value} (h : (mj_flat as).length ≤ mj_ml z) : (mj_entry z as).length = mj_ml z := by
  simp [mj_entry]; omega
theorem mj_entry_ls {z : Nat} {ad : Nat → Nat} {as : List Value} {ls : Array Slot} (hle : (mj_flat as).length ≤ mj_ml z) (h : lv_has ls (mj_ml z) (lv_args 0 (as.map (mj_v ad)))) : mj_ls ad ls (mj_entry z as) := by
  refine ⟨by rw [mj_entry_len hle]; exact h.1, h.2.1, fun i v hi => ?_⟩
  by_cases h1 : i < (mj_flat as).length
  · rw [mj_entry, List.getElem?_append_left h1] at hi
    have := mj_flat_args ad as 0 i v hi
    rw [Nat.zero_add] at this
    exact h.2.2 _ this
  · rw [mj_entry, List.getElem?_append_right (by omega), List.getElem?_replicate] at hi
    split at hi <;> cases hi
theorem mj_code_before {z : Nat} {args : Array Value} {s : State} (hm : mj_mok z = true) (hts : ∀ w ∈ mj_T, w.before args s = true) : (Jvm.Cond.code (mj_nm z) (mj_b z) (mj_ml z) (mj_ret z)).before args s = true := by
  simp only [mj_mok, Bool.and_eq_true] at hm
  exact mj_w1_T hts hm.1.1.1.1 rfl
set_option maxHeartbeats 4000000 in
theorem mj_met {l : Launch} {D : va_G} {z : Nat} {as : List Value} {w w' : mjW} {r : Option Value} (hm : mj_mok z = true) (hle : (mj_flat as).length ≤ mj_ml z) (hW : mj_Wk l D z 0 (mj_entry z as) [] w 0 0 w' r) (ad : Nat → Nat) (sz : Nat) :
    Met l (mj_nm z) (mj_wsz z) (mj_rm z) (mj_Pc D ad w sz as) (mj_Qc D (mj_A ad w.1.length sz) ad w.1.length (mj_mc z) w' r) (mj_mc z) (mj_ms z) (mj_A ad w.1.length sz) := by
  have hm' := hm
  simp only [mj_mok, Bool.and_eq_true] at hm'
  refine Met.ofW (cc := mj_b z) (maxL := mj_ml z) (ret := mj_ret z) hm'.1.1.2 rfl ?_
  intro p e s m args below meth c s₁ B hml hv
  obtain ⟨rfl, hsz, hR, hSt⟩ := hv
  have hx := B.exec
  have hb := B.bytes
  have hr := B.returns
  have hts0 := atoms_spec (ws := mj_wsz z) B.pre
  have hts : ∀ w ∈ mj_T, w.before (as.map (mj_v ad)).toArray s = true := fun w hw => hts0 w (List.mem_cons_of_mem _ hw)
  have hown : s.vm.findClass (mj_own z) = some m.cls := findClass_of_methodNamed B.named
  have hlocks := B.notSynchronized
  have hin : meth.name = (mj_nm z).name := (name_of_methodNamed B.named B.method).1
  subst hsz
  have hl := lv_entry (as.map (mj_v ad)) (n := mj_ml z) (by rw [mj_flat_len]; exact hle)
  rw [lg_entry_eq]
  have hls := mj_entry_ls hle hl
  refine hW p e (mj_rm z) s m _ below meth c _ ad (mj_A ad w.1.length s.heap.size) s.heap [] _ ⟨hx, hb, hml, hown, hts, hin, hr, hlocks, rfl, hSt, fun x hx => Or.inr hx⟩ hR va_S.rf hls (mj_entry_len hle) (Nat.zero_le _) (Nat.zero_le _) ?_
  intro ad1 H1 locs1 pc1 ls1 c1 q1 h1 h2 h3 h4 h5 h6 h7
  refine W.widen (k := mj_mc z) (n := mj_ms z) h5 h6 ?_
  have key : ∀ t : State, t.heap = H1 → s.WarmedH t.vm → mj_Qc D (mj_A ad w.1.length s.heap.size) ad w.1.length (mj_mc z) w' r (as.map (mj_v ad)).toArray s (.returned (r.map (mj_v ad1))) t := fun t ht hW1 => ⟨⟨ad1, h1, h2, rfl, by rw [ht]; exact mj_Rp.moved hW1.alike h3⟩, h4.F ht⟩
  cases r with
  | none => exact W.vret hx hb (hr.trans h7.2) key h4.2.2 h7.1
  | some v =>
    cases v with
    | int v =>
      rcases h7 with ⟨g1, g2 | ⟨g2, g3⟩⟩
      · exact W.iret (v := v) hx hb (hr.trans g2) key h4.2.2 g1
      · exact W.zret (v := v) (ty := .boolean) hx hb (hr.trans g2) (by rcases g3 with rfl | rfl <;> decide) key h4.2.2 g1
    | long v => exact W.lret (v := v) hx hb (hr.trans h7.2) key h4.2.2 h7.1
    | _ => exact absurd h7 (fun z => z)
