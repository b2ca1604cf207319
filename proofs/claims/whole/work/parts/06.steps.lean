/-! each plain instruction, over the machine -/
def mj_Cx (y : Nat) (p : Program) (R : Room) (s : State) (m : MethodId) (args : Array Value) (meth : Method) (cd : Code) (ad : Nat → Nat) (A : Nat → Prop) : Prop :=
  p.tables.exec = Jvm.exec ∧ cd.code = mj_b y ∧ cd.maxLocals = mj_ml y ∧ s.vm.findClass (mj_own y) = some m.cls ∧ (∀ w ∈ mj_T, w.before args s = true) ∧ meth.name = (mj_nm y).name ∧ meth.sig.returnType = mj_ret y ∧ meth.locks = false ∧ R = mj_rm y ∧ mj_St ad A s ∧ (∀ x : Nat, s.heap.size ≤ x → A x)
def mj_Nx (l : Launch) (D : va_G) (y : Nat) (p : Program) (e : Env) (R : Room) (s : State) (m : MethodId) (args : Array Value) (below : List Frame) (meth : Method) (cd : Code) (Q : State → Prop) (ad : Nat → Nat) (A : Nat → Prop) (nW : Nat) (C : mjC) : Prop :=
  ∀ (ad1 : Nat → Nat) (H1 : Heap) (locs1 : List Loc) (ls1 : Array Slot), (mj_mc y = 0 → ad1 = ad) → (∀ h : Nat, h < nW ∨ h = 1000 → ad1 h = ad h) → mj_Rp D A s ad1 C.2.2.2.1 H1 → va_S A s.heap H1 locs1 → mj_ls ad1 ls1 C.2.1 → C.2.1.length = mj_ml y → C.2.2.2.2.1 ≤ mj_mc y → C.2.2.2.2.2 ≤ mj_ms y →
    W p l e R s m args below meth cd H1 locs1 C.2.2.2.2.1 C.2.2.2.2.2 Q (F0 m C.1 ls1 (C.2.2.1.map (mj_v ad1)))
noncomputable def mj_as (ad : Nat → Nat) (L : mjL) : List (Nat × Value) := (List.range L.length).filterMap fun i => (L.getD i none).map fun v => (i, mj_v ad v)
theorem mj_as_mem {ad : Nat → Nat} {L : mjL} {i : Nat} {v : Value} (h : L[i]? = some (some v)) : (i, mj_v ad v) ∈ mj_as ad L := by
  refine List.mem_filterMap.mpr ⟨i, List.mem_range.mpr (List.getElem?_eq_some_iff.mp h).1, ?_⟩
  rw [List.getD_eq_getElem?_getD, h]
  rfl
theorem mj_as_has {ad : Nat → Nat} {ls : Array Slot} {L : mjL} (h : mj_ls ad ls L) : lv_has ls L.length (mj_as ad L) := by
  refine ⟨h.1, h.2.1, fun q hq => ?_⟩
  obtain ⟨i, hi, he⟩ := List.mem_filterMap.mp hq
  cases hL : L.getD i none with
  | none => rw [hL] at he; cases he
  | some v =>
    rw [hL] at he
    cases he
    exact h.2.2 i v (mj_getD hL)
theorem mj_nl_some {o : Option Value} {v : Value} (h : mj_nl o = some v) : o = some v ∧ v.category = 1 := by
  unfold mj_nl at h
  split at h
  · cases h
  · cases h
  · next h1 h2 =>
    subst h
    refine ⟨rfl, ?_⟩
    cases v <;> first | rfl | exact absurd rfl (h1 _) | exact absurd rfl (h2 _)
theorem mj_st1_len (L : mjL) (i : Nat) (v : Value) : (mj_st1 L i v).length = L.length := by
  cases i <;> simp [mj_st1]
theorem mj_st2_len (L : mjL) (i : Nat) (v : Value) : (mj_st2 L i v).length = L.length := by
  simp [mj_st2, mj_st1_len]
theorem mj_st1_at {L : mjL} {i j : Nat} {v u : Value} (hi : i < L.length) (h : (mj_st1 L i v)[j]? = some (some u)) : (j = i ∧ u = v) ∨ (j ≠ i ∧ L[j]? = some (some u) ∧ (j + 1 = i → u.category = 1)) := by
  cases i with
  | zero =>
    simp only [mj_st1] at h
    by_cases e : j = 0
    · subst e
      rw [List.getElem?_set_self hi] at h
      cases h
      exact Or.inl ⟨rfl, rfl⟩
    · rw [List.getElem?_set_ne (Ne.symm e)] at h
      exact Or.inr ⟨e, h, fun q => by omega⟩
  | succ k =>
    simp only [mj_st1] at h
    by_cases e : j = k + 1
    · subst e
      rw [List.getElem?_set_self (by simp; exact hi)] at h
      cases h
      exact Or.inl ⟨rfl, rfl⟩
    · rw [List.getElem?_set_ne (Ne.symm e)] at h
      by_cases e2 : j = k
      · subst e2
        rw [List.getElem?_set_self (by omega)] at h
        obtain ⟨h1, h2⟩ := mj_nl_some (Option.some.inj h)
        exact Or.inr ⟨e, mj_getD h1, fun _ => h2⟩
      · rw [List.getElem?_set_ne (Ne.symm e2)] at h
        exact Or.inr ⟨e, h, fun q => by omega⟩
theorem mj_ls_st1 {ad : Nat → Nat} {ls' : Array Slot} {L : mjL} {i : Nat} {x : Value} (hi : i < L.length) (h : lv_has ls' L.length ((i, mj_v ad x) :: (mj_as ad L).filter (fun q => !(q.1 == i) && !(q.1 + 1 == i && q.2.category == 2)))) : mj_ls ad ls' (mj_st1 L i x) := by
  refine ⟨by rw [mj_st1_len]; exact h.1, h.2.1, fun j u hj => ?_⟩
  rcases mj_st1_at hi hj with ⟨rfl, rfl⟩ | ⟨h1, h2, h3⟩
  · exact h.2.2 (j, mj_v ad u) List.mem_cons_self
  · refine h.2.2 (j, mj_v ad u) (List.mem_cons_of_mem _ (List.mem_filter.mpr ⟨mj_as_mem h2, ?_⟩))
    by_cases e : j + 1 = i
    · simp [h1, mj_v_cat, h3 e]
    · simp [h1, e]
theorem mj_ls_st2 {ad : Nat → Nat} {ls' : Array Slot} {L : mjL} {i : Nat} {x : Value} (hi : i + 1 < L.length) (h : lv_has ls' L.length ((i, mj_v ad x) :: (mj_as ad L).filter (fun q => !(q.1 == i) && (!(q.1 == i + 1) && !(q.1 + 1 == i && q.2.category == 2))))) : mj_ls ad ls' (mj_st2 L i x) := by
  refine ⟨by rw [mj_st2_len]; exact h.1, h.2.1, fun j u hj => ?_⟩
  unfold mj_st2 at hj
  by_cases e2 : j = i + 1
  · subst e2
    rw [List.getElem?_set_self (by rw [mj_st1_len]; exact hi)] at hj
    cases hj
  · rw [List.getElem?_set_ne (Ne.symm e2)] at hj
    rcases mj_st1_at (by omega) hj with ⟨rfl, rfl⟩ | ⟨h1, h2, h3⟩
    · exact h.2.2 (j, mj_v ad u) List.mem_cons_self
    · refine h.2.2 (j, mj_v ad u) (List.mem_cons_of_mem _ (List.mem_filter.mpr ⟨mj_as_mem h2, ?_⟩))
      by_cases e : j + 1 = i
      · simp [h1, mj_v_cat, h3 e, e2]
      · simp [h1, e, e2]
theorem mj_ce0 {ad : Nat → Nat} {ca : Nat → ClassId} {w : mjW} {h ci : Nat} (hk : mj_kd w h = (0, ci)) : mj_ce ad ca w h = .inr (ci, mj_fs ad w ci h) := by unfold mj_ce; rw [hk]; rfl
theorem mj_ce1 {ad : Nat → Nat} {ca : Nat → ClassId} {w : mjW} {h n : Nat} (hk : mj_kd w h = (1, n)) : mj_ce ad ca w h = .inl (ca h, n, .inl (w.2.1 h)) := by unfold mj_ce; rw [hk]; rfl
theorem mj_ce2 {ad : Nat → Nat} {ca : Nat → ClassId} {w : mjW} {h n : Nat} (hk : mj_kd w h = (2, n)) : mj_ce ad ca w h = .inl (ca h, n, .inr (.inl (w.2.2.1 h))) := by unfold mj_ce; rw [hk]; rfl
theorem mj_ce3 {ad : Nat → Nat} {ca : Nat → ClassId} {w : mjW} {h n : Nat} (hk : mj_kd w h = (3, n)) : mj_ce ad ca w h = .inl (ca h, n, .inr (.inr (.inr (.inr fun j => if j < n then (w.2.2.2 h j).map ad else none)))) := by unfold mj_ce; rw [hk]; rfl
theorem mj_ce4 {ad : Nat → Nat} {ca : Nat → ClassId} {w : mjW} {h n : Nat} (hk : mj_kd w h = (4, n)) : mj_ce ad ca w h = .inl (ca h, n, .inr (.inr (.inr (.inr fun j => if j < n then (w.2.2.2 h j).map ad else none)))) := by unfold mj_ce; rw [hk]; rfl
theorem mj_ce_same {ad : Nat → Nat} {ca : Nat → ClassId} {w w' : mjW} {h : Nat} (hk : w'.1 = w.1) (h1 : w'.2.1 h = w.2.1 h) (h2 : w'.2.2.1 h = w.2.2.1 h) (h3 : w'.2.2.2 h = w.2.2.2 h) : mj_ce ad ca w' h = mj_ce ad ca w h := by
  have e : mj_kd w' h = mj_kd w h := by unfold mj_kd; rw [hk]
  unfold mj_ce mj_fs
  rw [e, h1, h2, h3]
theorem mj_fs_at {ad : Nat → Nat} {w : mjW} {ci h k : Nat} (hk : k < mj_fn ci) : (mj_fs ad w ci h)[k]? = some (if mj_rk ci k = true then va_rf ((w.2.2.2 h k).map ad) else .int (w.2.1 h k)) := by simp [mj_fs, hk]
theorem mj_fs_len {ad : Nat → Nat} {w : mjW} {ci h : Nat} : (mj_fs ad w ci h).length = mj_fn ci := by simp [mj_fs]
theorem mj_v_rf (ad : Nat → Nat) (o : Option Nat) : mj_v ad (va_rf o) = va_rf (o.map ad) := by cases o <;> rfl
theorem mj_cl_at {a : Nat} (ha : a < 7) : vwCl[a]? = some ((mj_cl a).1, (mj_cl a).2.1, (mj_cl a).2.2) := by
  have h : a < vwCl.length := ha
  unfold mj_cl
  rw [List.getD_eq_getElem?_getD, List.getElem?_eq_getElem h]
  rfl
theorem mj_u_good {C : String} {T : u_T} {N : Nat} : ∀ w ∈ u_ws C T N, goodWord w = true := by
  intro w hw
  obtain ⟨k, -, rfl⟩ := List.mem_map.mp hw
  unfold u_lay
  split <;> rfl
theorem mj_inU {C : String} {T : u_T} {N : Nat} (h : ∀ w ∈ u_ws C T N, w ∈ lw_tbl) : ∀ w ∈ u_ws C T N, w ∈ mj_T := fun w hw => List.mem_filter.mpr ⟨h w hw, mj_u_good w hw⟩
theorem mj_clU : ∀ a, a < 7 → ((∀ w ∈ u_ws (mj_cl a).1 (mj_cl a).2.1 (mj_cl a).2.2, w ∈ mj_T) ∧ (∃ ty : Nat → FieldType, ∀ k, k < (mj_cl a).2.2 → parseFieldDescriptor ((mj_cl a).2.1 k).2.2.1 = some (ty k)) ∧ (∀ x, x < (mj_cl a).2.2 → ∀ b, b < (mj_cl a).2.2 → x ≠ b → ((mj_cl a).2.1 x).2.1 ≠ ((mj_cl a).2.1 b).2.1)) := by
  intro a ha
  match a, ha with
  | 0, _ => exact ⟨mj_inU inX0, ⟨_, tyX0_ok⟩, nmX0⟩
  | 1, _ => exact ⟨mj_inU inX1, ⟨_, tyX1_ok⟩, nmX1⟩
  | 2, _ => exact ⟨mj_inU inX2, ⟨_, tyX2_ok⟩, nmX2⟩
  | 3, _ => exact ⟨mj_inU inX3, ⟨_, tyX3_ok⟩, nmX3⟩
  | 4, _ => exact ⟨mj_inU inX5, ⟨_, tyX5_ok⟩, nmX5⟩
  | 5, _ => exact ⟨mj_inU inX6, ⟨_, tyX6_ok⟩, nmX6⟩
  | 6, _ => exact ⟨mj_inU inX7, ⟨_, tyX7_ok⟩, nmX7⟩
  | n + 7, h => exact absurd h (by omega)
theorem mj_dfl : ∀ a, a < 7 → ∃ ty : Nat → FieldType, (∀ k, k < (mj_cl a).2.2 → parseFieldDescriptor ((mj_cl a).2.1 k).2.2.1 = some (ty k)) ∧ ∀ k, k < (mj_cl a).2.2 → defaultValue (ty k) = if mj_rk a k = true then .null else .int 0 := by
  intro a ha
  match a, ha with
  | 0, _ => exact ⟨_, tyX0_ok, by decide +kernel⟩
  | 1, _ => exact ⟨_, tyX1_ok, by decide +kernel⟩
  | 2, _ => exact ⟨_, tyX2_ok, by decide +kernel⟩
  | 3, _ => exact ⟨_, tyX3_ok, by decide +kernel⟩
  | 4, _ => exact ⟨_, tyX5_ok, by decide +kernel⟩
  | 5, _ => exact ⟨_, tyX6_ok, by decide +kernel⟩
  | 6, _ => exact ⟨_, tyX7_ok, by decide +kernel⟩
  | n + 7, h => exact absurd h (by omega)
section SIM
variable {l : Launch} {D : va_G} {y : Nat} {p : Program} {e0 : Env} {R : Room} {s : State} {m : MethodId} {args : Array Value} {below : List Frame} {meth : Method} {cd : Code} {Q : State → Prop} {ad : Nat → Nat} {A : Nat → Prop} {H : Heap} {locs : List Loc} {ls : Array Slot} {pc : Nat} {L : mjL} {st : List Value} {w : mjW} {c q : Nat} {C : mjC} {ln a b d : Nat} {k : Int}
set_option maxHeartbeats 4000000 in
theorem mj_sim_plain {ins : Instr} (hne : (∀ i, ins ≠ .getfield i) ∧ (∀ i, ins ≠ .putfield i) ∧ ins ≠ .iaload ∧ ins ≠ .laload ∧ ins ≠ .aaload ∧ ins ≠ .iastore ∧ ins ≠ .lastore ∧ ins ≠ .aastore ∧ ins ≠ .arraylength ∧ (∀ i, ins ≠ .new i) ∧ (∀ i, ins ≠ .newarray i) ∧ (∀ i, ins ≠ .anewarray i) ∧ (∀ i j, ins ≠ .multianewarray i j) ∧ (∀ i, ins ≠ .invokespecial i) ∧ (∀ i, ins ≠ .invokestatic i) ∧ (∀ i, ins ≠ .invokevirtual i) ∧ (∀ i, ins ≠ .ldc i) ∧ (∀ i j u v, ins ≠ .tableswitch i j u v) ∧ (∀ i j, ins ≠ .lookupswitch i j))
    (hd : decode (mj_b y) pc = .ok (ins, ln)) (hk : mj_okc y pc (ins, ln, a, b, d, k) = true) (h : mj_sim y pc (ins, ln, a, b, d, k) L st w c q = some C)
    (hC : mj_Cx y p R s m args meth cd ad A) (hR : mj_Rp D A s ad w H) (hS : va_S A s.heap H locs) (hl : mj_ls ad ls L) (hL : L.length = mj_ml y) (hc : c ≤ mj_mc y) (hq : q ≤ mj_ms y) (hN : mj_Nx l D y p e0 R s m args below meth cd Q ad A w.1.length C) : W p l e0 R s m args below meth cd H locs c q Q (F0 m pc ls (st.map (mj_v ad))) := by
  obtain ⟨hx, hb, hml, hown, hts, hnm, hr, hlk, hRm, hSt, hA⟩ := hC
  obtain ⟨n1, n2, n3, n4, n5, n6, n7, n8, n9, n10, n11, n12, n13, n14, n15, n16, n17, n18, n19⟩ := hne
  have hN1 : ∀ (L' : mjL) (ls1 : Array Slot), mj_ls ad ls1 L' → L'.length = L.length → ∀ (pc' : Nat) (st' : List Value), C = (pc', L', st', w, c, q) → W p l e0 R s m args below meth cd H locs c q Q (F0 m pc' ls1 (st'.map (mj_v ad))) := by
    intro L' ls1 h1 h2 pc' st' e
    subst e
    exact hN ad H locs ls1 (fun _ => rfl) (fun _ _ => rfl) hR hS h1 (h2.trans hL) hc hq
  have hN0 : ∀ (pc' : Nat) (st' : List Value), C = (pc', L, st', w, c, q) → W p l e0 R s m args below meth cd H locs c q Q (F0 m pc' ls (st'.map (mj_v ad))) := hN1 L ls hl rfl
  clear hN
  cases ins with
  | iconst n =>
    simp only [mj_okc, Bool.and_eq_true, decide_eq_true_eq] at hk
    obtain rfl := Nat.eq_of_beq_eq_true hk.1
    exact lv_iconst hx hb hd hk.2 (hN0 _ (.int (mj_kI k) :: st) (Option.some.inj h).symm)
  | bipush n =>
    simp only [mj_okc, Bool.and_eq_true, decide_eq_true_eq] at hk
    obtain rfl := Nat.eq_of_beq_eq_true hk.1
    exact lv_bipush hx hb hd hk.2 (hN0 _ (.int (mj_kI k) :: st) (Option.some.inj h).symm)
  | sipush n =>
    simp only [mj_okc, Bool.and_eq_true, decide_eq_true_eq] at hk
    obtain rfl := Nat.eq_of_beq_eq_true hk.1
    exact lv_sipush hx hb hd hk.2 (hN0 _ (.int (mj_kI k) :: st) (Option.some.inj h).symm)
  | lconst n =>
    simp only [mj_okc, Bool.and_eq_true, decide_eq_true_eq] at hk
    obtain rfl := Nat.eq_of_beq_eq_true hk.1
    exact lv_lconst hx hb hd hk.2 (hN0 _ (.long (mj_kL k) :: st) (Option.some.inj h).symm)
  | ldc2_w ix =>
    simp only [mj_okc, Bool.and_eq_true] at hk
    obtain rfl := Nat.eq_of_beq_eq_true hk.1
    exact lv_ldc2 hx hb hown (hts _ (mj_inT hk.2 rfl)) hd (hN0 _ (.long (mj_kL k) :: st) (Option.some.inj h).symm)
  | iload_n i =>
    obtain rfl := Nat.eq_of_beq_eq_true (show Nat.beq ln 1 = true from hk)
    obtain ⟨x, hi, h⟩ := mj_ldi_inv (show mj_ldi _ _ = some C from h)
    exact lv_iload_n hx hb hd rfl (hl.2.2 _ _ (mj_getD hi)) (hN0 _ (.int x :: st) (Option.some.inj h).symm)
  | iload i =>
    obtain rfl := Nat.eq_of_beq_eq_true (show Nat.beq ln 2 = true from hk)
    obtain ⟨x, hi, h⟩ := mj_ldi_inv (show mj_ldi _ _ = some C from h)
    exact lv_iload hx hb hd (hl.2.2 _ _ (mj_getD hi)) (hN0 _ (.int x :: st) (Option.some.inj h).symm)
  | lload_n i =>
    obtain rfl := Nat.eq_of_beq_eq_true (show Nat.beq ln 1 = true from hk)
    obtain ⟨x, hi, h⟩ := mj_ldl_inv (show mj_ldl _ _ = some C from h)
    exact lv_lload_n hx hb hd rfl (hl.2.2 _ _ (mj_getD hi)) (hN0 _ (.long x :: st) (Option.some.inj h).symm)
  | lload i =>
    obtain rfl := Nat.eq_of_beq_eq_true (show Nat.beq ln 2 = true from hk)
    obtain ⟨x, hi, h⟩ := mj_ldl_inv (show mj_ldl _ _ = some C from h)
    exact lv_lload hx hb hd (hl.2.2 _ _ (mj_getD hi)) (hN0 _ (.long x :: st) (Option.some.inj h).symm)
  | aload_n i =>
    obtain rfl := Nat.eq_of_beq_eq_true (show Nat.beq ln 1 = true from hk)
    obtain ⟨x, hi, h⟩ := mj_ldr_inv (show mj_ldr _ _ = some C from h)
    exact lv_aload_n hx hb hd rfl (hl.2.2 _ _ (mj_getD hi)) (hN0 _ (.ref x :: st) (Option.some.inj h).symm)
  | istore_n i =>
    obtain rfl := Nat.eq_of_beq_eq_true (show Nat.beq ln 1 = true from hk)
    have h : (if (i : Nat) < L.length then mj_p1 st (fun x r => some (pc + 1, mj_st1 L i (.int x), r, w, c, q)) else none) = some C := h
    split at h
    · next hi =>
      obtain ⟨x, r, rfl, h⟩ := mj_p1_inv h
      exact lv_istore_n hx hb hd rfl (mj_as_has hl) hi rfl (fun ls' hl' => hN1 _ ls' (mj_ls_st1 (x := .int x) hi hl') (mj_st1_len _ _ _) _ r (Option.some.inj h).symm)
    · cases h
  | istore i =>
    obtain rfl := Nat.eq_of_beq_eq_true (show Nat.beq ln 2 = true from hk)
    have h : (if i < L.length then mj_p1 st (fun x r => some (pc + 2, mj_st1 L i (.int x), r, w, c, q)) else none) = some C := h
    split at h
    · next hi =>
      obtain ⟨x, r, rfl, h⟩ := mj_p1_inv h
      exact lv_istore hx hb hd (mj_as_has hl) hi rfl (fun ls' hl' => hN1 _ ls' (mj_ls_st1 (x := .int x) hi hl') (mj_st1_len _ _ _) _ r (Option.some.inj h).symm)
    · cases h
  | lstore i =>
    obtain rfl := Nat.eq_of_beq_eq_true (show Nat.beq ln 2 = true from hk)
    have h : (if i + 1 < L.length then mj_q1 st (fun x r => some (pc + 2, mj_st2 L i (.long x), r, w, c, q)) else none) = some C := h
    split at h
    · next hi =>
      obtain ⟨x, r, rfl, h⟩ := mj_q1_inv h
      exact lv_lstore hx hb hd (mj_as_has hl) hi rfl (fun ls' hl' => hN1 _ ls' (mj_ls_st2 (x := .long x) hi hl') (mj_st2_len _ _ _) _ r (Option.some.inj h).symm)
    · cases h
  | iinc i n =>
    simp only [mj_okc, Bool.and_eq_true, decide_eq_true_eq] at hk
    obtain rfl := Nat.eq_of_beq_eq_true hk.1
    have h : (if i < L.length then mj_ldi (L.getD i none) (fun x => some (pc + 3, mj_st1 L i (.int (x + mj_kI k)), st, w, c, q)) else none) = some C := h
    split at h
    · next hi =>
      obtain ⟨x, hx1, h⟩ := mj_ldi_inv h
      obtain ⟨k0, hk0⟩ := List.getElem?_of_mem (mj_as_mem (ad := ad) (mj_getD hx1))
      exact lv_iinc hx hb hd (mj_as_has hl) hk0 (by rw [hk.2]) hi rfl (fun ls' hl' => hN1 _ ls' (mj_ls_st1 (x := .int (x + mj_kI k)) hi hl') (mj_st1_len _ _ _) _ st (Option.some.inj h).symm)
    · cases h
  | goto off =>
    simp only [mj_okc, Bool.and_eq_true, decide_eq_true_eq] at hk
    obtain rfl := Nat.eq_of_beq_eq_true hk.1
    exact lv_goto hx hb hd hk.2 (hN0 _ st (Option.some.inj h).symm)
  | ifCond cnd off =>
    simp only [mj_okc, Bool.and_eq_true, decide_eq_true_eq] at hk
    obtain rfl := Nat.eq_of_beq_eq_true hk.1
    cases cnd with
    | eq =>
      obtain ⟨x, r, rfl, h2⟩ := mj_p1_inv (show mj_p1 _ _ = some C from h)
      exact lv_if_eq hx hb hd hk.2 (fun g => hN0 _ r (by rw [if_pos g] at h2; exact (Option.some.inj h2).symm)) (fun g => hN0 _ r (by rw [if_neg g] at h2; exact (Option.some.inj h2).symm))
    | ne =>
      obtain ⟨x, r, rfl, h2⟩ := mj_p1_inv (show mj_p1 _ _ = some C from h)
      exact lv_if_ne hx hb hd hk.2 (fun g => hN0 _ r (by rw [if_pos g] at h2; exact (Option.some.inj h2).symm)) (fun g => hN0 _ r (by rw [if_neg (fun z => z g)] at h2; exact (Option.some.inj h2).symm))
    | lt =>
      obtain ⟨x, r, rfl, h2⟩ := mj_p1_inv (show mj_p1 _ _ = some C from h)
      exact lv_if_lt hx hb hd hk.2 (fun g => hN0 _ r (by rw [if_pos g] at h2; exact (Option.some.inj h2).symm)) (fun g => hN0 _ r (by rw [if_neg g] at h2; exact (Option.some.inj h2).symm))
    | ge =>
      obtain ⟨x, r, rfl, h2⟩ := mj_p1_inv (show mj_p1 _ _ = some C from h)
      exact lv_if_ge hx hb hd hk.2 (fun g => hN0 _ r (by rw [if_pos g] at h2; exact (Option.some.inj h2).symm)) (fun g => hN0 _ r (by rw [if_neg g] at h2; exact (Option.some.inj h2).symm))
    | gt =>
      obtain ⟨x, r, rfl, h2⟩ := mj_p1_inv (show mj_p1 _ _ = some C from h)
      exact lv_if_gt hx hb hd hk.2 (fun g => hN0 _ r (by rw [if_pos g] at h2; exact (Option.some.inj h2).symm)) (fun g => hN0 _ r (by rw [if_neg g] at h2; exact (Option.some.inj h2).symm))
    | le =>
      obtain ⟨x, r, rfl, h2⟩ := mj_p1_inv (show mj_p1 _ _ = some C from h)
      exact lv_if_le hx hb hd hk.2 (fun g => hN0 _ r (by rw [if_pos g] at h2; exact (Option.some.inj h2).symm)) (fun g => hN0 _ r (by rw [if_neg g] at h2; exact (Option.some.inj h2).symm))
  | if_icmp cnd off =>
    simp only [mj_okc, Bool.and_eq_true, decide_eq_true_eq] at hk
    obtain rfl := Nat.eq_of_beq_eq_true hk.1
    cases cnd with
    | eq =>
      obtain ⟨x, z, r, rfl, h2⟩ := mj_p2_inv (show mj_p2 _ _ = some C from h)
      exact lv_icmp_eq hx hb hd hk.2 (fun g => hN0 _ r (by rw [if_pos g] at h2; exact (Option.some.inj h2).symm)) (fun g => hN0 _ r (by rw [if_neg g] at h2; exact (Option.some.inj h2).symm))
    | ne =>
      obtain ⟨x, z, r, rfl, h2⟩ := mj_p2_inv (show mj_p2 _ _ = some C from h)
      exact lv_icmp_ne hx hb hd hk.2 (fun g => hN0 _ r (by rw [if_pos g] at h2; exact (Option.some.inj h2).symm)) (fun g => hN0 _ r (by rw [if_neg (fun z => z g)] at h2; exact (Option.some.inj h2).symm))
    | lt =>
      obtain ⟨x, z, r, rfl, h2⟩ := mj_p2_inv (show mj_p2 _ _ = some C from h)
      exact lv_icmp_lt hx hb hd hk.2 (fun g => hN0 _ r (by rw [if_pos g] at h2; exact (Option.some.inj h2).symm)) (fun g => hN0 _ r (by rw [if_neg g] at h2; exact (Option.some.inj h2).symm))
    | ge =>
      obtain ⟨x, z, r, rfl, h2⟩ := mj_p2_inv (show mj_p2 _ _ = some C from h)
      exact lv_icmp_ge hx hb hd hk.2 (fun g => hN0 _ r (by rw [if_pos g] at h2; exact (Option.some.inj h2).symm)) (fun g => hN0 _ r (by rw [if_neg g] at h2; exact (Option.some.inj h2).symm))
    | gt =>
      obtain ⟨x, z, r, rfl, h2⟩ := mj_p2_inv (show mj_p2 _ _ = some C from h)
      exact lv_icmp_gt hx hb hd hk.2 (fun g => hN0 _ r (by rw [if_pos g] at h2; exact (Option.some.inj h2).symm)) (fun g => hN0 _ r (by rw [if_neg g] at h2; exact (Option.some.inj h2).symm))
    | le =>
      obtain ⟨x, z, r, rfl, h2⟩ := mj_p2_inv (show mj_p2 _ _ = some C from h)
      exact lv_icmp_le hx hb hd hk.2 (fun g => hN0 _ r (by rw [if_pos g] at h2; exact (Option.some.inj h2).symm)) (fun g => hN0 _ r (by rw [if_neg g] at h2; exact (Option.some.inj h2).symm))
  | iadd =>
    obtain rfl := Nat.eq_of_beq_eq_true (show Nat.beq ln 1 = true from hk)
    obtain ⟨x, z, r, rfl, h⟩ := mj_p2_inv (show mj_p2 _ _ = some C from h)
    exact lv_iadd hx hb hd (hN0 _ (.int (x + z) :: r) (Option.some.inj h).symm)
  | isub =>
    obtain rfl := Nat.eq_of_beq_eq_true (show Nat.beq ln 1 = true from hk)
    obtain ⟨x, z, r, rfl, h⟩ := mj_p2_inv (show mj_p2 _ _ = some C from h)
    exact lv_isub hx hb hd (hN0 _ (.int (x - z) :: r) (Option.some.inj h).symm)
  | imul =>
    obtain rfl := Nat.eq_of_beq_eq_true (show Nat.beq ln 1 = true from hk)
    obtain ⟨x, z, r, rfl, h⟩ := mj_p2_inv (show mj_p2 _ _ = some C from h)
    exact lv_imul hx hb hd (hN0 _ (.int (x * z) :: r) (Option.some.inj h).symm)
  | iand =>
    obtain rfl := Nat.eq_of_beq_eq_true (show Nat.beq ln 1 = true from hk)
    obtain ⟨x, z, r, rfl, h⟩ := mj_p2_inv (show mj_p2 _ _ = some C from h)
    exact lv_iand hx hb hd (hN0 _ (.int (x &&& z) :: r) (Option.some.inj h).symm)
  | ior =>
    obtain rfl := Nat.eq_of_beq_eq_true (show Nat.beq ln 1 = true from hk)
    obtain ⟨x, z, r, rfl, h⟩ := mj_p2_inv (show mj_p2 _ _ = some C from h)
    exact lv_ior hx hb hd (hN0 _ (.int (x ||| z) :: r) (Option.some.inj h).symm)
  | ixor =>
    obtain rfl := Nat.eq_of_beq_eq_true (show Nat.beq ln 1 = true from hk)
    obtain ⟨x, z, r, rfl, h⟩ := mj_p2_inv (show mj_p2 _ _ = some C from h)
    exact lv_ixor hx hb hd (hN0 _ (.int (x ^^^ z) :: r) (Option.some.inj h).symm)
  | ishl =>
    obtain rfl := Nat.eq_of_beq_eq_true (show Nat.beq ln 1 = true from hk)
    obtain ⟨x, z, r, rfl, h⟩ := mj_p2_inv (show mj_p2 _ _ = some C from h)
    exact lv_ishl hx hb hd (hN0 _ (.int (x <<< (z &&& 31)) :: r) (Option.some.inj h).symm)
  | ishr =>
    obtain rfl := Nat.eq_of_beq_eq_true (show Nat.beq ln 1 = true from hk)
    obtain ⟨x, z, r, rfl, h⟩ := mj_p2_inv (show mj_p2 _ _ = some C from h)
    exact lv_ishr hx hb hd (hN0 _ (.int (x >>> (z &&& 31)) :: r) (Option.some.inj h).symm)
  | idiv =>
    obtain rfl := Nat.eq_of_beq_eq_true (show Nat.beq ln 1 = true from hk)
    obtain ⟨x, z, r, rfl, h2⟩ := mj_p2_inv (show mj_p2 _ _ = some C from h)
    clear h
    have h := h2
    split at h
    · cases h
    · next hz => exact lv_idiv hx hb hd hz (hN0 _ (.int (x / z) :: r) (Option.some.inj h).symm)
  | irem =>
    obtain rfl := Nat.eq_of_beq_eq_true (show Nat.beq ln 1 = true from hk)
    obtain ⟨x, z, r, rfl, h2⟩ := mj_p2_inv (show mj_p2 _ _ = some C from h)
    clear h
    have h := h2
    split at h
    · cases h
    · next hz => exact lv_irem hx hb hd hz (hN0 _ (.int (x - x / z * z) :: r) (Option.some.inj h).symm)
  | ladd =>
    obtain rfl := Nat.eq_of_beq_eq_true (show Nat.beq ln 1 = true from hk)
    obtain ⟨x, z, r, rfl, h⟩ := mj_q2_inv (show mj_q2 _ _ = some C from h)
    exact lv_ladd hx hb hd (hN0 _ (.long (x + z) :: r) (Option.some.inj h).symm)
  | lmul =>
    obtain rfl := Nat.eq_of_beq_eq_true (show Nat.beq ln 1 = true from hk)
    obtain ⟨x, z, r, rfl, h⟩ := mj_q2_inv (show mj_q2 _ _ = some C from h)
    exact lv_lmul hx hb hd (hN0 _ (.long (x * z) :: r) (Option.some.inj h).symm)
  | land =>
    obtain rfl := Nat.eq_of_beq_eq_true (show Nat.beq ln 1 = true from hk)
    obtain ⟨x, z, r, rfl, h⟩ := mj_q2_inv (show mj_q2 _ _ = some C from h)
    exact lv_land hx hb hd (hN0 _ (.long (x &&& z) :: r) (Option.some.inj h).symm)
  | lcmp =>
    obtain rfl := Nat.eq_of_beq_eq_true (show Nat.beq ln 1 = true from hk)
    obtain ⟨x, z, r, rfl, h⟩ := mj_q2_inv (show mj_q2 _ _ = some C from h)
    exact W.lcmp hx hb hd (hN0 _ (.int (lg_cmp x z) :: r) (Option.some.inj h).symm)
  | ineg =>
    obtain rfl := Nat.eq_of_beq_eq_true (show Nat.beq ln 1 = true from hk)
    obtain ⟨x, r, rfl, h⟩ := mj_p1_inv (show mj_p1 _ _ = some C from h)
    exact lv_ineg hx hb hd (hN0 _ (.int (-x) :: r) (Option.some.inj h).symm)
  | i2l =>
    obtain rfl := Nat.eq_of_beq_eq_true (show Nat.beq ln 1 = true from hk)
    obtain ⟨x, r, rfl, h⟩ := mj_p1_inv (show mj_p1 _ _ = some C from h)
    exact lv_i2l hx hb hd rfl (hN0 _ (.long x.toInt64 :: r) (Option.some.inj h).symm)
  | l2i =>
    obtain rfl := Nat.eq_of_beq_eq_true (show Nat.beq ln 1 = true from hk)
    obtain ⟨x, r, rfl, h⟩ := mj_q1_inv (show mj_q1 _ _ = some C from h)
    exact lv_l2i hx hb hd rfl (hN0 _ (.int x.toInt32 :: r) (Option.some.inj h).symm)
  | i2b =>
    obtain rfl := Nat.eq_of_beq_eq_true (show Nat.beq ln 1 = true from hk)
    obtain ⟨x, r, rfl, h⟩ := mj_p1_inv (show mj_p1 _ _ = some C from h)
    exact lv_i2b hx hb hd rfl (hN0 _ (.int x.toInt8.toInt32 :: r) (Option.some.inj h).symm)
  | i2s =>
    obtain rfl := Nat.eq_of_beq_eq_true (show Nat.beq ln 1 = true from hk)
    obtain ⟨x, r, rfl, h⟩ := mj_p1_inv (show mj_p1 _ _ = some C from h)
    exact lv_i2s hx hb hd rfl (hN0 _ (.int x.toInt16.toInt32 :: r) (Option.some.inj h).symm)
  | i2c =>
    obtain rfl := Nat.eq_of_beq_eq_true (show Nat.beq ln 1 = true from hk)
    obtain ⟨x, r, rfl, h⟩ := mj_p1_inv (show mj_p1 _ _ = some C from h)
    exact lv_i2c hx hb hd rfl (hN0 _ (.int (x.toUInt32 % 65536).toInt32 :: r) (Option.some.inj h).symm)
  | dup =>
    obtain rfl := Nat.eq_of_beq_eq_true (show Nat.beq ln 1 = true from hk)
    simp only [mj_sim] at h
    split at h
    · next x r => exact lv_dup hx hb hd rfl (hN0 _ (.int x :: .int x :: r) (Option.some.inj h).symm)
    · next x r => exact lv_dup hx hb hd rfl (hN0 _ (.ref x :: .ref x :: r) (Option.some.inj h).symm)
    · cases h
  | dup2 =>
    obtain rfl := Nat.eq_of_beq_eq_true (show Nat.beq ln 1 = true from hk)
    simp only [mj_sim] at h
    split at h
    · next i x r => exact lv_dup2_11 hx hb hd rfl rfl (hN0 _ (.int i :: .ref x :: .int i :: .ref x :: r) (Option.some.inj h).symm)
    · cases h
  | pop =>
    obtain rfl := Nat.eq_of_beq_eq_true (show Nat.beq ln 1 = true from hk)
    simp only [mj_sim] at h
    split at h
    · next x r => exact lv_pop hx hb hd rfl (hN0 _ r (Option.some.inj h).symm)
    · cases h
  | getfield i => exact absurd rfl (n1 i)
  | putfield i => exact absurd rfl (n2 i)
  | iaload => exact absurd rfl n3
  | laload => exact absurd rfl n4
  | aaload => exact absurd rfl n5
  | iastore => exact absurd rfl n6
  | lastore => exact absurd rfl n7
  | aastore => exact absurd rfl n8
  | arraylength => exact absurd rfl n9
  | new i => exact absurd rfl (n10 i)
  | newarray i => exact absurd rfl (n11 i)
  | anewarray i => exact absurd rfl (n12 i)
  | multianewarray i j => exact absurd rfl (n13 i j)
  | invokespecial i => exact absurd rfl (n14 i)
  | invokestatic i => exact absurd rfl (n15 i)
  | invokevirtual i => exact absurd rfl (n16 i)
  | ldc i => exact absurd rfl (n17 i)
  | tableswitch i j u v => exact absurd rfl (n18 i j u v)
  | lookupswitch i j => exact absurd rfl (n19 i j)
  | _ => exact absurd h (by simp only [mj_sim]; exact fun z => by cases z)
end SIM
