/-! what a table row must say of an instruction -/
noncomputable def mj_own (y : Nat) : String := (mj_nm y).cls
noncomputable def mj_ds (ci k : Nat) : String := ((mj_cl ci).2.1 k).2.2.1
noncomputable def mj_rk (ci k : Nat) : Bool := !(decide (mj_ds ci k = "I") || decide (mj_ds ci k = "Z"))
noncomputable def mj_isr (ci k : Nat) : Bool := match parseFieldDescriptor (mj_ds ci k) with
  | some (.object _) => true
  | some (.array _) => true
  | _ => false
def mj_nw : List (String × Nat × MethodName) := [("CaughtHand$Office", 20, yX0_init), ("CaughtHand$Past", 15, yX0_init), ("CaughtHand", 34, yX3_init)]
noncomputable def mj_w1 (d : Nat) (w : Jvm.Cond) : Bool := decide (lw_tbl[d]? = some w)
noncomputable def mj_okc (y pc : Nat) (e : mjE) : Bool := match e with
  | (ins, ln, a, b, d, k) => match ins with
  | .iconst n => Nat.beq ln 1 && decide (Int32.ofInt n = mj_kI k)
  | .bipush n => Nat.beq ln 2 && decide ((Int8.ofInt n).toInt32 = mj_kI k)
  | .sipush n => Nat.beq ln 3 && decide ((Int16.ofInt n).toInt32 = mj_kI k)
  | .lconst n => Nat.beq ln 1 && decide (Int64.ofNat (n : Nat) = mj_kL k)
  | .ldc2_w ix => Nat.beq ln 3 && mj_w1 d (.constantLong (mj_own y) ix (mj_kL k))
  | .ldc ix => Nat.beq ln 2 && (match a with
    | 0 => mj_w1 d (.constant (mj_own y) ix (mj_kI k))
    | _ => decide (mj_own y = "CaughtHand$Reader") && Nat.beq ix 63)
  | .iinc _ n => Nat.beq ln 3 && decide (Int32.ofInt n = mj_kI k)
  | .iload _ => Nat.beq ln 2
  | .lload _ => Nat.beq ln 2
  | .istore _ => Nat.beq ln 2
  | .lstore _ => Nat.beq ln 2
  | .goto off => Nat.beq ln 3 && decide ((pc : Int) + off = (a : Int))
  | .ifCond _ off => Nat.beq ln 3 && decide ((pc : Int) + off = (a : Int))
  | .if_icmp _ off => Nat.beq ln 3 && decide ((pc : Int) + off = (a : Int))
  | .tableswitch dflt lo hi offs => decide (lo = 0) && decide (hi + 1 = (offs.size : Int)) && Nat.blt offs.size 1000 && decide (0 ≤ (pc : Int) + dflt) && offs.toList.all (fun o => decide (0 ≤ (pc : Int) + o))
  | .lookupswitch dflt ps => (ps.toList.zip (ps.toList.drop 1)).all (fun (a, next) => a.1 < next.1) && decide (0 ≤ (pc : Int) + dflt) && ps.toList.all (fun o => decide (0 ≤ (pc : Int) + o.2) && decide ((mj_kI o.1).toInt = o.1))
  | .getfield ix => Nat.beq ln 3 && Nat.blt a 7 && Nat.blt b (mj_fn a) && mj_w1 d (.fieldLink (mj_own y) ix ((mj_cl a).2.1 b).1 ((mj_cl a).2.1 b).2.1 ((mj_cl a).2.1 b).2.2.1) && (match k with
    | .ofNat 2 => mj_rk a b
    | _ => !(mj_rk a b))
  | .putfield ix => Nat.beq ln 3 && Nat.blt a 7 && Nat.blt b (mj_fn a) && mj_w1 d (.fieldLink (mj_own y) ix ((mj_cl a).2.1 b).1 ((mj_cl a).2.1 b).2.1 ((mj_cl a).2.1 b).2.2.1) && (match k with
    | .ofNat 0 => decide (mj_ds a b = "I") && !((mj_cl a).2.1 b).2.2.2
    | .ofNat 1 => decide (mj_ds a b = "Z") && !((mj_cl a).2.1 b).2.2.2
    | _ => mj_rk a b && mj_isr a b && ((mj_cl a).2.1 b).2.2.2 && decide ((mj_nm y).name = "<init>") && decide (((mj_cl a).2.1 b).1 = mj_own y))
  | .new ix => Nat.beq ln 3 && Nat.blt a 7 && mj_w1 d (.classLink (mj_own y) ix (mj_cl a).1) && mj_w1 b (.instantiable (mj_cl a).1 (mj_fn a)) && mj_w1 k.toNat (.initialized (mj_cl a).1)
  | .newarray t => Nat.beq ln 2 && (match t with
    | .int => mj_w1 d (.arrayClass .int)
    | .long => mj_w1 d (.arrayClass .long)
    | _ => false)
  | .anewarray ix => Nat.beq ln 3 && mj_w1 d (.classLink (mj_own y) ix "CaughtHand$Hands")
  | .multianewarray ix m => Nat.beq ln 4 && Nat.beq m 2 && mj_w1 d (.classLink (mj_own y) ix ("[" ++ (FieldType.array .long).toString))
  | .invokevirtual ix => Nat.beq ln 3 && (match a with
    | 0 => Nat.blt b mj_N && mj_w1 d (.methodLink (mj_own y) ix (mj_nm b)) && Nat.ble (mj_rf b + 1) (mj_rf y) && Nat.ble (8 + (mj_ml b + 11) + mj_rl b) (mj_rl y) && decide ((parseMethodDescriptor (mj_nm b).desc).map (fun d => d.parameters.length) = some k.toNat) && mj_w1 (mj_pos b).2.1 (.instanceMethod (mj_nm b)) && mj_w1 (mj_pos b).2.2.1 (.selects (mj_nm b).cls (mj_nm b) (mj_nm b)) && Nat.blt (mj_ci b) 7 && decide ((mj_cl (mj_ci b)).1 = (mj_nm b).cls)
    | 7 => mj_w1 d (.methodLink (mj_own y) ix ⟨"java/lang/String", "indexOf", "(I)I"⟩) && Nat.ble 4 (mj_rf y) && Nat.ble 91 (mj_rl y)
    | _ => false)
  | .invokestatic ix => Nat.beq ln 3 && (match a with
    | 1 => Nat.blt b mj_N && mj_w1 d (.methodLink (mj_own y) ix (mj_nm b)) && Nat.ble (mj_rf b + 1) (mj_rf y) && Nat.ble (8 + (mj_ml b + 11) + mj_rl b) (mj_rl y) && decide ((parseMethodDescriptor (mj_nm b).desc).map (fun d => d.parameters.length) = some k.toNat) && mj_w1 (mj_pos b).2.1 (.static (mj_nm b))
    | 5 => mj_w1 d (.methodLink (mj_own y) ix Lib.Math.min.name) && Nat.ble 1 (mj_rf y) && Nat.ble 21 (mj_rl y)
    | 6 => mj_w1 d (.methodLink (mj_own y) ix arraycopyName) && Nat.ble 1 (mj_rf y) && Nat.ble (8 + (nativeFrameWords "java/lang/System" "arraycopy" 5 + 11)) (mj_rl y)
    | _ => false)
  | .invokespecial ix => Nat.beq ln 3 && (match a with
    | 2 => Nat.blt b mj_N && mj_w1 d (.methodLink (mj_own y) ix (mj_nm b)) && Nat.ble (mj_rf b + 1) (mj_rf y) && Nat.ble (8 + (mj_ml b + 11) + mj_rl b) (mj_rl y) && decide ((parseMethodDescriptor (mj_nm b).desc).map (fun d => d.parameters.length) = some k.toNat) && mj_w1 (mj_pos b).2.1 (.instanceMethod (mj_nm b)) && decide ((mj_nm b).name = "<init>") && decide (mj_ret b = none)
    | 3 => Nat.blt b mj_N && decide ((mj_own y, ix, mj_nm b) ∈ mj_nw) && Nat.ble (mj_rf b + 1) (mj_rf y) && Nat.ble (8 + (mj_ml b + 11) + mj_rl b) (mj_rl y) && decide ((parseMethodDescriptor (mj_nm b).desc).map (fun d => d.parameters.length) = some k.toNat) && mj_w1 (mj_pos b).2.1 (.instanceMethod (mj_nm b)) && decide ((mj_nm b).name = "<init>") && decide (mj_ret b = none)
    | 4 => mj_w1 d (.methodLink (mj_own y) ix objectInit) && Nat.ble 1 (mj_rf y) && Nat.ble 20 (mj_rl y)
    | _ => false)
  | _ => Nat.beq ln 1
noncomputable def mj_ok (y pc : Nat) (e : mjE) : Bool := decide (decode (mj_b y) pc = .ok (e.1, e.2.1)) && mj_okc y pc e
/-- what the table must say of a method -/
noncomputable def mj_mok (z : Nat) : Bool := mj_w1 (mj_pos z).1 (.code (mj_nm z) (mj_b z) (mj_ml z) (mj_ret z)) && mj_w1 (mj_pos z).2.2.2 (.initialized (mj_nm z).cls) && plainName (mj_nm z).cls && !(decide ((mj_nm z).cls = "java/lang/invoke/MethodHandle")) && !(decide ((mj_nm z).cls = "java/lang/invoke/VarHandle"))
noncomputable def mj_T : List Jvm.Cond := lw_tbl.filter goodWord
theorem mj_inT {d : Nat} {w : Jvm.Cond} (h : mj_w1 d w = true) (hg : goodWord w = true) : w ∈ mj_T := List.mem_filter.mpr ⟨List.mem_of_getElem? (of_decide_eq_true h), hg⟩
/-! the machine's heap holds a world -/
def mj_v (ad : Nat → Nat) : Value → Value
  | .ref h => .ref (ad h)
  | v => v
noncomputable def mj_fs (ad : Nat → Nat) (w : mjW) (ci h : Nat) : List Value := (List.range (mj_fn ci)).map fun k => if mj_rk ci k = true then va_rf ((w.2.2.2 h k).map ad) else .int (w.2.1 h k)
noncomputable def mj_ce (ad : Nat → Nat) (ca : Nat → ClassId) (w : mjW) (h : Nat) : va_E := match mj_kd w h with
  | (0, ci) => .inr (ci, mj_fs ad w ci h)
  | (1, n) => .inl (ca h, n, .inl (w.2.1 h))
  | (2, n) => .inl (ca h, n, .inr (.inl (w.2.2.1 h)))
  | (_, n) => .inl (ca h, n, .inr (.inr (.inr (.inr fun j => if j < n then (w.2.2.2 h j).map ad else none))))
noncomputable def mj_ws (ad : Nat → Nat) (ca : Nat → ClassId) (w : mjW) : va_W := (List.range w.1.length).map fun h => (ad h, mj_ce ad ca w h)
def mj_ty : Nat → FieldType
  | 1 => .int
  | 2 => .long
  | 3 => .object "CaughtHand$Hands"
  | _ => .array .long
def mj_Rp (D : va_G) (A : Nat → Prop) (s : State) (ad : Nat → Nat) (w : mjW) (H : Heap) : Prop :=
  ∃ (ca : Nat → ClassId) (tys : List (ClassId × FieldType)), va_K D vwCl tys s ∧ va_P D vwCl (mj_ws ad ca w) H ∧ va_D A (mj_ws ad ca w) ∧ ∀ h, h < w.1.length → (mj_kd w h).1 ≠ 0 → (ca h, mj_ty (mj_kd w h).1) ∈ tys
def mj_ls (ad : Nat → Nat) (ls : Array Slot) (L : mjL) : Prop := ls.size = L.length ∧ lv_wf ls ∧ ∀ (i : Nat) (v : Value), L[i]? = some (some v) → ls[i]? = some (.val (mj_v ad v))
def mj_AOA (U : State) : Prop := (Jvm.Cond.arrayOver (.array .long)).before #[] U = true
def mj_St (ad : Nat → Nat) (A : Nat → Prop) (s : State) : Prop :=
  (∀ q ∈ mj_nw, va_Nw (.methodLinkNest q.1 q.2.1 q.2.2 "CaughtHand") s) ∧ va_AO "CaughtHand$Hands" s ∧ mj_AOA s ∧ vk_R "CaughtHand$Reader" 63 "pslt" (ad 1000) s ∧ (∃ adV : Nat → Nat, vk_S 1 [4] [[112, 115, 108, 116]] (fun _ => ad 1000) adV A s s.heap) ∧ va_Z "java/lang/String" "COMPACT_STRINGS" "Z" (.int 1) A s s.heap
noncomputable def mj_rm (y : Nat) : Room := { frames := mj_rf y, cells := mj_mc y, slots := mj_ms y, locals := mj_rl y }
theorem mj_v_cat (ad : Nat → Nat) (v : Value) : (mj_v ad v).category = v.category := by cases v <;> rfl
theorem mj_kd_lt {w : mjW} {h : Nat} {x : Nat × Nat} (hk : mj_kd w h = x) (hx : x.1 ≠ 99) : h < w.1.length := by
  refine Nat.lt_of_not_le fun hle => hx ?_
  rw [← hk]
  unfold mj_kd
  rw [List.getD_eq_getElem?_getD, List.getElem?_eq_none hle]
  rfl
theorem mj_ws_len (ad : Nat → Nat) (ca : Nat → ClassId) (w : mjW) : (mj_ws ad ca w).length = w.1.length := by simp [mj_ws]
theorem mj_ws_at {ad : Nat → Nat} {ca : Nat → ClassId} {w : mjW} {h : Nat} (hh : h < w.1.length) : (mj_ws ad ca w)[h]? = some (ad h, mj_ce ad ca w h) := by simp [mj_ws, hh]
theorem mj_ws_set {ad : Nat → Nat} {ca : Nat → ClassId} {w w' : mjW} {h : Nat} {e : va_E} (hk : w'.1 = w.1) (he : mj_ce ad ca w' h = e) (ho : ∀ a, a ≠ h → mj_ce ad ca w' a = mj_ce ad ca w a) : (mj_ws ad ca w).set h (ad h, e) = mj_ws ad ca w' := by
  apply List.ext_getElem?
  intro i
  by_cases hi : i < w.1.length
  · by_cases e1 : i = h
    · subst e1
      rw [List.getElem?_set_self (by rw [mj_ws_len]; exact hi), mj_ws_at (by rw [hk]; exact hi), he]
    · rw [List.getElem?_set_ne (Ne.symm e1), mj_ws_at hi, mj_ws_at (by rw [hk]; exact hi), ho i e1]
  · rw [List.getElem?_eq_none (by simp [mj_ws_len]; omega), List.getElem?_eq_none (by simp [mj_ws_len, hk]; omega)]
theorem mj_row_ne {α : Type} {I : Nat → α} {h a : Nat} {f : α} (e : a ≠ h) : mj_row I h f a = I a := if_neg e
theorem mj_row_eq {α : Type} {I : Nat → α} {h : Nat} {f : α} : mj_row I h f h = f := if_pos rfl
theorem mj_getD {L : mjL} {i : Nat} {v : Value} (h : L.getD i none = some v) : L[i]? = some (some v) := by
  rw [List.getD_eq_getElem?_getD] at h
  cases hL : L[i]? with
  | none => rw [hL] at h; cases h
  | some o => rw [hL] at h; exact congrArg some h
/-! reading the small machine's steps backwards -/
theorem mj_ldi_inv {o : Option Value} {f : Int32 → Option mjC} {C : mjC} (h : mj_ldi o f = some C) : ∃ x, o = some (.int x) ∧ f x = some C := by
  unfold mj_ldi at h; split at h
  · exact ⟨_, rfl, h⟩
  · cases h
theorem mj_ldl_inv {o : Option Value} {f : Int64 → Option mjC} {C : mjC} (h : mj_ldl o f = some C) : ∃ x, o = some (.long x) ∧ f x = some C := by
  unfold mj_ldl at h; split at h
  · exact ⟨_, rfl, h⟩
  · cases h
theorem mj_ldr_inv {o : Option Value} {f : Nat → Option mjC} {C : mjC} (h : mj_ldr o f = some C) : ∃ x, o = some (.ref x) ∧ f x = some C := by
  unfold mj_ldr at h; split at h
  · exact ⟨_, rfl, h⟩
  · cases h
theorem mj_p1_inv {st : List Value} {f : Int32 → List Value → Option mjC} {C : mjC} (h : mj_p1 st f = some C) : ∃ x r, st = .int x :: r ∧ f x r = some C := by
  unfold mj_p1 at h; split at h
  · exact ⟨_, _, rfl, h⟩
  · cases h
theorem mj_p2_inv {st : List Value} {f : Int32 → Int32 → List Value → Option mjC} {C : mjC} (h : mj_p2 st f = some C) : ∃ x z r, st = .int z :: .int x :: r ∧ f x z r = some C := by
  unfold mj_p2 at h; split at h
  · exact ⟨_, _, _, rfl, h⟩
  · cases h
theorem mj_q1_inv {st : List Value} {f : Int64 → List Value → Option mjC} {C : mjC} (h : mj_q1 st f = some C) : ∃ x r, st = .long x :: r ∧ f x r = some C := by
  unfold mj_q1 at h; split at h
  · exact ⟨_, _, rfl, h⟩
  · cases h
theorem mj_q2_inv {st : List Value} {f : Int64 → Int64 → List Value → Option mjC} {C : mjC} (h : mj_q2 st f = some C) : ∃ x z r, st = .long z :: .long x :: r ∧ f x z r = some C := by
  unfold mj_q2 at h; split at h
  · exact ⟨_, _, _, rfl, h⟩
  · cases h
theorem mj_pr_inv {st : List Value} {f : Nat → List Value → Option mjC} {C : mjC} (h : mj_pr st f = some C) : ∃ x r, st = .ref x :: r ∧ f x r = some C := by
  unfold mj_pr at h; split at h
  · exact ⟨_, _, rfl, h⟩
  · cases h
theorem mj_pir_inv {st : List Value} {f : Nat → Int32 → List Value → Option mjC} {C : mjC} (h : mj_pir st f = some C) : ∃ a v r, st = .int v :: .ref a :: r ∧ f a v r = some C := by
  unfold mj_pir at h; split at h
  · exact ⟨_, _, _, rfl, h⟩
  · cases h
theorem mj_prr_inv {st : List Value} {f : Nat → Nat → List Value → Option mjC} {C : mjC} (h : mj_prr st f = some C) : ∃ a v r, st = .ref v :: .ref a :: r ∧ f a v r = some C := by
  unfold mj_prr at h; split at h
  · exact ⟨_, _, _, rfl, h⟩
  · cases h
theorem mj_piir_inv {st : List Value} {f : Nat → Int32 → Int32 → List Value → Option mjC} {C : mjC} (h : mj_piir st f = some C) : ∃ a i v r, st = .int v :: .int i :: .ref a :: r ∧ f a i v r = some C := by
  unfold mj_piir at h; split at h
  · exact ⟨_, _, _, _, rfl, h⟩
  · cases h
theorem mj_plir_inv {st : List Value} {f : Nat → Int32 → Int64 → List Value → Option mjC} {C : mjC} (h : mj_plir st f = some C) : ∃ a i v r, st = .long v :: .int i :: .ref a :: r ∧ f a i v r = some C := by
  unfold mj_plir at h; split at h
  · exact ⟨_, _, _, _, rfl, h⟩
  · cases h
theorem mj_prir_inv {st : List Value} {f : Nat → Int32 → Nat → List Value → Option mjC} {C : mjC} (h : mj_prir st f = some C) : ∃ a i v r, st = .ref v :: .int i :: .ref a :: r ∧ f a i v r = some C := by
  unfold mj_prir at h; split at h
  · exact ⟨_, _, _, _, rfl, h⟩
  · cases h
theorem mj_pcp_inv {st : List Value} {f : Nat → Int32 → Nat → Int32 → Int32 → List Value → Option mjC} {C : mjC} (h : mj_pcp st f = some C) : ∃ a sp d dp n r, st = .int n :: .int dp :: .ref d :: .int sp :: .ref a :: r ∧ f a sp d dp n r = some C := by
  unfold mj_pcp at h; split at h
  · exact ⟨_, _, _, _, _, _, rfl, h⟩
  · cases h
theorem mj_ix_inv {w : mjW} {h kd : Nat} {i : Int32} {f : Option mjC} {C : mjC} (hh : mj_ix w h kd i f = some C) : mj_kd w h = (kd, (mj_kd w h).2) ∧ vp_in i (mj_kd w h).2 ∧ f = some C := by
  unfold mj_ix at hh
  split at hh
  · next e1 =>
    split at hh
    · cases hh
    · next e2 => exact ⟨by rw [← e1], e2, hh⟩
  · cases hh
