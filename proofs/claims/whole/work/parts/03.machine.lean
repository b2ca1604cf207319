/-! a small machine over worlds of numbered cells: (kinds, ints, longs, references) -/
abbrev mjW : Type := List (Nat × Nat) × (Nat → Nat → Int32) × (Nat → Nat → Int64) × (Nat → Nat → Option Nat)
abbrev mjL : Type := List (Option Value)
abbrev mjC : Type := Nat × mjL × List Value × mjW × Nat × Nat
noncomputable def mj_kI (k : Int) : Int32 := match k with
  | .ofNat n => nI n
  | .negSucc 0 => -1
  | .negSucc 1 => -2
  | .negSucc 2 => -3
  | .negSucc 3 => -4
  | .negSucc 10 => -11
  | .negSucc 11 => -12
  | .negSucc 12 => -13
  | .negSucc 13 => -14
  | .negSucc 19 => -20
  | .negSucc n => Int32.ofInt (.negSucc n)
noncomputable def mj_kL (k : Int) : Int64 := match k with
  | .ofNat n => lN n
  | .negSucc n => Int64.ofInt (.negSucc n)
noncomputable def mj_nl : Option Value → Option Value
  | some (.long _) => none
  | some (.double _) => none
  | o => o
noncomputable def mj_st1 (L : mjL) (i : Nat) (v : Value) : mjL := match i with
  | 0 => L.set 0 (some v)
  | k + 1 => (L.set k (mj_nl (L.getD k none))).set (k + 1) (some v)
noncomputable def mj_st2 (L : mjL) (i : Nat) (v : Value) : mjL := (mj_st1 L i v).set (i + 1) none
noncomputable def mj_ldi (o : Option Value) (f : Int32 → Option mjC) : Option mjC := match o with
  | some (.int x) => f x
  | _ => none
noncomputable def mj_ldl (o : Option Value) (f : Int64 → Option mjC) : Option mjC := match o with
  | some (.long x) => f x
  | _ => none
noncomputable def mj_ldr (o : Option Value) (f : Nat → Option mjC) : Option mjC := match o with
  | some (.ref x) => f x
  | _ => none
noncomputable def mj_p1 (st : List Value) (f : Int32 → List Value → Option mjC) : Option mjC := match st with
  | .int x :: r => f x r
  | _ => none
noncomputable def mj_p2 (st : List Value) (f : Int32 → Int32 → List Value → Option mjC) : Option mjC := match st with
  | .int y :: .int x :: r => f x y r
  | _ => none
noncomputable def mj_q1 (st : List Value) (f : Int64 → List Value → Option mjC) : Option mjC := match st with
  | .long x :: r => f x r
  | _ => none
noncomputable def mj_q2 (st : List Value) (f : Int64 → Int64 → List Value → Option mjC) : Option mjC := match st with
  | .long y :: .long x :: r => f x y r
  | _ => none
noncomputable def mj_pr (st : List Value) (f : Nat → List Value → Option mjC) : Option mjC := match st with
  | .ref h :: r => f h r
  | _ => none
noncomputable def mj_pir (st : List Value) (f : Nat → Int32 → List Value → Option mjC) : Option mjC := match st with
  | .int v :: .ref h :: r => f h v r
  | _ => none
noncomputable def mj_prr (st : List Value) (f : Nat → Nat → List Value → Option mjC) : Option mjC := match st with
  | .ref v :: .ref h :: r => f h v r
  | _ => none
noncomputable def mj_piir (st : List Value) (f : Nat → Int32 → Int32 → List Value → Option mjC) : Option mjC := match st with
  | .int v :: .int i :: .ref h :: r => f h i v r
  | _ => none
noncomputable def mj_plir (st : List Value) (f : Nat → Int32 → Int64 → List Value → Option mjC) : Option mjC := match st with
  | .long v :: .int i :: .ref h :: r => f h i v r
  | _ => none
noncomputable def mj_prir (st : List Value) (f : Nat → Int32 → Nat → List Value → Option mjC) : Option mjC := match st with
  | .ref v :: .int i :: .ref h :: r => f h i v r
  | _ => none
noncomputable def mj_pcp (st : List Value) (f : Nat → Int32 → Nat → Int32 → Int32 → List Value → Option mjC) : Option mjC := match st with
  | .int n :: .int dp :: .ref d :: .int sp :: .ref s :: r => f s sp d dp n r
  | _ => none
/-- the kind of a cell: (0, number of its class), (1, n) ints, (2, n) longs, (3, n) Hands, (4, n) rows of longs -/
noncomputable def mj_kd (w : mjW) (h : Nat) : Nat × Nat := w.1.getD h (99, 0)
noncomputable def mj_ix (w : mjW) (h kd : Nat) (i : Int32) (f : Option mjC) : Option mjC :=
  if (mj_kd w h).1 = kd then (if i < 0 ∨ (mj_kd w h).2 ≤ i.toNatClampNeg then none else f) else none
noncomputable def mj_cl (ci : Nat) : vw_C := vwCl.getD ci (RX0, TX0, 0)
noncomputable def mj_fn (ci : Nat) : Nat := (mj_cl ci).2.2
noncomputable def mj_sz (w : mjW) (h : Nat) : Nat := match mj_kd w h with
  | (0, ci) => mj_fn ci
  | (1, _) => 0
  | (2, _) => 0
  | (_, n) => n
noncomputable def mj_vok (n : Nat) : Value → Bool
  | .ref h => Nat.blt h n || Nat.beq h 1000
  | _ => true
noncomputable def mj_ook (n : Nat) : Option Value → Bool
  | some v => mj_vok n v
  | none => true
noncomputable def mj_nok (n : Nat) : Option Nat → Bool
  | some h => Nat.blt h n
  | none => true
noncomputable def mj_wf (w : mjW) (L : mjL) (st : List Value) : Bool :=
  st.all (mj_vok w.1.length) && L.all (mj_ook w.1.length) && (List.range w.1.length).all (fun h => (List.range (mj_sz w h)).all (fun k => mj_nok w.1.length (w.2.2.2 h k))) && Nat.blt w.1.length 1000
noncomputable def mj_tsw (pc : Nat) (x : Int32) (dflt : Int) : Nat → List Int → Nat
  | _, [] => ((pc : Int) + dflt).toNat
  | k, o :: os => if x = nI k then ((pc : Int) + o).toNat else mj_tsw pc x dflt (k + 1) os
noncomputable def mj_lsw (pc : Nat) (x : Int32) (dflt : Int) : List (Int × Int) → Nat
  | [] => ((pc : Int) + dflt).toNat
  | q :: qs => if x = mj_kI q.1 then ((pc : Int) + q.2).toNat else mj_lsw pc x dflt qs
/-- where "pslt" has a letter first; -1 -/
noncomputable def mj_ixc (c : Int32) : Int32 := if c = nI 112 then nI 0 else if c = nI 115 then nI 1 else if c = nI 108 then nI 2 else if c = nI 116 then nI 3 else -1
noncomputable def mj_row {α : Type} (I : Nat → α) (h : Nat) (f : α) : Nat → α := fun a => if a = h then f else I a
noncomputable def mj_r8 (r : List Value) (f : Option mjC) : Option mjC := if (r.map Value.category).sum ≤ 8 then f else none
/-- an instruction that is no call of the program's own and no return -/
noncomputable def mj_sim (y pc : Nat) (e : mjE) (L : mjL) (st : List Value) (w : mjW) (c q : Nat) : Option mjC :=
  match e with
  | (ins, ln, a, b, _, k) =>
  match ins with
  | .iconst _ => some (pc + ln, L, .int (mj_kI k) :: st, w, c, q)
  | .bipush _ => some (pc + ln, L, .int (mj_kI k) :: st, w, c, q)
  | .sipush _ => some (pc + ln, L, .int (mj_kI k) :: st, w, c, q)
  | .lconst _ => some (pc + ln, L, .long (mj_kL k) :: st, w, c, q)
  | .ldc2_w _ => some (pc + ln, L, .long (mj_kL k) :: st, w, c, q)
  | .ldc _ => match a with
    | 0 => some (pc + ln, L, .int (mj_kI k) :: st, w, c, q)
    | _ => some (pc + ln, L, .ref 1000 :: st, w, c, q)
  | .iload_n i => mj_ldi (L.getD i none) fun x => some (pc + ln, L, .int x :: st, w, c, q)
  | .iload i => mj_ldi (L.getD i none) fun x => some (pc + ln, L, .int x :: st, w, c, q)
  | .lload_n i => mj_ldl (L.getD i none) fun x => some (pc + ln, L, .long x :: st, w, c, q)
  | .lload i => mj_ldl (L.getD i none) fun x => some (pc + ln, L, .long x :: st, w, c, q)
  | .aload_n i => mj_ldr (L.getD i none) fun x => some (pc + ln, L, .ref x :: st, w, c, q)
  | .istore_n i => if (i : Nat) < L.length then mj_p1 st fun x r => some (pc + ln, mj_st1 L i (.int x), r, w, c, q) else none
  | .istore i => if i < L.length then mj_p1 st fun x r => some (pc + ln, mj_st1 L i (.int x), r, w, c, q) else none
  | .lstore i => if i + 1 < L.length then mj_q1 st fun x r => some (pc + ln, mj_st2 L i (.long x), r, w, c, q) else none
  | .iinc i _ => if i < L.length then mj_ldi (L.getD i none) fun x => some (pc + ln, mj_st1 L i (.int (x + mj_kI k)), st, w, c, q) else none
  | .iadd => mj_p2 st fun x z r => some (pc + ln, L, .int (x + z) :: r, w, c, q)
  | .isub => mj_p2 st fun x z r => some (pc + ln, L, .int (x - z) :: r, w, c, q)
  | .imul => mj_p2 st fun x z r => some (pc + ln, L, .int (x * z) :: r, w, c, q)
  | .iand => mj_p2 st fun x z r => some (pc + ln, L, .int (x &&& z) :: r, w, c, q)
  | .ior => mj_p2 st fun x z r => some (pc + ln, L, .int (x ||| z) :: r, w, c, q)
  | .ixor => mj_p2 st fun x z r => some (pc + ln, L, .int (x ^^^ z) :: r, w, c, q)
  | .ishl => mj_p2 st fun x z r => some (pc + ln, L, .int (x <<< (z &&& 31)) :: r, w, c, q)
  | .ishr => mj_p2 st fun x z r => some (pc + ln, L, .int (x >>> (z &&& 31)) :: r, w, c, q)
  | .ineg => mj_p1 st fun x r => some (pc + ln, L, .int (-x) :: r, w, c, q)
  | .idiv => mj_p2 st fun x z r => if z = 0 then none else some (pc + ln, L, .int (x / z) :: r, w, c, q)
  | .irem => mj_p2 st fun x z r => if z = 0 then none else some (pc + ln, L, .int (x - x / z * z) :: r, w, c, q)
  | .ladd => mj_q2 st fun x z r => some (pc + ln, L, .long (x + z) :: r, w, c, q)
  | .lmul => mj_q2 st fun x z r => some (pc + ln, L, .long (x * z) :: r, w, c, q)
  | .land => mj_q2 st fun x z r => some (pc + ln, L, .long (x &&& z) :: r, w, c, q)
  | .lcmp => mj_q2 st fun x z r => some (pc + ln, L, .int (lg_cmp x z) :: r, w, c, q)
  | .i2l => mj_p1 st fun x r => some (pc + ln, L, .long x.toInt64 :: r, w, c, q)
  | .l2i => mj_q1 st fun x r => some (pc + ln, L, .int x.toInt32 :: r, w, c, q)
  | .i2b => mj_p1 st fun x r => some (pc + ln, L, .int x.toInt8.toInt32 :: r, w, c, q)
  | .i2s => mj_p1 st fun x r => some (pc + ln, L, .int x.toInt16.toInt32 :: r, w, c, q)
  | .i2c => mj_p1 st fun x r => some (pc + ln, L, .int (x.toUInt32 % 65536).toInt32 :: r, w, c, q)
  | .dup => match st with
    | .int x :: r => some (pc + ln, L, .int x :: .int x :: r, w, c, q)
    | .ref x :: r => some (pc + ln, L, .ref x :: .ref x :: r, w, c, q)
    | _ => none
  | .dup2 => match st with
    | .int i :: .ref h :: r => some (pc + ln, L, .int i :: .ref h :: .int i :: .ref h :: r, w, c, q)
    | _ => none
  | .pop => match st with
    | .int _ :: r => some (pc + ln, L, r, w, c, q)
    | _ => none
  | .goto _ => some (a, L, st, w, c, q)
  | .ifCond .eq _ => mj_p1 st fun x r => some (if x = 0 then a else pc + ln, L, r, w, c, q)
  | .ifCond .ne _ => mj_p1 st fun x r => some (if ¬ x = 0 then a else pc + ln, L, r, w, c, q)
  | .ifCond .lt _ => mj_p1 st fun x r => some (if x < 0 then a else pc + ln, L, r, w, c, q)
  | .ifCond .ge _ => mj_p1 st fun x r => some (if 0 ≤ x then a else pc + ln, L, r, w, c, q)
  | .ifCond .gt _ => mj_p1 st fun x r => some (if 0 < x then a else pc + ln, L, r, w, c, q)
  | .ifCond .le _ => mj_p1 st fun x r => some (if x ≤ 0 then a else pc + ln, L, r, w, c, q)
  | .if_icmp .eq _ => mj_p2 st fun x z r => some (if x = z then a else pc + ln, L, r, w, c, q)
  | .if_icmp .ne _ => mj_p2 st fun x z r => some (if ¬ x = z then a else pc + ln, L, r, w, c, q)
  | .if_icmp .lt _ => mj_p2 st fun x z r => some (if x < z then a else pc + ln, L, r, w, c, q)
  | .if_icmp .ge _ => mj_p2 st fun x z r => some (if z ≤ x then a else pc + ln, L, r, w, c, q)
  | .if_icmp .gt _ => mj_p2 st fun x z r => some (if z < x then a else pc + ln, L, r, w, c, q)
  | .if_icmp .le _ => mj_p2 st fun x z r => some (if x ≤ z then a else pc + ln, L, r, w, c, q)
  | .tableswitch dflt _ _ offs => mj_p1 st fun x r => some (mj_tsw pc x dflt 0 offs.toList, L, r, w, c, q)
  | .lookupswitch dflt ps => mj_p1 st fun x r => some (mj_lsw pc x dflt ps.toList, L, r, w, c, q)
  | .getfield _ => mj_pr st fun h r => if mj_kd w h = (0, a) then (match k with
    | .ofNat 2 => some (pc + ln, L, va_rf (w.2.2.2 h b) :: r, w, c, q)
    | _ => some (pc + ln, L, .int (w.2.1 h b) :: r, w, c, q)) else none
  | .putfield _ => match k with
    | .ofNat 0 => mj_pir st fun h v r => if mj_kd w h = (0, a) then some (pc + ln, L, r, (w.1, mj_row w.2.1 h (va_up (w.2.1 h) b v), w.2.2), c, q) else none
    | .ofNat 1 => mj_pir st fun h v r => if mj_kd w h = (0, a) then (if v = 0 ∨ v = 1 then some (pc + ln, L, r, (w.1, mj_row w.2.1 h (va_up (w.2.1 h) b v), w.2.2), c, q) else none) else none
    | _ => mj_prr st fun h v r => if mj_kd w h = (0, a) then some (pc + ln, L, r, (w.1, w.2.1, w.2.2.1, mj_row w.2.2.2 h (va_up (w.2.2.2 h) b (some v))), c, q) else none
  | .iaload => mj_pir st fun h i r => mj_ix w h 1 i (some (pc + ln, L, .int (w.2.1 h i.toNatClampNeg) :: r, w, c, q))
  | .laload => mj_pir st fun h i r => mj_ix w h 2 i (some (pc + ln, L, .long (w.2.2.1 h i.toNatClampNeg) :: r, w, c, q))
  | .aaload => mj_pir st fun h i r => if (mj_kd w h).1 = 4 then mj_ix w h 4 i (some (pc + ln, L, va_rf (w.2.2.2 h i.toNatClampNeg) :: r, w, c, q)) else mj_ix w h 3 i (some (pc + ln, L, va_rf (w.2.2.2 h i.toNatClampNeg) :: r, w, c, q))
  | .iastore => mj_piir st fun h i v r => mj_ix w h 1 i (some (pc + ln, L, r, (w.1, mj_row w.2.1 h (va_up (w.2.1 h) i.toNatClampNeg v), w.2.2), c, q))
  | .lastore => mj_plir st fun h i v r => mj_ix w h 2 i (some (pc + ln, L, r, (w.1, w.2.1, mj_row w.2.2.1 h (va_up (w.2.2.1 h) i.toNatClampNeg v), w.2.2.2), c, q))
  | .aastore => mj_prir st fun h i v r => if mj_kd w v = (0, 0) then mj_ix w h 3 i (some (pc + ln, L, r, (w.1, w.2.1, w.2.2.1, mj_row w.2.2.2 h (va_up (w.2.2.2 h) i.toNatClampNeg (some v))), c, q)) else none
  | .arraylength => mj_pr st fun h r => if (mj_kd w h).1 = 1 then some (pc + ln, L, .int (nI (mj_kd w h).2) :: r, w, c, q) else none
  | .new _ => if mj_wf w L st = true ∧ c + 1 ≤ mj_mc y ∧ q + mj_fn a ≤ mj_ms y then
      some (pc + ln, L, .ref w.1.length :: st, (w.1 ++ [(0, a)], mj_row w.2.1 w.1.length (fun _ => 0), w.2.2.1, mj_row w.2.2.2 w.1.length (fun _ => none)), c + 1, q + mj_fn a) else none
  | .newarray t => mj_p1 st fun x r => if mj_wf w L r = true ∧ ¬ x < 0 ∧ x.toNatClampNeg ≤ 5000 ∧ c + 1 ≤ mj_mc y ∧ q + x.toNatClampNeg ≤ mj_ms y then (match t with
      | .int => some (pc + ln, L, .ref w.1.length :: r, (w.1 ++ [(1, x.toNatClampNeg)], mj_row w.2.1 w.1.length (fun _ => 0), w.2.2), c + 1, q + x.toNatClampNeg)
      | .long => some (pc + ln, L, .ref w.1.length :: r, (w.1 ++ [(2, x.toNatClampNeg)], w.2.1, mj_row w.2.2.1 w.1.length (fun _ => 0), w.2.2.2), c + 1, q + x.toNatClampNeg)
      | _ => none) else none
  | .anewarray _ => mj_p1 st fun x r => if mj_wf w L r = true ∧ ¬ x < 0 ∧ x.toNatClampNeg ≤ 5000 ∧ c + 1 ≤ mj_mc y ∧ q + x.toNatClampNeg ≤ mj_ms y then
      some (pc + ln, L, .ref w.1.length :: r, (w.1 ++ [(3, x.toNatClampNeg)], w.2.1, w.2.2.1, mj_row w.2.2.2 w.1.length (fun _ => none)), c + 1, q + x.toNatClampNeg) else none
  | .multianewarray _ _ => mj_p2 st fun x z r => if mj_wf w L r = true ∧ ¬ x < 0 ∧ ¬ z < 0 ∧ x.toNatClampNeg ≤ 5000 ∧ z.toNatClampNeg ≤ 5000 ∧ w.1.length + x.toNatClampNeg < 1000 ∧ c + (1 + x.toNatClampNeg) ≤ mj_mc y ∧ q + (x.toNatClampNeg + x.toNatClampNeg * z.toNatClampNeg) ≤ mj_ms y then
      some (pc + ln, L, .ref w.1.length :: r, (w.1 ++ (4, x.toNatClampNeg) :: List.replicate x.toNatClampNeg (2, z.toNatClampNeg), w.2.1, (fun h => if w.1.length < h then (fun _ => 0) else w.2.2.1 h), mj_row w.2.2.2 w.1.length (fun i => if i < x.toNatClampNeg then some (w.1.length + 1 + i) else none)), c + 1 + x.toNatClampNeg, q + x.toNatClampNeg + x.toNatClampNeg * z.toNatClampNeg) else none
  | .invokespecial _ => match a with
    | 4 => mj_pr st fun _ r => mj_r8 r (some (pc + ln, L, r, w, c, q))
    | _ => none
  | .invokestatic _ => match a with
    | 5 => mj_p2 st fun x z r => mj_r8 r (some (pc + ln, L, .int (if z < x then z else x) :: r, w, c, q))
    | 6 => mj_pcp st fun s sp d dp n r => mj_r8 r <| if sp < 0 ∨ dp < 0 ∨ n < 0 ∨ (mj_kd w s).2 < sp.toNatClampNeg + n.toNatClampNeg ∨ (mj_kd w d).2 < dp.toNatClampNeg + n.toNatClampNeg then none else
        if (mj_kd w s).1 = 1 ∧ (mj_kd w d).1 = 1 then some (pc + ln, L, r, (w.1, mj_row w.2.1 d (va_cpy (w.2.1 s) (w.2.1 d) sp.toNatClampNeg dp.toNatClampNeg n.toNatClampNeg), w.2.2), c, q) else
        if (mj_kd w s).1 = 2 ∧ (mj_kd w d).1 = 2 then some (pc + ln, L, r, (w.1, w.2.1, mj_row w.2.2.1 d (va_cpy (w.2.2.1 s) (w.2.2.1 d) sp.toNatClampNeg dp.toNatClampNeg n.toNatClampNeg), w.2.2.2), c, q) else none
    | _ => none
  | .invokevirtual _ => match a with
    | 7 => mj_pir st fun h x r => mj_r8 r (if h = 1000 then some (pc + ln, L, .int (mj_ixc x) :: r, w, c, q) else none)
    | _ => none
  | _ => none
/-- 1: a return; 2: a call of the program's own; 0: any other -/
noncomputable def mj_op (e : mjE) : Nat := match e.1 with
  | .ireturn => 1
  | .lreturn => 1
  | .return_ => 1
  | .invokevirtual _ => bif Nat.ble e.2.2.1 3 then 2 else 0
  | .invokestatic _ => bif Nat.ble e.2.2.1 3 then 2 else 0
  | .invokespecial _ => bif Nat.ble e.2.2.1 3 then 2 else 0
  | _ => 0
noncomputable def mj_rtn (y : Nat) (e : mjE) (st : List Value) (w : mjW) : Option (mjW × Option Value) := match e.1 with
  | .ireturn => match st with
    | [.int v] => match mj_ret y with
      | some .int => some (w, some (.int v))
      | some .boolean => if v = 0 ∨ v = 1 then some (w, some (.int v)) else none
      | _ => none
    | _ => none
  | .lreturn => match st with
    | [.long v] => match mj_ret y with
      | some .long => some (w, some (.long v))
      | _ => none
    | _ => none
  | .return_ => match st with
    | [] => match mj_ret y with
      | none => some (w, none)
      | _ => none
    | _ => none
  | _ => none
noncomputable def mj_flat (as : List Value) : mjL := as.flatMap fun v => if v.category = 2 then [some v, none] else [some v]
noncomputable def mj_entry (z : Nat) (as : List Value) : mjL := mj_flat as ++ List.replicate (mj_ml z - (mj_flat as).length) none
noncomputable def mj_call (e : mjE) (st : List Value) (w : mjW) : Option (List Value × List Value) :=
  match e.2.2.1 with
  | 1 => if e.2.2.2.2.2.toNat ≤ st.length then some ((st.take e.2.2.2.2.2.toNat).reverse, st.drop e.2.2.2.2.2.toNat) else none
  | _ => match st.drop e.2.2.2.2.2.toNat with
    | .ref h :: r => if mj_kd w h = (0, mj_ci e.2.2.2.1) then some (.ref h :: (st.take e.2.2.2.2.2.toNat).reverse, r) else none
    | _ => none
noncomputable def mj_cok (y z : Nat) (L : mjL) (as rest : List Value) (w : mjW) (c q : Nat) : Bool :=
  Nat.ble (rest.map Value.category).sum 8 && Nat.ble (mj_flat as).length (mj_ml z) && Nat.ble (c + mj_mc z) (mj_mc y) && Nat.ble (q + mj_ms z) (mj_ms y) && (Nat.beq (mj_mc z) 0 || mj_wf w L rest)
noncomputable def mj_run : Nat → Nat → Nat → mjL → List Value → mjW → Nat → Nat → Option (mjW × Option Value)
  | 0, _, _, _, _, _, _, _ => none
  | n + 1, y, pc, L, st, w, c, q =>
    match mj_code y pc with
    | none => none
    | some e => if mj_op e = 0 then (match mj_sim y pc e L st w c q with
        | none => none
        | some C => mj_run n y C.1 C.2.1 C.2.2.1 C.2.2.2.1 C.2.2.2.2.1 C.2.2.2.2.2)
      else if mj_op e = 1 then mj_rtn y e st w
      else match mj_call e st w with
        | none => none
        | some ar =>
          if mj_cok y e.2.2.2.1 L ar.1 ar.2 w c q = true then
            match mj_run n e.2.2.2.1 0 (mj_entry e.2.2.2.1 ar.1) [] w 0 0 with
            | none => none
            | some wr => mj_run n y (pc + 3) L (wr.2.toList ++ ar.2) wr.1 (c + mj_mc e.2.2.2.1) (q + mj_ms e.2.2.2.1)
          else none
