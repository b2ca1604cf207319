/-! days and drift -/
def nextD (d : Nat) : Nat := (d * 1103515245 + 12345) % 2 ^ 31
def wthO (O : Off) (d : Nat) : Off := if d = 1 then drawO O (nextD O.draw) else O
def wthB (O : Off) (d : Nat) : Nat := if d = 1 then bitN (nextD O.draw) 16 else wetN O
def stepS (S : Sta) (d : Nat) : Sta := setO (remS S) (passO (wthO S.o d) (wthB S.o d))
def goS (S : Sta) (d : Nat) : Nat → Sta
  | 0 => S
  | k + 1 => stepS (goS S d k) d
def tookS (S : Sta) (d : Nat) : Nat := tookN (wthO S.o d) (wthB S.o d) S.o.n
def sumD (S : Sta) (d : Nat) : Nat → Nat
  | 0 => 0
  | k + 1 => sumD S d k + tookS (goS S d k) d
theorem draw_n (O : Off) (v : Nat) : (drawO O v).n = O.n := rfl
theorem draw_day (O : Off) (v : Nat) : (drawO O v).day = O.day := rfl
theorem wthO_n (O : Off) (d : Nat) : (wthO O d).n = O.n := by
  unfold wthO
  by_cases h : d = 1
  · rw [if_pos h]; exact draw_n _ _
  · rw [if_neg h]
theorem wthO_day (O : Off) (d : Nat) : (wthO O d).day = O.day := by
  unfold wthO
  by_cases h : d = 1
  · rw [if_pos h]; exact draw_day _ _
  · rw [if_neg h]
theorem mm31 (n : Nat) : n % 2 ^ 32 % 2 ^ 31 = n % 2 ^ 31 := by omega
theorem wthB_lt (O : Off) (d : Nat) : wthB O d < 2 := by
  unfold wthB; split
  · exact bitN_lt _ _
  · exact wetN_lt _
theorem nextD_lt (d : Nat) : nextD d < 2 ^ 31 := Nat.mod_lt _ (by decide)
theorem v_wth {O : Off} (hV : VO O) (d : Nat) : VO (wthO O d) := by
  unfold wthO; split
  · exact v_draw hV (nextD_lt _)
  · exact hV
theorem goS_day (S : Sta) (d : Nat) : ∀ k, (goS S d k).o.day = S.o.day + k
  | 0 => rfl
  | k + 1 => by
    show (wthO (goS S d k).o d).day + 1 = _
    rw [wthO_day, goS_day S d k]; omega
theorem goS_n (S : Sta) (d : Nat) : ∀ k, (goS S d k).o.n = S.o.n
  | 0 => rfl
  | k + 1 => by
    show (wthO (goS S d k).o d).n = _
    rw [wthO_n, goS_n S d k]
theorem vs_step {S : Sta} (hV : VS S) (d : Nat) (hd : S.o.day + 1 ≤ 9999) : VS (stepS S d) := by
  have h1 := v_wth hV.o d
  exact vs_o (vs_rem hV) (v_pass h1 (by rw [wthO_day]; omega) _) (by show (wthO S.o d).day + 1 ≤ 9999; rw [wthO_day]; exact hd) (wthO_n _ _)
theorem vs_go {S : Sta} (hV : VS S) (d : Nat) : ∀ k, S.o.day + k ≤ 9999 → VS (goS S d k)
  | 0, _ => hV
  | k + 1, h => vs_step (vs_go hV d k (by omega)) d (by rw [goS_day]; omega)
theorem sumD_le (S : Sta) (d : Nat) (hn : S.o.n ≤ 7) : ∀ k, sumD S d k ≤ 7 * k
  | 0 => Nat.le_refl _
  | k + 1 => by
    have h1 := sumD_le S d hn k
    have h2 := tookN_le (wthO (goS S d k).o d) (wthB (goS S d k).o d) (goS S d k).o.n
    have h3 := goS_n S d k
    show sumD S d k + tookN (wthO (goS S d k).o d) (wthB (goS S d k).o d) (goS S d k).o.n ≤ _
    omega
def aDays (S : Sta) (x : Int32) (d : Nat) : Int32 := if iR x 1 60 = 1 then (if S.o.day + nn x ≤ 9999 then nI (sumD S d (nn x)) else -3) else -1
def sDays (S : Sta) (x : Int32) (d : Nat) : Sta := if iR x 1 60 = 1 then (if S.o.day + nn x ≤ 9999 then goS S d (nn x) else S) else S
theorem vs_days {S : Sta} (hV : VS S) (x : Int32) (d : Nat) : VS (sDays S x d) := by
  unfold sDays
  split
  · split
    · next h => exact vs_go hV d _ h
    · exact hV
  · exact hV
theorem looksN_draw (O : Off) (v p : Nat) : ∀ r, looksN (drawO O v) p r = looksN O p r
  | 0 => rfl
  | r + 1 => by unfold looksN; rw [looksN_draw O v p r]; rfl
theorem modelN_draw (O : Off) (v p : Nat) : modelN (drawO O v) p = modelN O p := by
  unfold modelN
  show (if O.kind p = 3 ∨ bitN O.dry (O.chair p) = 1 then 0 else looksN (drawO O v) p O.n) = _
  rw [looksN_draw]
theorem wa_draw {I I' : Nat → Nat → Int32} {o v : Nat} {O : Off} {P : Nat → Prop} {m : Nat} {ws : Nat → Nat} (hW : WA I o O P m ws) (e : I' = mj_row I o (va_up (I o) 4 (nI v))) : WA I' o (drawO O v) P m ws := by
  refine ⟨by rw [st_ne e (by omega)]; exact hW.m, hW.m7, by rw [st_h e (by omega)]; exact hW.ws, hW.all, ?_, ?_⟩
  · intro p hp hP; rw [st_h e (by omega), modelN_draw]; exact hW.mod p hp hP
  · intro p hp hP; rw [modelN_draw]; exact hW.cl p hp hP
section PA
variable {I : Nat → Nat → Int32} {J : Nat → Nat → Int64} {S : Sta} {o : Nat} {O : Off} {P : Nat → Prop}
theorem draw_and (d : Nat) : (nI (d * 1103515245 + 12345)) &&& nI 2147483647 = nI (nextD d) := by
  rw [pk_and (k := 31) _ (by decide)]
  show nI ((BitVec.ofNat 32 (d * 1103515245 + 12345)).toNat % 2 ^ 31) = _
  rw [BitVec.toNat_ofNat]
  exact congrArg nI (mm31 _)
theorem c_drawWet (hG : OfG o) (hO : RO I o O P) : mj_E 22 [.ref o] (KC, I, J, GC) (fun w' r => r = some (.int (nI (bitN (nextD O.draw) 16))) ∧ ∃ I', w' = (KC, I', J, GC) ∧ I' = mj_row I o (va_up (I o) 4 (nI (nextD O.draw)))) := by
  have hl := nextD_lt O.draw
  have hb := bitN_lt (nextD O.draw) 16
  refine mjT_go 2 (pc' := 2) (L' := [some (.ref o)]) (st' := [.ref o, .ref o]) (w1 := (KC, I, J, GC)) rfl ?_
  refine mjT_gfi (v := nI O.draw) rfl (Or.inl rfl) (pc' := 5) rfl hG.k0 (mo_at (hO.draw) (by omega) (by omega)) ?_
  refine mjT_go 5 (pc' := 14) (L' := [some (.ref o)]) (st' := [.int (nI 2147483647), .int (((nI O.draw) * (nI 1103515245)) + (nI 12345)), .ref o]) (w1 := (KC, I, J, GC)) rfl ?_
  refine mjT_go 1 (pc' := 15) (L' := [some (.ref o)]) (st' := [.int ((((nI O.draw) * (nI 1103515245)) + (nI 12345)) &&& (nI 2147483647)), .ref o]) (w1 := (KC, I, J, GC)) rfl ?_
  rw [pk_mul, nI_add, draw_and]
  obtain ⟨V1, eV1⟩ : ∃ z, z = mj_row I o (va_up (I o) 4 (nI (nextD O.draw))) := ⟨_, rfl⟩
  refine mjT_pfi (I' := V1) rfl (pc' := 18) rfl hG.k0 eV1.symm ?_
  refine mjT_go 1 (pc' := 19) (L' := [some (.ref o)]) (st' := [.ref o]) (w1 := (KC, V1, J, GC)) rfl ?_
  refine mjT_gfi (v := nI (nextD O.draw)) rfl (Or.inl rfl) (pc' := 22) rfl hG.k0 (show V1 o 4 = nI (nextD O.draw) from (st_at eV1)) ?_
  refine mjT_go 4 (pc' := 27) (L' := [some (.ref o)]) (st' := [.int (((nI (nextD O.draw)) >>> ((nI 16) &&& 31)) &&& (nI 1))]) (w1 := (KC, V1, J, GC)) rfl ?_
  rw [bit_at hl (by omega)]
  refine mjT_go 2 (pc' := if ¬ nI (bitN (nextD O.draw) 16) = nI 1 then 35 else 31) (L' := [some (.ref o)]) (st' := []) (w1 := (KC, V1, J, GC)) rfl ?_
  refine mjT_if_ne (u := bitN (nextD O.draw) 16) (v := 1) rfl rfl (by omega) (by omega) (fun hc => ?_) (fun hc => ?_)
  · refine mjT_go 1 (pc' := 36) (L' := [some (.ref o)]) (st' := [.int (nI 0)]) (w1 := (KC, V1, J, GC)) rfl ?_
    rw [show bitN (nextD O.draw) 16 = 0 by omega]
    refine mjT_retb rfl rfl (by decide) ?_
    exact ⟨rfl, _, rfl, eV1⟩
  · refine mjT_go 2 (pc' := 36) (L' := [some (.ref o)]) (st' := [.int (nI 1)]) (w1 := (KC, V1, J, GC)) rfl ?_
    rw [hc]
    refine mjT_retb rfl rfl (by decide) ?_
    exact ⟨rfl, _, rfl, eV1⟩
end PA
