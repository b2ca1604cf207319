/-! likely -/
/-- behind k days, wet as the bits of s say -/
def stO (O : Off) (s : Nat) : Nat → Off
  | 0 => O
  | k + 1 => passO (stO O s k) (bitN s k)
theorem st_n (O : Off) (s : Nat) : ∀ k, (stO O s k).n = O.n
  | 0 => rfl
  | k + 1 => st_n O s k
theorem st_day (O : Off) (s : Nat) : ∀ k, (stO O s k).day = O.day + k
  | 0 => rfl
  | k + 1 => by
    show (stO O s k).day + 1 = _
    rw [st_day O s k]; omega
theorem v_st {O : Off} (hV : VO O) (s : Nat) : ∀ k, O.day + k ≤ 20000 → VO (stO O s k)
  | 0, _ => hV
  | k + 1, h => v_pass (v_st hV s k (by omega)) (by rw [st_day]; omega) _
theorem modelN_st (O : Off) (s p : Nat) : ∀ k, modelN (stO O s k) p = modelN O p
  | 0 => rfl
  | k + 1 => by
    show modelN (passO (stO O s k) _) p = _
    rw [modelN_pass, modelN_st O s p k]
theorem wa_st {I : Nat → Nat → Int32} {o : Nat} {O : Off} {P : Nat → Prop} {m : Nat} {ws : Nat → Nat} (hW : WA I o O P m ws) (s k : Nat) : WA I o (stO O s k) P m ws := by
  refine ⟨hW.m, hW.m7, fun j hj => ?_, fun p hp hP => hW.all p (by rw [st_n] at hp; exact hp) hP, fun p hp hP => ?_, fun p hp hP => ?_⟩
  · rw [st_n]; exact hW.ws j hj
  · rw [modelN_st]; exact hW.mod p (by rw [st_n] at hp; exact hp) hP
  · rw [modelN_st]; exact hW.cl p (by rw [st_n] at hp; exact hp) hP
def waysN (O : Off) (p row n : Nat) : Nat → Nat
  | 0 => 0
  | s + 1 => waysN O p row n s + eqB (rw6 ((stO O s n).wr p)) row
theorem ways_le (O : Off) (p row n : Nat) : ∀ s, waysN O p row n s ≤ s
  | 0 => Nat.le_refl _
  | s + 1 => by
    have h1 := ways_le O p row n s
    have h2 := eqB_lt (rw6 ((stO O s n).wr p)) row
    unfold waysN; omega
def lbN (n W : Nat) : Nat := if W = 0 then 0 else Nat.gcd (2 ^ n) W
theorem lb_at : ∀ n, n < 9 → ∀ W, W < 257 → W ≤ 2 ^ n → nI W &&& -nI W = nI (lbN n W) := by decide +kernel
theorem hands_id (O : Off) : handsO O O = O := rfl
section LI
variable {I I' : Nat → Nat → Int32} {J : Nat → Nat → Int64} {K : List (Nat × Nat)} {G : Nat → Nat → Option Nat} {S : Sta} {o : Nat} {O : Off} {P : Nat → Prop}
abbrev FrH (I I' : Nat → Nat → Int32) : Prop := ∀ h, h ≠ 76 → h ≠ 77 → h ≠ 78 → h ≠ 85 → I' h = I h
theorem c_weathers (hV : VS S) (hC : CW I J S) {p row n : Nat} (hp : p < S.o.n) (hr : row < 2 ^ 18) (hn8 : n ≤ 8) : mj_E 119 [.ref 0, .int (nI p), .int (nI row), .int (nI n)] (KC, I, J, GC) (fun w' q => q = some (.int (nI (waysN S.o p row n (2 ^ n)))) ∧ ∃ I', w' = (KC, I', J, GC) ∧ CW I' J S) := by
  have hn := hV.o.n
  have hd := hV.day
  obtain ⟨la, hla⟩ := nI_surj (I 75 3)
  obtain ⟨dr, hdr⟩ := nI_surj (I 75 4)
  obtain ⟨T, hT⟩ : ∃ T, 2 ^ n = T := ⟨_, rfl⟩
  have hT8 : T ≤ 256 := by rw [← hT]; exact (Nat.pow_le_pow_right (show 0 < 2 by omega) hn8 : 2 ^ n ≤ 2 ^ 8)
  have hsh : nI 1 <<< (nI n &&& 31) = nI T := by rw [shb 1 (by omega) n (by omega), Nat.one_mul, hT]
  rw [hT]
  refine mjT_go 4 (pc' := 8) (L' := [some (.ref 0), some (.int (nI p)), some (.int (nI row)), some (.int (nI n)), none, none, none]) (st' := [.ref 1, .ref 75]) (w1 := (KC, I, J, GC)) rfl ?_
  refine mjT_call (as := [.ref 75, .ref 1]) (rest := []) rfl rfl rfl rfl rfl ⟨rfl, rfl⟩ (c_become hV.o.n og_75 og_1 (by omega) hC.o hla hdr) ?_
  rintro _ _ ⟨rfl, I2, rfl, hO2, hf2⟩
  refine mjT_go 3 (pc' := 16) (L' := [some (.ref 0), some (.int (nI p)), some (.int (nI row)), some (.int (nI n)), none, none, none]) (st' := [.int (nI p), .ref 75]) (w1 := (KC, I2, J, GC)) rfl ?_
  refine mjT_call (as := [.ref 75, .int (nI p)]) (rest := []) rfl rfl rfl rfl rfl ⟨rfl, rfl⟩ (c_watchOnly hV.o og_75 hO2 hp) ?_
  rintro _ _ ⟨rfl, I3, m, rfl, hf3, hW3, _, _⟩
  have hO3 := ro_watch hO2 hf3
  have hC3 : CW I3 J S := cw_fx hC hV (fun h hh => by rw [hf3.1 h (by omega) (by omega) (by omega), hf2 h (by omega)])
  have cwh : ∀ I', FrH I3 I' → CW I' J S := fun I' hf => cw_fx hC3 hV (fun h hh => hf h (by omega) (by omega) (by omega) (by omega))
  have wah : ∀ I', FrH I3 I' → WA I' 75 S.o (PcN S.o p) m (fun k => chW S.o p k - 1) := fun I' hf => wa_cong hW3 (hf _ (by omega) (by omega) (by omega) (by omega)) (hf _ (by omega) (by omega) (by omega) (by omega)) (hf _ (by omega) (by omega) (by omega) (by omega))
  refine mjT_go 4 (pc' := 25) (L' := [some (.ref 0), some (.int (nI p)), some (.int (nI row)), some (.int (nI n)), some (.int (nI 0)), some (.int (nI 0)), none]) (st' := []) (w1 := (KC, I3, J, GC)) rfl ?_
  refine mj_loop (fun k L w => ∃ (d : Option Value) (I' : Nat → Nat → Int32), L = [some (.ref 0), some (.int (nI p)), some (.int (nI row)), some (.int (nI n)), some (.int (nI (waysN S.o p row n k))), some (.int (nI k)), d] ∧ w = (KC, I', J, GC) ∧ FrH I3 I') T (k0 := 0) (Nat.zero_le _) ?_ ?_ ?_
  · exact ⟨_, _, rfl, rfl, fun _ _ _ _ _ => rfl⟩
  · rintro s _ _ hs ⟨d, I4, rfl, rfl, hf4⟩ hc
    have hC4 := cwh _ hf4
    refine mjT_go 3 (pc' := 29) (L' := [some (.ref 0), some (.int (nI p)), some (.int (nI row)), some (.int (nI n)), some (.int (nI (waysN S.o p row n s))), some (.int (nI s)), d]) (st' := [.int (nI n), .int (nI 1), .int (nI s)]) (w1 := (KC, I4, J, GC)) rfl ?_
    refine mjT_go 1 (pc' := 30) (L' := [some (.ref 0), some (.int (nI p)), some (.int (nI row)), some (.int (nI n)), some (.int (nI (waysN S.o p row n s))), some (.int (nI s)), d]) (st' := [.int ((nI 1) <<< ((nI n) &&& 31)), .int (nI s)]) (w1 := (KC, I4, J, GC)) rfl ?_
    rw [hsh]
    refine mjT_go 1 (pc' := if nI T ≤ nI s then 110 else 33) (L' := [some (.ref 0), some (.int (nI p)), some (.int (nI row)), some (.int (nI n)), some (.int (nI (waysN S.o p row n s))), some (.int (nI s)), d]) (st' := []) (w1 := (KC, I4, J, GC)) rfl ?_
    refine mjT_ifF (nI_ge (by omega) (by omega)) ?_
    refine mjT_go 6 (pc' := 47) (L' := [some (.ref 0), some (.int (nI p)), some (.int (nI row)), some (.int (nI n)), some (.int (nI (waysN S.o p row n s))), some (.int (nI s)), d]) (st' := [.ref 2, .ref 76]) (w1 := (KC, I4, J, GC)) rfl ?_
    refine mjT_call (as := [.ref 76, .ref 2]) (rest := []) rfl rfl rfl rfl rfl ⟨rfl, rfl⟩ (c_hbecome hV.o.n (ha_of og_75) (ha_of og_1) (by omega) (ho_of hC4.o)) ?_
    rintro _ _ ⟨rfl, I5, rfl, hH5, hf5⟩
    have hO5 : RO I5 75 S.o TT := by
      have := ro_h2 (I' := I5) (H := S.o) hO3 (fun k hk => by rw [hf5 _ (by omega), hf4 _ (by omega) (by omega) (by omega) (by omega)]) rfl hH5
      rw [hands_id] at this
      exact this
    have hf35 : FrH I3 I5 := fun h a b c d => by rw [hf5 h (by omega), hf4 h a b c d]
    refine mjT_go 2 (pc' := 53) (L' := [some (.ref 0), some (.int (nI p)), some (.int (nI row)), some (.int (nI n)), some (.int (nI (waysN S.o p row n s))), some (.int (nI s)), some (.int (nI 0))]) (st' := []) (w1 := (KC, I5, J, GC)) rfl ?_
    refine mj_loop (fun k L w => ∃ I', L = [some (.ref 0), some (.int (nI p)), some (.int (nI row)), some (.int (nI n)), some (.int (nI (waysN S.o p row n s))), some (.int (nI s)), some (.int (nI k))] ∧ w = (KC, I', J, GC) ∧ FrH I3 I' ∧ RO I' 75 (stO S.o s k) (PcN S.o p)) n (k0 := 0) (Nat.zero_le _) ?_ ?_ ?_
    · exact ⟨_, rfl, rfl, hf35, ro_P hO5 (fun q _ => trivial)⟩
    · rintro k _ _ hk ⟨I6, rfl, rfl, hf6, hO6⟩ hck
      have hVk := v_st hV.o s k (by omega)
      have hb2 := bitN_lt s k
      have step : ∀ b, b < 2 → b = bitN s k → mj_To 119 79 [some (.ref 0), some (.int (nI p)), some (.int (nI row)), some (.int (nI n)), some (.int (nI (waysN S.o p row n s))), some (.int (nI s)), some (.int (nI k))] [.int (nI b), .ref 75] (KC, I6, J, GC) _ := fun b hb eb => by
        refine mjT_call (as := [.ref 75, .int (nI b)]) (rest := []) rfl rfl rfl rfl rfl ⟨rfl, rfl⟩ (c_passDay hVk og_75 hO6 (wa_st (wah _ hf6) s k) hb) ?_
        rintro _ _ ⟨rfl, I7, rfl, hO7, hf7⟩
        refine mjT_go 3 (pc' := 53) (L' := [some (.ref 0), some (.int (nI p)), some (.int (nI row)), some (.int (nI n)), some (.int (nI (waysN S.o p row n s))), some (.int (nI s)), some (.int ((nI k) + (nI 1)))]) (st' := []) (w1 := (KC, I7, J, GC)) rfl ?_
        rw [nI_add]
        exact hck _ _ ⟨_, rfl, rfl, fun h a b c d => by rw [hf7 h a b c d, hf6 h a b c d], by rw [eb] at hO7; exact hO7⟩
      refine mjT_go 3 (pc' := if nI n ≤ nI k then 89 else 59) (L' := [some (.ref 0), some (.int (nI p)), some (.int (nI row)), some (.int (nI n)), some (.int (nI (waysN S.o p row n s))), some (.int (nI s)), some (.int (nI k))]) (st' := []) (w1 := (KC, I6, J, GC)) rfl ?_
      refine mjT_ifF (nI_ge (by omega) (by omega)) ?_
      refine mjT_go 6 (pc' := 69) (L' := [some (.ref 0), some (.int (nI p)), some (.int (nI row)), some (.int (nI n)), some (.int (nI (waysN S.o p row n s))), some (.int (nI s)), some (.int (nI k))]) (st' := [.int (nI 1), .int ((nI s) >>> ((nI k) &&& 31)), .ref 75]) (w1 := (KC, I6, J, GC)) rfl ?_
      refine mjT_go 1 (pc' := 70) (L' := [some (.ref 0), some (.int (nI p)), some (.int (nI row)), some (.int (nI n)), some (.int (nI (waysN S.o p row n s))), some (.int (nI s)), some (.int (nI k))]) (st' := [.int (((nI s) >>> ((nI k) &&& 31)) &&& (nI 1)), .ref 75]) (w1 := (KC, I6, J, GC)) rfl ?_
      rw [bit_at (by omega) (by omega)]
      refine mjT_go 2 (pc' := if ¬ nI (bitN s k) = nI 1 then 78 else 74) (L' := [some (.ref 0), some (.int (nI p)), some (.int (nI row)), some (.int (nI n)), some (.int (nI (waysN S.o p row n s))), some (.int (nI s)), some (.int (nI k))]) (st' := [.ref 75]) (w1 := (KC, I6, J, GC)) rfl ?_
      refine mjT_if_ne (u := bitN s k) (v := 1) rfl rfl (by omega) (by omega) (fun hb => ?_) (fun hb => ?_)
      · refine mjT_go 1 (pc' := 79) (L' := [some (.ref 0), some (.int (nI p)), some (.int (nI row)), some (.int (nI n)), some (.int (nI (waysN S.o p row n s))), some (.int (nI s)), some (.int (nI k))]) (st' := [.int (nI 0), .ref 75]) (w1 := (KC, I6, J, GC)) rfl ?_
        exact step 0 (by omega) (by omega)
      · refine mjT_go 2 (pc' := 79) (L' := [some (.ref 0), some (.int (nI p)), some (.int (nI row)), some (.int (nI n)), some (.int (nI (waysN S.o p row n s))), some (.int (nI s)), some (.int (nI k))]) (st' := [.int (nI 1), .ref 75]) (w1 := (KC, I6, J, GC)) rfl ?_
        exact step 1 (by omega) (by omega)
    · rintro _ _ ⟨I6, rfl, rfl, hf6, hO6⟩
      have hVn := v_st hV.o s n (by omega)
      have hnn := st_n S.o s n
      have hwl := rw6_lt (hVn.wr p (by omega))
      refine mjT_go 3 (pc' := if nI n ≤ nI n then 89 else 59) (L' := [some (.ref 0), some (.int (nI p)), some (.int (nI row)), some (.int (nI n)), some (.int (nI (waysN S.o p row n s))), some (.int (nI s)), some (.int (nI n))]) (st' := []) (w1 := (KC, I6, J, GC)) rfl ?_
      refine mjT_ifT (Int32.le_refl _) ?_
      refine mjT_go 3 (pc' := 94) (L' := [some (.ref 0), some (.int (nI p)), some (.int (nI row)), some (.int (nI n)), some (.int (nI (waysN S.o p row n s))), some (.int (nI s)), some (.int (nI n))]) (st' := [.int (nI p), .ref 75]) (w1 := (KC, I6, J, GC)) rfl ?_
      refine mjT_callE (as := [.ref 75, .int (nI p)]) (rest := []) (r1 := some (.int (nI (rw6 ((stO S.o s n).wr p))))) rfl rfl rfl rfl rfl ⟨rfl, rfl⟩ (c_writtenBy hVn.n og_75 hO6 (by omega) (pc_self _ _)) ?_
      refine mjT_go 2 (pc' := if ¬ nI (rw6 ((stO S.o s n).wr p)) = nI row then 104 else 101) (L' := [some (.ref 0), some (.int (nI p)), some (.int (nI row)), some (.int (nI n)), some (.int (nI (waysN S.o p row n s))), some (.int (nI s)), some (.int (nI n))]) (st' := []) (w1 := (KC, I6, J, GC)) rfl ?_
      refine mjT_if_ne (u := rw6 ((stO S.o s n).wr p)) (v := row) rfl rfl (by omega) (by omega) (fun h3 => ?_) (fun h3 => ?_)
      · refine mjT_go 2 (pc' := 25) (L' := [some (.ref 0), some (.int (nI p)), some (.int (nI row)), some (.int (nI n)), some (.int (nI (waysN S.o p row n s))), some (.int ((nI s) + (nI 1))), some (.int (nI n))]) (st' := []) (w1 := (KC, I6, J, GC)) rfl ?_
        rw [nI_add, show waysN S.o p row n s = waysN S.o p row n (s + 1) by show _ = _ + eqB _ _; unfold eqB; rw [if_neg h3]; rfl]
        exact hc _ _ ⟨_, _, rfl, rfl, hf6⟩
      · refine mjT_go 3 (pc' := 25) (L' := [some (.ref 0), some (.int (nI p)), some (.int (nI row)), some (.int (nI n)), some (.int ((nI (waysN S.o p row n s)) + (nI 1))), some (.int ((nI s) + (nI 1))), some (.int (nI n))]) (st' := []) (w1 := (KC, I6, J, GC)) rfl ?_
        rw [nI_add, nI_add, show waysN S.o p row n s + 1 = waysN S.o p row n (s + 1) by show _ = _ + eqB _ _; unfold eqB; rw [if_pos h3]]
        exact hc _ _ ⟨_, _, rfl, rfl, hf6⟩
  · rintro _ _ ⟨d, I4, rfl, rfl, hf4⟩
    refine mjT_go 3 (pc' := 29) (L' := [some (.ref 0), some (.int (nI p)), some (.int (nI row)), some (.int (nI n)), some (.int (nI (waysN S.o p row n T))), some (.int (nI T)), d]) (st' := [.int (nI n), .int (nI 1), .int (nI T)]) (w1 := (KC, I4, J, GC)) rfl ?_
    refine mjT_go 1 (pc' := 30) (L' := [some (.ref 0), some (.int (nI p)), some (.int (nI row)), some (.int (nI n)), some (.int (nI (waysN S.o p row n T))), some (.int (nI T)), d]) (st' := [.int ((nI 1) <<< ((nI n) &&& 31)), .int (nI T)]) (w1 := (KC, I4, J, GC)) rfl ?_
    rw [hsh]
    refine mjT_go 1 (pc' := if nI T ≤ nI T then 110 else 33) (L' := [some (.ref 0), some (.int (nI p)), some (.int (nI row)), some (.int (nI n)), some (.int (nI (waysN S.o p row n T))), some (.int (nI T)), d]) (st' := []) (w1 := (KC, I4, J, GC)) rfl ?_
    refine mjT_ifT (Int32.le_refl _) ?_
    refine mjT_go 1 (pc' := 112) (L' := [some (.ref 0), some (.int (nI p)), some (.int (nI row)), some (.int (nI n)), some (.int (nI (waysN S.o p row n T))), some (.int (nI T)), d]) (st' := [.int (nI (waysN S.o p row n T))]) (w1 := (KC, I4, J, GC)) rfl ?_
    refine mjT_ret rfl rfl rfl ?_
    exact ⟨rfl, _, rfl, cwh _ hf4⟩
abbrev okL (S : Sta) (x y z u : Int32) : Prop := iP x S.o.n = 1 ∧ papN y = 1 ∧ iR z 0 8 = 1 ∧ iR u 0 1 = 1
noncomputable def aLikely (S : Sta) (x y z u : Int32) : Int32 := if iP x S.o.n = 1 ∧ papN y = 1 ∧ iR z 0 8 = 1 ∧ iR u 0 1 = 1 then (if nn u = 0 then nI (waysN S.o (nn x) (rw6 (dig (nn y))) (nn z) (2 ^ nn z) / Nat.gcd (2 ^ nn z) (waysN S.o (nn x) (rw6 (dig (nn y))) (nn z) (2 ^ nn z))) else nI (2 ^ nn z / Nat.gcd (2 ^ nn z) (waysN S.o (nn x) (rw6 (dig (nn y))) (nn z) (2 ^ nn z)))) else -1
theorem cc_likely (hV : VS S) (hC : CW I J S) {x y z u : Int32} : mj_E 93 [.ref 0, .int x, .int y, .int z, .int u] (KC, I, J, GC) (fun w' r => r = some (.int (aLikely S x y z u)) ∧ ∃ I' J', w' = (KC, I', J', GC) ∧ CW I' J' S) := by
  have hn := hV.o.n
  have hr1 := ip01 x S.o.n
  have hr2 := papN_lt y
  have hr3 := ir01 z 0 8
  have hr4 := ir01 u 0 1
  unfold aLikely
  refine mjT_go 1 (pc' := 1) (L' := [some (.ref 0), some (.int x), some (.int y), some (.int z), some (.int u), none, none, none]) (st' := [.int y]) (w1 := (KC, I, J, GC)) rfl ?_
  refine mjT_callE (as := [.int y]) (rest := []) (r1 := some (.int (pckI y))) rfl rfl rfl rfl rfl ⟨rfl, rfl⟩ c_packedP ?_
  refine mjT_go 4 (pc' := 11) (L' := [some (.ref 0), some (.int x), some (.int y), some (.int z), some (.int u), some (.int (pckI y)), none, none]) (st' := [.int x, .ref 1]) (w1 := (KC, I, J, GC)) rfl ?_
  refine mjT_callE (as := [.ref 1, .int x]) (rest := []) (r1 := some (.int (nI (iP x S.o.n)))) rfl rfl rfl rfl rfl ⟨rfl, rfl⟩ (c_has hV.o og_1 hC.o) ?_
  refine mjT_go 1 (pc' := if nI (iP x S.o.n) = 0 then 42 else 17) (L' := [some (.ref 0), some (.int x), some (.int y), some (.int z), some (.int u), some (.int (pckI y)), none, none]) (st' := []) (w1 := (KC, I, J, GC)) rfl ?_
  refine mjT_if_eq (u := iP x S.o.n) (v := 0) rfl nI_0.symm (by omega) (by omega) (fun h1 => ?_) (fun h1 => ?_)
  · rw [if_neg (by omega)]
    refine mjT_go 1 (pc' := 43) (L' := [some (.ref 0), some (.int x), some (.int y), some (.int z), some (.int u), some (.int (pckI y)), none, none]) (st' := [.int (-1)]) (w1 := (KC, I, J, GC)) rfl ?_
    refine mjT_ret rfl rfl rfl ?_
    exact ⟨rfl, _, _, rfl, hC⟩
  refine mjT_go 2 (pc' := if pckI y < 0 then 42 else 22) (L' := [some (.ref 0), some (.int x), some (.int y), some (.int z), some (.int u), some (.int (pckI y)), none, none]) (st' := []) (w1 := (KC, I, J, GC)) rfl ?_
  refine mjT_if (fun h2 => ?_) (fun h2 => ?_)
  · rw [pck_neg] at h2
    rw [if_neg (by omega)]
    refine mjT_go 1 (pc' := 43) (L' := [some (.ref 0), some (.int x), some (.int y), some (.int z), some (.int u), some (.int (pckI y)), none, none]) (st' := [.int (-1)]) (w1 := (KC, I, J, GC)) rfl ?_
    refine mjT_ret rfl rfl rfl ?_
    exact ⟨rfl, _, _, rfl, hC⟩
  rw [pck_neg] at h2
  refine mjT_go 3 (pc' := 26) (L' := [some (.ref 0), some (.int x), some (.int y), some (.int z), some (.int u), some (.int (pckI y)), none, none]) (st' := [.int (nI 8), .int (nI 0), .int z]) (w1 := (KC, I, J, GC)) rfl ?_
  refine mjT_callE (as := [.int z, .int (nI 0), .int (nI 8)]) (rest := []) (r1 := some (.int (nI (iR z 0 8)))) rfl rfl rfl rfl rfl ⟨rfl, rfl⟩ c_within ?_
  refine mjT_go 1 (pc' := if nI (iR z 0 8) = 0 then 42 else 32) (L' := [some (.ref 0), some (.int x), some (.int y), some (.int z), some (.int u), some (.int (pckI y)), none, none]) (st' := []) (w1 := (KC, I, J, GC)) rfl ?_
  refine mjT_if_eq (u := iR z 0 8) (v := 0) rfl nI_0.symm (by omega) (by omega) (fun h3 => ?_) (fun h3 => ?_)
  · rw [if_neg (by omega)]
    refine mjT_go 1 (pc' := 43) (L' := [some (.ref 0), some (.int x), some (.int y), some (.int z), some (.int u), some (.int (pckI y)), none, none]) (st' := [.int (-1)]) (w1 := (KC, I, J, GC)) rfl ?_
    refine mjT_ret rfl rfl rfl ?_
    exact ⟨rfl, _, _, rfl, hC⟩
  refine mjT_go 3 (pc' := 36) (L' := [some (.ref 0), some (.int x), some (.int y), some (.int z), some (.int u), some (.int (pckI y)), none, none]) (st' := [.int (nI 1), .int (nI 0), .int u]) (w1 := (KC, I, J, GC)) rfl ?_
  refine mjT_callE (as := [.int u, .int (nI 0), .int (nI 1)]) (rest := []) (r1 := some (.int (nI (iR u 0 1)))) rfl rfl rfl rfl rfl ⟨rfl, rfl⟩ c_within ?_
  refine mjT_go 1 (pc' := if ¬ nI (iR u 0 1) = 0 then 44 else 42) (L' := [some (.ref 0), some (.int x), some (.int y), some (.int z), some (.int u), some (.int (pckI y)), none, none]) (st' := []) (w1 := (KC, I, J, GC)) rfl ?_
  refine mjT_if_ne (u := iR u 0 1) (v := 0) rfl nI_0.symm (by omega) (by omega) (fun h4 => ?_) (fun h4 => ?_)
  rotate_left
  · rw [if_neg (by omega)]
    refine mjT_go 1 (pc' := 43) (L' := [some (.ref 0), some (.int x), some (.int y), some (.int z), some (.int u), some (.int (pckI y)), none, none]) (st' := [.int (-1)]) (w1 := (KC, I, J, GC)) rfl ?_
    refine mjT_ret rfl rfl rfl ?_
    exact ⟨rfl, _, _, rfl, hC⟩
  rw [if_pos (show iP x S.o.n = 1 ∧ papN y = 1 ∧ iR z 0 8 = 1 ∧ iR u 0 1 = 1 by omega)]
  obtain ⟨p, hp, rfl⟩ := iP_1 (x := x) (n := S.o.n) (by omega) (by omega)
  obtain ⟨m, hm, rfl, _, hdg, e⟩ := papN_1 (x := y) (by omega)
  obtain ⟨n, _, hn8, rfl⟩ := iR_1 (x := z) (a := 0) (b := 8) (by omega) (by omega) (by omega)
  obtain ⟨wh, _, hwh, rfl⟩ := iR_1 (x := u) (a := 0) (b := 1) (by omega) (by omega) (by omega)
  rw [show pckI (nI m) = nI (rw6 (dig m)) by unfold pckI; rw [if_pos (by omega), e]]
  rw [nn_N (n := n) (by omega), nn_N (n := p) (by omega), nn_N (n := m) (by omega), nn_N (n := wh) (by omega)]
  have hrl := rw6_lt hdg
  generalize rw6 (dig m) = row at *
  have hways := c_weathers hV hC (row := row) hp (by omega) hn8
  have hwl := ways_le S.o p row n (2 ^ n)
  generalize waysN S.o p row n (2 ^ n) = W at *
  have hlb := lb_at n (by omega) W
  have hsh := shb 1 (by omega) n (by omega)
  rw [Nat.one_mul] at hsh
  obtain ⟨T, hT⟩ : ∃ T, 2 ^ n = T := ⟨_, rfl⟩
  have hT8 : T ≤ 256 := by rw [← hT]; exact (Nat.pow_le_pow_right (show 0 < 2 by omega) hn8 : 2 ^ n ≤ 2 ^ 8)
  have hT0 : 0 < T := by rw [← hT]; exact Nat.two_pow_pos n
  unfold lbN at hlb
  rw [hT] at hwl hlb hsh ⊢
  have hlb2 := hlb (by omega) hwl
  have hg0 : 0 < Nat.gcd T W := Nat.gcd_pos_of_pos_left _ hT0
  have hgT : Nat.gcd T W ≤ T := Nat.gcd_le_left _ hT0
  refine mjT_go 4 (pc' := 49) (L' := [some (.ref 0), some (.int (nI p)), some (.int (nI m)), some (.int (nI n)), some (.int (nI wh)), some (.int (nI row)), none, none]) (st' := [.int (nI n), .int (nI row), .int (nI p), .ref 0]) (w1 := (KC, I, J, GC)) rfl ?_
  refine mjT_call (as := [.ref 0, .int (nI p), .int (nI row), .int (nI n)]) (rest := []) rfl rfl rfl rfl rfl ⟨rfl, rfl⟩ ((hways)) ?_
  rintro _ _ ⟨rfl, I2, rfl, hC2⟩
  refine mjT_go 4 (pc' := 59) (L' := [some (.ref 0), some (.int (nI p)), some (.int (nI m)), some (.int (nI n)), some (.int (nI wh)), some (.int (nI row)), some (.int (nI W)), none]) (st' := [.int (-(nI W)), .int (nI W)]) (w1 := (KC, I2, J, GC)) rfl ?_
  refine mjT_go 1 (pc' := 60) (L' := [some (.ref 0), some (.int (nI p)), some (.int (nI m)), some (.int (nI n)), some (.int (nI wh)), some (.int (nI row)), some (.int (nI W)), none]) (st' := [.int ((nI W) &&& (-(nI W)))]) (w1 := (KC, I2, J, GC)) rfl ?_
  rw [hlb2]
  by_cases hW0 : W = 0
  · rw [if_pos hW0]
    refine mjT_go 3 (pc' := if ¬ nI 0 = 0 then 70 else 67) (L' := [some (.ref 0), some (.int (nI p)), some (.int (nI m)), some (.int (nI n)), some (.int (nI wh)), some (.int (nI row)), some (.int (nI W)), some (.int (nI 0))]) (st' := []) (w1 := (KC, I2, J, GC)) rfl ?_
    refine mjT_ifF (fun q => q nI_0) ?_
    refine mjT_go 1 (pc' := 69) (L' := [some (.ref 0), some (.int (nI p)), some (.int (nI m)), some (.int (nI n)), some (.int (nI wh)), some (.int (nI row)), some (.int (nI W)), some (.int (nI 0))]) (st' := [.int (nI wh)]) (w1 := (KC, I2, J, GC)) rfl ?_
    refine mjT_ret rfl rfl rfl ?_
    refine ⟨?_, _, _, rfl, hC2⟩
    rw [hW0, Nat.gcd_zero_right, Nat.zero_div, Nat.div_self hT0]
    obtain rfl | rfl : wh = 0 ∨ wh = 1 := by omega
    · rfl
    · rfl
  · rw [if_neg hW0]
    generalize Nat.gcd T W = D at *
    refine mjT_go 3 (pc' := if ¬ nI D = 0 then 70 else 67) (L' := [some (.ref 0), some (.int (nI p)), some (.int (nI m)), some (.int (nI n)), some (.int (nI wh)), some (.int (nI row)), some (.int (nI W)), some (.int (nI D))]) (st' := []) (w1 := (KC, I2, J, GC)) rfl ?_
    refine mjT_ifT (nI_ne0 hg0 (by omega)) ?_
    refine mjT_go 2 (pc' := if ¬ nI wh = 0 then 80 else 75) (L' := [some (.ref 0), some (.int (nI p)), some (.int (nI m)), some (.int (nI n)), some (.int (nI wh)), some (.int (nI row)), some (.int (nI W)), some (.int (nI D))]) (st' := []) (w1 := (KC, I2, J, GC)) rfl ?_
    refine mjT_if_ne (u := wh) (v := 0) rfl nI_0.symm (by omega) (by omega) (fun h5 => ?_) (fun h5 => ?_)
    · refine mjT_go 2 (pc' := 82) (L' := [some (.ref 0), some (.int (nI p)), some (.int (nI m)), some (.int (nI n)), some (.int (nI wh)), some (.int (nI row)), some (.int (nI W)), some (.int (nI D))]) (st' := [.int (nI n), .int (nI 1)]) (w1 := (KC, I2, J, GC)) rfl ?_
      refine mjT_go 1 (pc' := 83) (L' := [some (.ref 0), some (.int (nI p)), some (.int (nI m)), some (.int (nI n)), some (.int (nI wh)), some (.int (nI row)), some (.int (nI W)), some (.int (nI D))]) (st' := [.int ((nI 1) <<< ((nI n) &&& 31))]) (w1 := (KC, I2, J, GC)) rfl ?_
      rw [hsh]
      refine mjT_go 1 (pc' := 85) (L' := [some (.ref 0), some (.int (nI p)), some (.int (nI m)), some (.int (nI n)), some (.int (nI wh)), some (.int (nI row)), some (.int (nI W)), some (.int (nI D))]) (st' := [.int (nI D), .int (nI T)]) (w1 := (KC, I2, J, GC)) rfl ?_
      refine mjT_divN (u := T) (v := D) rfl (pc' := 86) rfl rfl rfl (by omega) (by omega) (by omega) ?_
      refine mjT_ret rfl rfl rfl ?_
      exact ⟨by rw [if_neg h5], _, _, rfl, hC2⟩
    · refine mjT_go 3 (pc' := 85) (L' := [some (.ref 0), some (.int (nI p)), some (.int (nI m)), some (.int (nI n)), some (.int (nI wh)), some (.int (nI row)), some (.int (nI W)), some (.int (nI D))]) (st' := [.int (nI D), .int (nI W)]) (w1 := (KC, I2, J, GC)) rfl ?_
      refine mjT_divN (u := W) (v := D) rfl (pc' := 86) rfl rfl rfl (by omega) (by omega) (by omega) ?_
      refine mjT_ret rfl rfl rfl ?_
      exact ⟨by rw [if_pos h5], _, _, rfl, hC2⟩
theorem m_common_lp (a b : Int32) : ∀ f X Y, Y ≤ f → X < 2 ^ 31 → Y < 2 ^ 31 → ∀ d : Option Value, mj_To 133 4 [some (.int a), some (.int b), some (.int (nI X)), some (.int (nI Y)), d] [] (K, I, J, G) (fun w' r => w' = (K, I, J, G) ∧ r = some (.int (nI (Nat.gcd X Y)))) := by
  intro f
  induction f with
  | zero =>
    intro X Y hf hX hY d
    obtain rfl : Y = 0 := by omega
    refine mjT_go 2 (pc' := if nI 0 ≤ 0 then 21 else 8) (L' := [some (.int a), some (.int b), some (.int (nI X)), some (.int (nI 0)), d]) (st' := []) (w1 := (K, I, J, G)) rfl ?_
    refine mjT_ifT (by decide) ?_
    refine mjT_go 1 (pc' := 22) (L' := [some (.int a), some (.int b), some (.int (nI X)), some (.int (nI 0)), d]) (st' := [.int (nI X)]) (w1 := (K, I, J, G)) rfl ?_
    refine mjT_ret rfl rfl rfl ?_
    exact ⟨rfl, by rw [Nat.gcd_zero_right]⟩
  | succ f ih =>
    intro X Y hf hX hY d
    refine mjT_go 2 (pc' := if nI Y ≤ 0 then 21 else 8) (L' := [some (.int a), some (.int b), some (.int (nI X)), some (.int (nI Y)), d]) (st' := []) (w1 := (K, I, J, G)) rfl ?_
    refine mjT_if_le (u := Y) (v := 0) rfl nI_0.symm (by omega) (by omega) (fun h1 => ?_) (fun h1 => ?_)
    · refine mjT_go 1 (pc' := 22) (L' := [some (.int a), some (.int b), some (.int (nI X)), some (.int (nI Y)), d]) (st' := [.int (nI X)]) (w1 := (K, I, J, G)) rfl ?_
      refine mjT_ret rfl rfl rfl ?_
      exact ⟨rfl, by rw [show Y = 0 by omega, Nat.gcd_zero_right]⟩
    · have hlt := Nat.mod_lt X h1
      refine mjT_go 2 (pc' := 10) (L' := [some (.int a), some (.int b), some (.int (nI X)), some (.int (nI Y)), d]) (st' := [.int (nI Y), .int (nI X)]) (w1 := (K, I, J, G)) rfl ?_
      refine mjT_remN (u := X) (v := Y) rfl (pc' := 11) rfl rfl rfl (by omega) (by omega) (by omega) ?_
      refine mjT_go 6 (pc' := 4) (L' := [some (.int a), some (.int b), some (.int (nI Y)), some (.int (nI (X % Y))), some (.int (nI (X % Y)))]) (st' := []) (w1 := (K, I, J, G)) rfl ?_
      rw [Nat.gcd_comm X Y, Nat.gcd_rec Y X, Nat.gcd_comm (X % Y) Y]
      exact ih Y (X % Y) (by omega) hY (by omega) _
theorem m_common {X Y : Nat} (hX : X < 2 ^ 31) (hY : Y < 2 ^ 31) : mj_Ev 133 [.int (nI X), .int (nI Y)] (K, I, J, G) (K, I, J, G) (some (.int (nI (Nat.gcd X Y)))) := by
  refine mj_ev_of ?_
  refine mjT_go 4 (pc' := 4) (L' := [some (.int (nI X)), some (.int (nI Y)), some (.int (nI X)), some (.int (nI Y)), none]) (st' := []) (w1 := (K, I, J, G)) rfl ?_
  exact m_common_lp _ _ Y X Y (Nat.le_refl _) hX hY _
theorem mm_likely (hV : VS S) (hM : MW I J S) {x y z u : Int32} : mj_E 189 [.ref 0, .int x, .int y, .int z, .int u] (KM, I, J, GM) (fun w' r => r = some (.int (aLikely S x y z u)) ∧ ∃ I' J', w' = (KM, I', J', GM) ∧ MW I' J' S) := by
  have hn := hV.o.n
  have hd := hV.day
  have hr1 := ip01 x S.o.n
  have hr2 := papN_lt y
  have hr3 := ir01 z 0 8
  have hr4 := ir01 u 0 1
  unfold aLikely
  refine mjT_go 2 (pc' := 2) (L' := [some (.ref 0), some (.int x), some (.int y), some (.int z), some (.int u), none, none, none, none]) (st' := [.int x, .ref 0]) (w1 := (KM, I, J, GM)) rfl ?_
  refine mjT_callE (as := [.ref 0, .int x]) (rest := []) (r1 := some (.int (nI (iP x S.o.n)))) rfl rfl rfl rfl rfl ⟨rfl, rfl⟩ (m_isPerson hV.o hM.o) ?_
  refine mjT_go 1 (pc' := if nI (iP x S.o.n) = 0 then 39 else 8) (L' := [some (.ref 0), some (.int x), some (.int y), some (.int z), some (.int u), none, none, none, none]) (st' := []) (w1 := (KM, I, J, GM)) rfl ?_
  refine mjT_if_eq (u := iP x S.o.n) (v := 0) rfl nI_0.symm (by omega) (by omega) (fun h1 => ?_) (fun h1 => ?_)
  · rw [if_neg (by omega)]
    refine mjT_go 1 (pc' := 40) (L' := [some (.ref 0), some (.int x), some (.int y), some (.int z), some (.int u), none, none, none, none]) (st' := [.int (-1)]) (w1 := (KM, I, J, GM)) rfl ?_
    refine mjT_ret rfl rfl rfl ?_
    exact ⟨rfl, _, _, rfl, hM⟩
  refine mjT_go 2 (pc' := 10) (L' := [some (.ref 0), some (.int x), some (.int y), some (.int z), some (.int u), none, none, none, none]) (st' := [.long y.toInt64]) (w1 := (KM, I, J, GM)) rfl ?_
  refine mjT_callE (as := [.long y.toInt64]) (rest := []) (r1 := some (.int (nI (papN y)))) rfl rfl rfl rfl rfl ⟨rfl, rfl⟩ m_isPaperI ?_
  refine mjT_go 1 (pc' := if nI (papN y) = 0 then 39 else 16) (L' := [some (.ref 0), some (.int x), some (.int y), some (.int z), some (.int u), none, none, none, none]) (st' := []) (w1 := (KM, I, J, GM)) rfl ?_
  refine mjT_if_eq (u := papN y) (v := 0) rfl nI_0.symm (by omega) (by omega) (fun h2 => ?_) (fun h2 => ?_)
  · rw [if_neg (by omega)]
    refine mjT_go 1 (pc' := 40) (L' := [some (.ref 0), some (.int x), some (.int y), some (.int z), some (.int u), none, none, none, none]) (st' := [.int (-1)]) (w1 := (KM, I, J, GM)) rfl ?_
    refine mjT_ret rfl rfl rfl ?_
    exact ⟨rfl, _, _, rfl, hM⟩
  refine mjT_go 4 (pc' := 22) (L' := [some (.ref 0), some (.int x), some (.int y), some (.int z), some (.int u), none, none, none, none]) (st' := [.long (lN 8), .long (lN 0), .long z.toInt64]) (w1 := (KM, I, J, GM)) rfl ?_
  refine mjT_callE (as := [.long z.toInt64, .long (lN 0), .long (lN 8)]) (rest := []) (r1 := some (.int (nI (iR z 0 8)))) rfl rfl rfl rfl rfl ⟨rfl, rfl⟩ (m_inR (by decide) (by decide)) ?_
  refine mjT_go 1 (pc' := if nI (iR z 0 8) = 0 then 39 else 28) (L' := [some (.ref 0), some (.int x), some (.int y), some (.int z), some (.int u), none, none, none, none]) (st' := []) (w1 := (KM, I, J, GM)) rfl ?_
  refine mjT_if_eq (u := iR z 0 8) (v := 0) rfl nI_0.symm (by omega) (by omega) (fun h3 => ?_) (fun h3 => ?_)
  · rw [if_neg (by omega)]
    refine mjT_go 1 (pc' := 40) (L' := [some (.ref 0), some (.int x), some (.int y), some (.int z), some (.int u), none, none, none, none]) (st' := [.int (-1)]) (w1 := (KM, I, J, GM)) rfl ?_
    refine mjT_ret rfl rfl rfl ?_
    exact ⟨rfl, _, _, rfl, hM⟩
  refine mjT_go 4 (pc' := 33) (L' := [some (.ref 0), some (.int x), some (.int y), some (.int z), some (.int u), none, none, none, none]) (st' := [.long (lN 1), .long (lN 0), .long u.toInt64]) (w1 := (KM, I, J, GM)) rfl ?_
  refine mjT_callE (as := [.long u.toInt64, .long (lN 0), .long (lN 1)]) (rest := []) (r1 := some (.int (nI (iR u 0 1)))) rfl rfl rfl rfl rfl ⟨rfl, rfl⟩ (m_inR (by decide) (by decide)) ?_
  refine mjT_go 1 (pc' := if ¬ nI (iR u 0 1) = 0 then 41 else 39) (L' := [some (.ref 0), some (.int x), some (.int y), some (.int z), some (.int u), none, none, none, none]) (st' := []) (w1 := (KM, I, J, GM)) rfl ?_
  refine mjT_if_ne (u := iR u 0 1) (v := 0) rfl nI_0.symm (by omega) (by omega) (fun h4 => ?_) (fun h4 => ?_)
  rotate_left
  · rw [if_neg (by omega)]
    refine mjT_go 1 (pc' := 40) (L' := [some (.ref 0), some (.int x), some (.int y), some (.int z), some (.int u), none, none, none, none]) (st' := [.int (-1)]) (w1 := (KM, I, J, GM)) rfl ?_
    refine mjT_ret rfl rfl rfl ?_
    exact ⟨rfl, _, _, rfl, hM⟩
  rw [if_pos (show iP x S.o.n = 1 ∧ papN y = 1 ∧ iR z 0 8 = 1 ∧ iR u 0 1 = 1 by omega)]
  obtain ⟨p, hp, rfl⟩ := iP_1 (x := x) (n := S.o.n) (by omega) (by omega)
  obtain ⟨m, hm, rfl, _, hdg, e⟩ := papN_1 (x := y) (by omega)
  obtain ⟨n, _, hn8, rfl⟩ := iR_1 (x := z) (a := 0) (b := 8) (by omega) (by omega) (by omega)
  obtain ⟨wh, _, hwh, rfl⟩ := iR_1 (x := u) (a := 0) (b := 1) (by omega) (by omega) (by omega)
  rw [nn_N (n := n) (by omega), nn_N (n := p) (by omega), nn_N (n := m) (by omega), nn_N (n := wh) (by omega)]
  have hfm : fg (dig m) 6 = m := fg_dig (by omega)
  obtain ⟨row, hrow⟩ : ∃ row, rw6 (dig m) = row := ⟨_, rfl⟩
  rw [hrow]
  have hwl := ways_le S.o p row n (2 ^ n)
  have hsh := shb 1 (by omega) n (by omega)
  rw [Nat.one_mul] at hsh
  obtain ⟨T, hT⟩ : ∃ T, 2 ^ n = T := ⟨_, rfl⟩
  have hT8 : T ≤ 256 := by rw [← hT]; exact (Nat.pow_le_pow_right (show 0 < 2 by omega) hn8 : 2 ^ n ≤ 2 ^ 8)
  have hT0 : 0 < T := by rw [← hT]; exact Nat.two_pow_pos n
  rw [hT] at hwl hsh ⊢
  refine mjT_gen fun Q hQ => ?_
  refine mjT_go 4 (pc' := 47) (L' := [some (.ref 0), some (.int (nI p)), some (.int (nI m)), some (.int (nI n)), some (.int (nI wh)), some (.int (nI 0)), some (.int (nI 0)), none, none]) (st' := []) (w1 := (KM, I, J, GM)) rfl ?_
  refine mj_loop (fun k L w => ∃ (d e : Option Value) (I' : Nat → Nat → Int32), L = [some (.ref 0), some (.int (nI p)), some (.int (nI m)), some (.int (nI n)), some (.int (nI wh)), some (.int (nI (waysN S.o p row n k))), some (.int (nI k)), d, e] ∧ w = (KM, I', J, GM) ∧ MW I' J S) T (k0 := 0) (Nat.zero_le _) ?_ ?_ ?_
  · exact ⟨_, _, _, rfl, rfl, hM⟩
  · rintro s _ _ hs ⟨d, e, I2, rfl, rfl, hM2⟩ hc
    refine mjT_go 3 (pc' := 51) (L' := [some (.ref 0), some (.int (nI p)), some (.int (nI m)), some (.int (nI n)), some (.int (nI wh)), some (.int (nI (waysN S.o p row n s))), some (.int (nI s)), d, e]) (st' := [.int (nI n), .int (nI 1), .int (nI s)]) (w1 := (KM, I2, J, GM)) rfl ?_
    refine mjT_go 1 (pc' := 52) (L' := [some (.ref 0), some (.int (nI p)), some (.int (nI m)), some (.int (nI n)), some (.int (nI wh)), some (.int (nI (waysN S.o p row n s))), some (.int (nI s)), d, e]) (st' := [.int ((nI 1) <<< ((nI n) &&& 31)), .int (nI s)]) (w1 := (KM, I2, J, GM)) rfl ?_
    rw [hsh]
    refine mjT_go 1 (pc' := if nI T ≤ nI s then 118 else 55) (L' := [some (.ref 0), some (.int (nI p)), some (.int (nI m)), some (.int (nI n)), some (.int (nI wh)), some (.int (nI (waysN S.o p row n s))), some (.int (nI s)), d, e]) (st' := []) (w1 := (KM, I2, J, GM)) rfl ?_
    refine mjT_ifF (nI_ge (by omega) (by omega)) ?_
    refine mjT_go 1 (pc' := 56) (L' := [some (.ref 0), some (.int (nI p)), some (.int (nI m)), some (.int (nI n)), some (.int (nI wh)), some (.int (nI (waysN S.o p row n s))), some (.int (nI s)), d, e]) (st' := [.ref 0]) (w1 := (KM, I2, J, GM)) rfl ?_
    refine mjT_call (as := [.ref 0]) (rest := []) rfl rfl rfl rfl rfl ⟨rfl, rfl⟩ (m_begin hV.o hM2.o) ?_
    rintro _ _ ⟨rfl, I3, rfl, hO3, hf3⟩
    refine mjT_go 2 (pc' := 62) (L' := [some (.ref 0), some (.int (nI p)), some (.int (nI m)), some (.int (nI n)), some (.int (nI wh)), some (.int (nI (waysN S.o p row n s))), some (.int (nI s)), some (.int (nI 0)), e]) (st' := []) (w1 := (KM, I3, J, GM)) rfl ?_
    refine mj_loop (fun k L w => ∃ (e : Option Value) (I' : Nat → Nat → Int32), L = [some (.ref 0), some (.int (nI p)), some (.int (nI m)), some (.int (nI n)), some (.int (nI wh)), some (.int (nI (waysN S.o p row n s))), some (.int (nI s)), some (.int (nI k)), e] ∧ w = (KM, I', J, GM) ∧ MO I' 1680 (stO S.o s k) ∧ FrT I2 I') n (k0 := 0) (Nat.zero_le _) ?_ ?_ ?_
    · exact ⟨_, _, rfl, rfl, hO3, hf3⟩
    · rintro k _ _ hk ⟨e, I4, rfl, rfl, hO4, hf4⟩ hck
      have hVk := v_st hV.o s k (by omega)
      have hb2 := bitN_lt s k
      refine mjT_go 3 (pc' := if nI n ≤ nI k then 90 else 68) (L' := [some (.ref 0), some (.int (nI p)), some (.int (nI m)), some (.int (nI n)), some (.int (nI wh)), some (.int (nI (waysN S.o p row n s))), some (.int (nI s)), some (.int (nI k)), e]) (st' := []) (w1 := (KM, I4, J, GM)) rfl ?_
      refine mjT_ifF (nI_ge (by omega) (by omega)) ?_
      refine mjT_go 4 (pc' := 76) (L' := [some (.ref 0), some (.int (nI p)), some (.int (nI m)), some (.int (nI n)), some (.int (nI wh)), some (.int (nI (waysN S.o p row n s))), some (.int (nI s)), some (.int (nI k)), e]) (st' := [.int (nI k), .int (nI s), .int (nI 1680), .ref 0]) (w1 := (KM, I4, J, GM)) rfl ?_
      refine mjT_callE (as := [.int (nI s), .int (nI k)]) (rest := [.int (nI 1680), .ref 0]) (r1 := some (.int (nI (bitN s k)))) rfl rfl rfl rfl rfl ⟨rfl, rfl⟩ (m_has (by omega) (by omega)) ?_
      refine mjT_call (as := [.ref 0, .int (nI 1680), .int (nI (bitN s k))]) (rest := []) rfl rfl rfl rfl rfl ⟨rfl, rfl⟩ (m_pass hVk hO4 (by omega) hb2) ?_
      rintro _ _ ⟨rfl, I5, rfl, hO5, hf5⟩
      refine mjT_go 3 (pc' := 62) (L' := [some (.ref 0), some (.int (nI p)), some (.int (nI m)), some (.int (nI n)), some (.int (nI wh)), some (.int (nI (waysN S.o p row n s))), some (.int (nI s)), some (.int ((nI k) + (nI 1))), some (.int (nI (tookN (stO S.o s k) (bitN s k) (stO S.o s k).n)))]) (st' := []) (w1 := (KM, I5, J, GM)) rfl ?_
      rw [nI_add]
      exact hck _ _ ⟨_, _, rfl, rfl, hO5, ft_tr hf4 (ft_of hf5)⟩
    · rintro _ _ ⟨e, I4, rfl, rfl, hO4, hf4⟩
      have hM4 := mw_ft hM2 hV hf4
      have hVn := v_st hV.o s n (by omega)
      have hnn := st_n S.o s n
      have hb1 := fg_lt (hVn.wr p (by omega)) 6 (by omega)
      have hwk : fg ((stO S.o s n).wr p) 6 = m ↔ rw6 ((stO S.o s n).wr p) = row := by rw [← hrow, ← fg_inj (hVn.wr p (by omega)) hdg, hfm]
      refine mjT_go 3 (pc' := if nI n ≤ nI n then 90 else 68) (L' := [some (.ref 0), some (.int (nI p)), some (.int (nI m)), some (.int (nI n)), some (.int (nI wh)), some (.int (nI (waysN S.o p row n s))), some (.int (nI s)), some (.int (nI n)), e]) (st' := []) (w1 := (KM, I4, J, GM)) rfl ?_
      refine mjT_ifT (Int32.le_refl _) ?_
      refine mjT_go 3 (pc' := 94) (L' := [some (.ref 0), some (.int (nI p)), some (.int (nI m)), some (.int (nI n)), some (.int (nI wh)), some (.int (nI (waysN S.o p row n s))), some (.int (nI s)), some (.int (nI n)), e]) (st' := [.int (nI p), .ref 0, .int (nI (waysN S.o p row n s))]) (w1 := (KM, I4, J, GM)) rfl ?_
      refine mjT_callE (as := [.ref 0, .int (nI p)]) (rest := [.int (nI (waysN S.o p row n s))]) (r1 := some (.int (nI (fg ((stO S.o s n).wr p) 6)))) rfl rfl rfl rfl rfl ⟨rfl, rfl⟩ (m_writesNow hVn.n hO4 (by omega)) ?_
      refine mjT_go 2 (pc' := if ¬ nI (fg ((stO S.o s n).wr p) 6) = nI m then 105 else 101) (L' := [some (.ref 0), some (.int (nI p)), some (.int (nI m)), some (.int (nI n)), some (.int (nI wh)), some (.int (nI (waysN S.o p row n s))), some (.int (nI s)), some (.int (nI n)), e]) (st' := [.int (nI (waysN S.o p row n s))]) (w1 := (KM, I4, J, GM)) rfl ?_
      refine mjT_if_ne (u := fg ((stO S.o s n).wr p) 6) (v := m) rfl rfl (by omega) (by omega) (fun h3 => ?_) (fun h3 => ?_)
      · rw [Ne, hwk] at h3
        refine mjT_go 1 (pc' := 106) (L' := [some (.ref 0), some (.int (nI p)), some (.int (nI m)), some (.int (nI n)), some (.int (nI wh)), some (.int (nI (waysN S.o p row n s))), some (.int (nI s)), some (.int (nI n)), e]) (st' := [.int (nI 0), .int (nI (waysN S.o p row n s))]) (w1 := (KM, I4, J, GM)) rfl ?_
        refine mjT_callE (as := [.int (nI 0)]) (rest := [.int (nI (waysN S.o p row n s))]) (r1 := some (.int (nI 0))) rfl rfl rfl rfl rfl ⟨rfl, rfl⟩ (m_one (by omega) _) ?_
        refine mjT_go 4 (pc' := 47) (L' := [some (.ref 0), some (.int (nI p)), some (.int (nI m)), some (.int (nI n)), some (.int (nI wh)), some (.int ((nI (waysN S.o p row n s)) + (nI 0))), some (.int ((nI s) + (nI 1))), some (.int (nI n)), e]) (st' := []) (w1 := (KM, I4, J, GM)) rfl ?_
        rw [nI_add, nI_add, show waysN S.o p row n s + 0 = waysN S.o p row n (s + 1) by show _ = _ + eqB _ _; unfold eqB; rw [if_neg h3]]
        exact hc _ _ ⟨_, _, _, rfl, rfl, hM4⟩
      · rw [hwk] at h3
        refine mjT_go 2 (pc' := 106) (L' := [some (.ref 0), some (.int (nI p)), some (.int (nI m)), some (.int (nI n)), some (.int (nI wh)), some (.int (nI (waysN S.o p row n s))), some (.int (nI s)), some (.int (nI n)), e]) (st' := [.int (nI 1), .int (nI (waysN S.o p row n s))]) (w1 := (KM, I4, J, GM)) rfl ?_
        refine mjT_callE (as := [.int (nI 1)]) (rest := [.int (nI (waysN S.o p row n s))]) (r1 := some (.int (nI 1))) rfl rfl rfl rfl rfl ⟨rfl, rfl⟩ (m_one (by omega) _) ?_
        refine mjT_go 4 (pc' := 47) (L' := [some (.ref 0), some (.int (nI p)), some (.int (nI m)), some (.int (nI n)), some (.int (nI wh)), some (.int ((nI (waysN S.o p row n s)) + (nI 1))), some (.int ((nI s) + (nI 1))), some (.int (nI n)), e]) (st' := []) (w1 := (KM, I4, J, GM)) rfl ?_
        rw [nI_add, nI_add, show waysN S.o p row n s + 1 = waysN S.o p row n (s + 1) by show _ = _ + eqB _ _; unfold eqB; rw [if_pos h3]]
        exact hc _ _ ⟨_, _, _, rfl, rfl, hM4⟩
  · rintro _ _ ⟨d, e, I2, rfl, rfl, hM2⟩
    have hg0 : 0 < Nat.gcd T (waysN S.o p row n T) := Nat.gcd_pos_of_pos_left _ hT0
    have hgT : Nat.gcd T (waysN S.o p row n T) ≤ T := Nat.gcd_le_left _ hT0
    have hcm := m_common (K := KM) (G := GM) (I := I2) (J := J) (X := T) (Y := waysN S.o p row n T) (by omega) (by omega)
    generalize waysN S.o p row n T = W at *
    generalize Nat.gcd T W = D at *
    refine mjT_go 3 (pc' := 51) (L' := [some (.ref 0), some (.int (nI p)), some (.int (nI m)), some (.int (nI n)), some (.int (nI wh)), some (.int (nI W)), some (.int (nI T)), d, e]) (st' := [.int (nI n), .int (nI 1), .int (nI T)]) (w1 := (KM, I2, J, GM)) rfl ?_
    refine mjT_go 1 (pc' := 52) (L' := [some (.ref 0), some (.int (nI p)), some (.int (nI m)), some (.int (nI n)), some (.int (nI wh)), some (.int (nI W)), some (.int (nI T)), d, e]) (st' := [.int ((nI 1) <<< ((nI n) &&& 31)), .int (nI T)]) (w1 := (KM, I2, J, GM)) rfl ?_
    rw [hsh]
    refine mjT_go 1 (pc' := if nI T ≤ nI T then 118 else 55) (L' := [some (.ref 0), some (.int (nI p)), some (.int (nI m)), some (.int (nI n)), some (.int (nI wh)), some (.int (nI W)), some (.int (nI T)), d, e]) (st' := []) (w1 := (KM, I2, J, GM)) rfl ?_
    refine mjT_ifT (Int32.le_refl _) ?_
    refine mjT_go 2 (pc' := 120) (L' := [some (.ref 0), some (.int (nI p)), some (.int (nI m)), some (.int (nI n)), some (.int (nI wh)), some (.int (nI W)), some (.int (nI T)), d, e]) (st' := [.int (nI n), .int (nI 1)]) (w1 := (KM, I2, J, GM)) rfl ?_
    refine mjT_go 1 (pc' := 121) (L' := [some (.ref 0), some (.int (nI p)), some (.int (nI m)), some (.int (nI n)), some (.int (nI wh)), some (.int (nI W)), some (.int (nI T)), d, e]) (st' := [.int ((nI 1) <<< ((nI n) &&& 31))]) (w1 := (KM, I2, J, GM)) rfl ?_
    rw [hsh]
    refine mjT_go 1 (pc' := 123) (L' := [some (.ref 0), some (.int (nI p)), some (.int (nI m)), some (.int (nI n)), some (.int (nI wh)), some (.int (nI W)), some (.int (nI T)), d, e]) (st' := [.int (nI W), .int (nI T)]) (w1 := (KM, I2, J, GM)) rfl ?_
    refine mjT_callE (as := [.int (nI T), .int (nI W)]) (rest := []) (r1 := some (.int (nI D))) rfl rfl rfl rfl rfl ⟨rfl, rfl⟩ hcm ?_
    refine mjT_go 3 (pc' := if ¬ nI wh = 0 then 141 else 133) (L' := [some (.ref 0), some (.int (nI p)), some (.int (nI m)), some (.int (nI n)), some (.int (nI wh)), some (.int (nI W)), some (.int (nI D)), d, e]) (st' := []) (w1 := (KM, I2, J, GM)) rfl ?_
    refine mjT_if_ne (u := wh) (v := 0) rfl nI_0.symm (by omega) (by omega) (fun h5 => ?_) (fun h5 => ?_)
    · refine mjT_go 2 (pc' := 143) (L' := [some (.ref 0), some (.int (nI p)), some (.int (nI m)), some (.int (nI n)), some (.int (nI wh)), some (.int (nI W)), some (.int (nI D)), d, e]) (st' := [.int (nI n), .int (nI 1)]) (w1 := (KM, I2, J, GM)) rfl ?_
      refine mjT_go 1 (pc' := 144) (L' := [some (.ref 0), some (.int (nI p)), some (.int (nI m)), some (.int (nI n)), some (.int (nI wh)), some (.int (nI W)), some (.int (nI D)), d, e]) (st' := [.int ((nI 1) <<< ((nI n) &&& 31))]) (w1 := (KM, I2, J, GM)) rfl ?_
      rw [hsh]
      refine mjT_go 1 (pc' := 146) (L' := [some (.ref 0), some (.int (nI p)), some (.int (nI m)), some (.int (nI n)), some (.int (nI wh)), some (.int (nI W)), some (.int (nI D)), d, e]) (st' := [.int (nI D), .int (nI T)]) (w1 := (KM, I2, J, GM)) rfl ?_
      refine mjT_divN (u := T) (v := D) rfl (pc' := 147) rfl rfl rfl (by omega) (by omega) (by omega) ?_
      refine mjT_ret rfl rfl rfl ?_
      exact hQ _ _ ⟨by rw [if_neg h5], _, _, rfl, hM2⟩
    · refine mjT_go 2 (pc' := 137) (L' := [some (.ref 0), some (.int (nI p)), some (.int (nI m)), some (.int (nI n)), some (.int (nI wh)), some (.int (nI W)), some (.int (nI D)), d, e]) (st' := [.int (nI D), .int (nI W)]) (w1 := (KM, I2, J, GM)) rfl ?_
      refine mjT_divN (u := W) (v := D) rfl (pc' := 138) rfl rfl rfl (by omega) (by omega) (by omega) ?_
      refine mjT_go 1 (pc' := 147) (L' := [some (.ref 0), some (.int (nI p)), some (.int (nI m)), some (.int (nI n)), some (.int (nI wh)), some (.int (nI W)), some (.int (nI D)), d, e]) (st' := [.int (nI (W / D))]) (w1 := (KM, I2, J, GM)) rfl ?_
      refine mjT_ret rfl rfl rfl ?_
      exact hQ _ _ ⟨by rw [if_pos h5], _, _, rfl, hM2⟩
theorem sim_likely {x y z u : Int32} : SimO 93 189 [.int x, .int y, .int z, .int u] := fun S _ _ _ _ hV hC hM => ⟨S, _, hV, cc_likely hV hC, mm_likely hV hM⟩
end LI
