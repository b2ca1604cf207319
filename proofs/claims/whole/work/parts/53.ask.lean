/-! cheque, who, most -/
/-- the first of the first N at which g is 0; N -/
def fstN (g : Nat → Nat) : Nat → Nat
  | 0 => 0
  | N + 1 => if fstN g N < N then fstN g N else if g N = 0 then N else N + 1
theorem fst_no {g : Nat → Nat} : ∀ {N}, (∀ j, j < N → g j ≠ 0) → fstN g N = N
  | 0, _ => rfl
  | N + 1, h => by
    unfold fstN
    rw [fst_no (fun j hj => h j (by omega)), if_neg (by omega), if_neg (h N (by omega))]
theorem fst_at {g : Nat → Nat} {k : Nat} (h0 : g k = 0) (h : ∀ j, j < k → g j ≠ 0) : ∀ {N}, k < N → fstN g N = k
  | 0, hk => absurd hk (by omega)
  | N + 1, hk => by
    unfold fstN
    by_cases e : k = N
    · subst e
      rw [fst_no h, if_neg (by omega), if_pos h0]
    · rw [fst_at h0 h (N := N) (by omega), if_pos (by omega)]
theorem fst_le (g : Nat → Nat) : ∀ N, fstN g N ≤ N
  | 0 => Nat.le_refl _
  | N + 1 => by
    have := fst_le g N
    unfold fstN
    split
    · omega
    · split <;> omega
def sameN (O : Off) (t : Nat → Off) (p k : Nat) : Nat := if rw6 ((t k).wr p) = rw6 (O.own p) then 1 else 0
section OP6
variable {I I' : Nat → Nat → Int32} {J : Nat → Nat → Int64} {S : Sta} {o : Nat} {O : Off} {P : Nat → Prop}
theorem cw_tr (hC : CW I J S) (hV : VS S) (hf : ∀ h, (h < 75 ∨ 85 < h) → h ≠ 96 → I' h = I h) : CW I' J S := cw_x hC hV.kn (fun h a b _ _ => hf h a b) (by rw [hf 0 (by omega) (by omega)])
theorem c_firstOther {t : Nat → Nat} {n row : Nat} (hn : n ≤ 60) (hr : row < 2 ^ 31) (ht : ∀ j, j ≤ n → t j < 2 ^ 31) (hI : ∀ j, j ≤ n → I 96 j = nI (t j)) : mj_Ev 116 [.ref 0, .int (nI row), .int (nI n)] (KC, I, J, GC) (KC, I, J, GC) (some (.int (nI (fstN (fun j => if t j = row then 1 else 0) (n + 1))))) := by
  refine mj_ev_of ?_
  refine mjT_go 2 (pc' := 2) (L' := [some (.ref 0), some (.int (nI row)), some (.int (nI n)), some (.int (nI 0))]) (st' := []) (w1 := (KC, I, J, GC)) rfl ?_
  refine mj_loop (fun k L w => L = [some (.ref 0), some (.int (nI row)), some (.int (nI n)), some (.int (nI k))] ∧ w = (KC, I, J, GC) ∧ ∀ j, j < k → t j = row) (n + 1) (k0 := 0) (Nat.zero_le _) ?_ ?_ ?_
  · exact ⟨rfl, rfl, fun _ h => absurd h (by omega)⟩
  · rintro k _ _ hk ⟨rfl, rfl, hb⟩ hc
    have htk := ht k (by omega)
    refine mjT_go 3 (pc' := if nI n < nI k then 34 else 7) (L' := [some (.ref 0), some (.int (nI row)), some (.int (nI n)), some (.int (nI k))]) (st' := []) (w1 := (KC, I, J, GC)) rfl ?_
    refine mjT_ifF (nI_nlt (by omega) (by omega)) ?_
    refine mjT_go 5 (pc' := if nI 61 ≤ nI k then 34 else 16) (L' := [some (.ref 0), some (.int (nI row)), some (.int (nI n)), some (.int (nI k))]) (st' := []) (w1 := (KC, I, J, GC)) rfl ?_
    refine mjT_ifF (nI_ge (by omega) (by omega)) ?_
    refine mjT_go 3 (pc' := 21) (L' := [some (.ref 0), some (.int (nI row)), some (.int (nI n)), some (.int (nI k))]) (st' := [.int (nI k), .ref 96]) (w1 := (KC, I, J, GC)) rfl ?_
    refine mjT_ial (v := nI (t k)) k 61 rfl (pc' := 22) rfl rfl rfl (by omega) (by omega) (show I 96 k = nI (t k) from (hI k (by omega))) ?_
    refine mjT_go 2 (pc' := if nI (t k) = nI row then 28 else 26) (L' := [some (.ref 0), some (.int (nI row)), some (.int (nI n)), some (.int (nI k))]) (st' := []) (w1 := (KC, I, J, GC)) rfl ?_
    refine mjT_if_eq (u := t k) (v := row) rfl rfl (by omega) (by omega) (fun h1 => ?_) (fun h1 => ?_)
    · refine mjT_go 2 (pc' := 2) (L' := [some (.ref 0), some (.int (nI row)), some (.int (nI n)), some (.int ((nI k) + (nI 1)))]) (st' := []) (w1 := (KC, I, J, GC)) rfl ?_
      rw [nI_add]
      exact hc _ _ ⟨rfl, rfl, fun j hj => by
        by_cases e : j = k
        · rw [e]; exact h1
        · exact hb j (by omega)⟩
    · refine mjT_go 1 (pc' := 27) (L' := [some (.ref 0), some (.int (nI row)), some (.int (nI n)), some (.int (nI k))]) (st' := [.int (nI k)]) (w1 := (KC, I, J, GC)) rfl ?_
      refine mjT_ret rfl rfl rfl ?_
      refine ⟨rfl, ?_⟩
      rw [fst_at (k := k) (if_neg h1) (fun j hj => by rw [if_pos (hb j hj)]; omega) (by omega)]
  · rintro _ _ ⟨rfl, rfl, hb⟩
    refine mjT_go 3 (pc' := if nI n < nI (n + 1) then 34 else 7) (L' := [some (.ref 0), some (.int (nI row)), some (.int (nI n)), some (.int (nI (n + 1)))]) (st' := []) (w1 := (KC, I, J, GC)) rfl ?_
    refine mjT_ifT (nI_lt (by omega) (by omega)) ?_
    refine mjT_go 3 (pc' := 37) (L' := [some (.ref 0), some (.int (nI row)), some (.int (nI n)), some (.int (nI (n + 1)))]) (st' := [.int ((nI n) + (nI 1))]) (w1 := (KC, I, J, GC)) rfl ?_
    refine mjT_ret rfl rfl rfl ?_
    refine ⟨rfl, ?_⟩
    rw [fst_no (fun j hj => by rw [if_pos (hb j (by omega))]; omega), nI_add]
noncomputable def aCheque (S : Sta) (x : Int32) : Int32 := if iP x S.o.n = 1 then (if fstN (sameN S.o (goO S.o) (nn x)) 61 = 61 then -4 else nI (fstN (sameN S.o (goO S.o) (nn x)) 61)) else -1
theorem cc_cheque (hV : VS S) (hC : CW I J S) {x : Int32} : mj_E 89 [.ref 0, .int x] (KC, I, J, GC) (fun w' r => r = some (.int (aCheque S x)) ∧ ∃ I' J', w' = (KC, I', J', GC) ∧ CW I' J' S) := by
  have hn := hV.o.n
  have hd := hV.day
  have hp01 := ip01 x S.o.n
  obtain ⟨la, hla⟩ := nI_surj (I 75 3)
  obtain ⟨dr, hdr⟩ := nI_surj (I 75 4)
  unfold aCheque
  refine mjT_go 3 (pc' := 5) (L' := [some (.ref 0), some (.int x), none]) (st' := [.int x, .ref 1]) (w1 := (KC, I, J, GC)) rfl ?_
  refine mjT_callE (as := [.ref 1, .int x]) (rest := []) (r1 := some (.int (nI (iP x S.o.n)))) rfl rfl rfl rfl rfl ⟨rfl, rfl⟩ (c_has hV.o og_1 hC.o) ?_
  refine mjT_go 1 (pc' := if ¬ nI (iP x S.o.n) = 0 then 13 else 11) (L' := [some (.ref 0), some (.int x), none]) (st' := []) (w1 := (KC, I, J, GC)) rfl ?_
  refine mjT_if_ne (u := iP x S.o.n) (v := 0) rfl nI_0.symm (by omega) (by omega) (fun h1 => ?_) (fun h1 => ?_)
  rotate_left
  · rw [if_neg (by omega)]
    refine mjT_go 1 (pc' := 12) (L' := [some (.ref 0), some (.int x), none]) (st' := [.int (-1)]) (w1 := (KC, I, J, GC)) rfl ?_
    refine mjT_ret rfl rfl rfl ?_
    exact ⟨rfl, _, _, rfl, hC⟩
  rw [if_pos (show iP x S.o.n = 1 by omega)]
  obtain ⟨p, hp, rfl⟩ := iP_1 (x := x) (n := S.o.n) (by omega) (by omega)
  rw [nn_N (by omega)]
  refine mjT_go 4 (pc' := 21) (L' := [some (.ref 0), some (.int (nI p)), none]) (st' := [.ref 1, .ref 75]) (w1 := (KC, I, J, GC)) rfl ?_
  refine mjT_call (as := [.ref 75, .ref 1]) (rest := []) rfl rfl rfl rfl rfl ⟨rfl, rfl⟩ (c_become hV.o.n og_75 og_1 (by omega) hC.o hla hdr) ?_
  rintro _ _ ⟨rfl, I2, rfl, hO2, hf2⟩
  refine mjT_go 3 (pc' := 29) (L' := [some (.ref 0), some (.int (nI p)), none]) (st' := [.int (nI p), .ref 75]) (w1 := (KC, I2, J, GC)) rfl ?_
  refine mjT_call (as := [.ref 75, .int (nI p)]) (rest := []) rfl rfl rfl rfl rfl ⟨rfl, rfl⟩ (c_watchOnly hV.o og_75 hO2 hp) ?_
  rintro _ _ ⟨rfl, I3, m, rfl, hf3, hW3, _, _⟩
  have hO3 := ro_P (ro_watch hO2 hf3) (fun q (_ : PcN S.o p q) => trivial)
  refine mjT_go 6 (pc' := 43) (L' := [some (.ref 0), some (.int (nI p)), none]) (st' := [.ref 96, .int (nI 60), .int (nI p), .ref 75]) (w1 := (KC, I3, J, GC)) rfl ?_
  refine mjT_call (as := [.ref 75, .int (nI p), .int (nI 60), .ref 96]) (rest := []) rfl rfl rfl rfl rfl ⟨rfl, rfl⟩ (c_follow hV.o og_75 (by omega) hO3 hW3 (Nat.le_refl 60) (by omega) hp (pc_self _ _)) ?_
  rintro _ _ ⟨rfl, I4, rfl, ht4, hf4⟩
  have hC4 : CW I4 J S := cw_tr hC hV (fun h a b => by rw [hf4 h (by omega) (by omega) (by omega) (by omega) b, hf3.1 h (by omega) (by omega) (by omega), hf2 h (by omega)])
  have hrl := rw6_lt (hV.o.own p hp)
  refine mjT_go 4 (pc' := 52) (L' := [some (.ref 0), some (.int (nI p)), none]) (st' := [.int (nI p), .ref 1, .ref 0]) (w1 := (KC, I4, J, GC)) rfl ?_
  refine mjT_callE (as := [.ref 1, .int (nI p)]) (rest := [.ref 0]) (r1 := some (.int (nI (rw6 (S.o.own p))))) rfl rfl rfl rfl rfl ⟨rfl, rfl⟩ (c_ownOf hn og_1 hC4.o hp) ?_
  refine mjT_go 1 (pc' := 57) (L' := [some (.ref 0), some (.int (nI p)), none]) (st' := [.int (nI 60), .int (nI (rw6 (S.o.own p))), .ref 0]) (w1 := (KC, I4, J, GC)) rfl ?_
  obtain ⟨N, hN⟩ : ∃ N, fstN (sameN S.o (goO S.o) p) 61 = N := ⟨_, rfl⟩
  have hNl := fst_le (sameN S.o (goO S.o) p) 61
  refine mjT_callE (as := [.ref 0, .int (nI (rw6 (S.o.own p))), .int (nI 60)]) (rest := []) (r1 := some (.int (nI N))) rfl rfl rfl rfl rfl ⟨rfl, rfl⟩ (by rw [← hN]; exact c_firstOther (Nat.le_refl 60) (by omega) (fun j hj => by have := rw6_lt (go_dgo hV.o (k := j) (by omega) hp); omega) ht4) ?_
  rw [hN] at hNl ⊢
  refine mjT_go 4 (pc' := if nI N ≤ nI 60 then 72 else 67) (L' := [some (.ref 0), some (.int (nI p)), some (.int (nI N))]) (st' := []) (w1 := (KC, I4, J, GC)) rfl ?_
  refine mjT_if_le (u := N) (v := 60) rfl rfl (by omega) (by omega) (fun h2 => ?_) (fun h2 => ?_)
  · rw [if_neg (by omega)]
    refine mjT_go 1 (pc' := 73) (L' := [some (.ref 0), some (.int (nI p)), some (.int (nI N))]) (st' := [.int (nI N)]) (w1 := (KC, I4, J, GC)) rfl ?_
    refine mjT_ret rfl rfl rfl ?_
    exact ⟨rfl, _, _, rfl, hC4⟩
  · rw [if_pos (by omega)]
    refine mjT_go 2 (pc' := 73) (L' := [some (.ref 0), some (.int (nI p)), some (.int (nI N))]) (st' := [.int (-4)]) (w1 := (KC, I4, J, GC)) rfl ?_
    refine mjT_ret rfl rfl rfl ?_
    exact ⟨rfl, _, _, rfl, hC4⟩
theorem mm_cheque (hV : VS S) (hM : MW I J S) {x : Int32} : mj_E 181 [.ref 0, .int x] (KM, I, J, GM) (fun w' r => r = some (.int (aCheque S x)) ∧ ∃ I' J', w' = (KM, I', J', GM) ∧ MW I' J' S) := by
  have hn := hV.o.n
  have hd := hV.day
  have hp01 := ip01 x S.o.n
  unfold aCheque
  refine mjT_go 2 (pc' := 2) (L' := [some (.ref 0), some (.int x), none]) (st' := [.int x, .ref 0]) (w1 := (KM, I, J, GM)) rfl ?_
  refine mjT_callE (as := [.ref 0, .int x]) (rest := []) (r1 := some (.int (nI (iP x S.o.n)))) rfl rfl rfl rfl rfl ⟨rfl, rfl⟩ (m_isPerson hV.o hM.o) ?_
  refine mjT_go 1 (pc' := if ¬ nI (iP x S.o.n) = 0 then 10 else 8) (L' := [some (.ref 0), some (.int x), none]) (st' := []) (w1 := (KM, I, J, GM)) rfl ?_
  refine mjT_if_ne (u := iP x S.o.n) (v := 0) rfl nI_0.symm (by omega) (by omega) (fun h1 => ?_) (fun h1 => ?_)
  rotate_left
  · rw [if_neg (by omega)]
    refine mjT_go 1 (pc' := 9) (L' := [some (.ref 0), some (.int x), none]) (st' := [.int (-1)]) (w1 := (KM, I, J, GM)) rfl ?_
    refine mjT_ret rfl rfl rfl ?_
    exact ⟨rfl, _, _, rfl, hM⟩
  rw [if_pos (show iP x S.o.n = 1 by omega)]
  obtain ⟨p, hp, rfl⟩ := iP_1 (x := x) (n := S.o.n) (by omega) (by omega)
  rw [nn_N (by omega)]
  refine mjT_go 1 (pc' := 11) (L' := [some (.ref 0), some (.int (nI p)), none]) (st' := [.ref 0]) (w1 := (KM, I, J, GM)) rfl ?_
  refine mjT_call (as := [.ref 0]) (rest := []) rfl rfl rfl rfl rfl ⟨rfl, rfl⟩ (m_begin hV.o hM.o) ?_
  rintro _ _ ⟨rfl, I2, rfl, hO2, hf2⟩
  refine mjT_go 2 (pc' := 16) (L' := [some (.ref 0), some (.int (nI p)), some (.int (nI 0))]) (st' := []) (w1 := (KM, I2, J, GM)) rfl ?_
  refine mj_loop (fun k L w => ∃ I', L = [some (.ref 0), some (.int (nI p)), some (.int (nI k))] ∧ w = (KM, I', J, GM) ∧ MO I' 1680 (goO S.o k) ∧ FrT I I' ∧ ∀ j, j < k → sameN S.o (goO S.o) p j ≠ 0) 61 (k0 := 0) (Nat.zero_le _) ?_ ?_ ?_
  · exact ⟨_, rfl, rfl, hO2, hf2, fun _ h => absurd h (by omega)⟩
  · rintro k _ _ hk ⟨I3, rfl, rfl, hO3, hf3, hb⟩ hc
    have hM3 := mw_ft hM hV hf3
    have hVk := v_go hV.o k (by omega)
    have hgn := go_n S.o k
    have hgd := goO_day S.o k
    have hd1 := go_dgo hV.o (k := k) (by omega) hp
    have hb1 := fg_lt hd1 6 (by omega)
    have hb2 := fg_lt (hV.o.own p hp) 6 (by omega)
    refine mjT_go 3 (pc' := if nI 60 < nI k then 48 else 22) (L' := [some (.ref 0), some (.int (nI p)), some (.int (nI k))]) (st' := []) (w1 := (KM, I3, J, GM)) rfl ?_
    refine mjT_ifF (nI_nlt (by omega) (by omega)) ?_
    refine mjT_go 2 (pc' := 24) (L' := [some (.ref 0), some (.int (nI p)), some (.int (nI k))]) (st' := [.int (nI p), .ref 0]) (w1 := (KM, I3, J, GM)) rfl ?_
    refine mjT_callE (as := [.ref 0, .int (nI p)]) (rest := []) (r1 := some (.int (nI (fg ((goO S.o k).wr p) 6)))) rfl rfl rfl rfl rfl ⟨rfl, rfl⟩ (m_writesNow (by omega) hO3 (by omega)) ?_
    refine mjT_go 2 (pc' := 29) (L' := [some (.ref 0), some (.int (nI p)), some (.int (nI k))]) (st' := [.int (nI p), .ref 0, .int (nI (fg ((goO S.o k).wr p) 6))]) (w1 := (KM, I3, J, GM)) rfl ?_
    refine mjT_callE (as := [.ref 0, .int (nI p)]) (rest := [.int (nI (fg ((goO S.o k).wr p) 6))]) (r1 := some (.int (nI (fg (S.o.own p) 6)))) rfl rfl rfl rfl rfl ⟨rfl, rfl⟩ (m_ownOf hn hM3.o hp) ?_
    refine mjT_go 1 (pc' := if nI (fg ((goO S.o k).wr p) 6) = nI (fg (S.o.own p) 6) then 37 else 35) (L' := [some (.ref 0), some (.int (nI p)), some (.int (nI k))]) (st' := []) (w1 := (KM, I3, J, GM)) rfl ?_
    refine mjT_if_eq (u := fg ((goO S.o k).wr p) 6) (v := fg (S.o.own p) 6) rfl rfl (by omega) (by omega) (fun h2 => ?_) (fun h2 => ?_)
    · rw [fg_inj hd1 (hV.o.own p hp)] at h2
      refine mjT_go 2 (pc' := 39) (L' := [some (.ref 0), some (.int (nI p)), some (.int (nI k))]) (st' := [.int (nI 1), .ref 0]) (w1 := (KM, I3, J, GM)) rfl ?_
      refine mjT_call (as := [.ref 0, .int (nI 1)]) (rest := []) rfl rfl rfl rfl rfl ⟨rfl, rfl⟩ (m_goOn hVk hO3 (by omega)) ?_
      rintro _ _ ⟨rfl, I4, rfl, hO4, hf4⟩
      refine mjT_go 2 (pc' := 16) (L' := [some (.ref 0), some (.int (nI p)), some (.int ((nI k) + (nI 1)))]) (st' := []) (w1 := (KM, I4, J, GM)) rfl ?_
      rw [nI_add]
      refine hc _ _ ⟨_, rfl, rfl, hO4, ft_tr hf3 (ft_of hf4), fun j hj => ?_⟩
      by_cases e : j = k
      · subst e; unfold sameN; rw [if_pos h2]; omega
      · exact hb j (by omega)
    · rw [Ne, fg_inj hd1 (hV.o.own p hp)] at h2
      refine mjT_go 1 (pc' := 36) (L' := [some (.ref 0), some (.int (nI p)), some (.int (nI k))]) (st' := [.int (nI k)]) (w1 := (KM, I3, J, GM)) rfl ?_
      refine mjT_ret rfl rfl rfl ?_
      have e : fstN (sameN S.o (goO S.o) p) 61 = k := fst_at (by unfold sameN; rw [if_neg h2]) hb hk
      exact ⟨by rw [e, if_neg (by omega)], _, _, rfl, hM3⟩
  · rintro _ _ ⟨I3, rfl, rfl, hO3, hf3, hb⟩
    refine mjT_go 3 (pc' := if nI 60 < nI 61 then 48 else 22) (L' := [some (.ref 0), some (.int (nI p)), some (.int (nI 61))]) (st' := []) (w1 := (KM, I3, J, GM)) rfl ?_
    refine mjT_ifT (by decide) ?_
    refine mjT_go 1 (pc' := 50) (L' := [some (.ref 0), some (.int (nI p)), some (.int (nI 61))]) (st' := [.int (-4)]) (w1 := (KM, I3, J, GM)) rfl ?_
    refine mjT_ret rfl rfl rfl ?_
    exact ⟨by rw [fst_no hb, if_pos rfl], _, _, rfl, mw_ft hM hV hf3⟩
theorem sim_cheque {x : Int32} : SimO 89 181 [.int x] := fun S _ _ _ _ hV hC hM => ⟨S, _, hV, cc_cheque hV hC, mm_cheque hV hM⟩
/-! who -/
theorem shb : ∀ b, b < 2 → ∀ p, p < 31 → nI b <<< (nI p &&& 31) = nI (b * 2 ^ p) := by decide +kernel
def eqB (a b : Nat) : Nat := if a = b then 1 else 0
theorem eqB_lt (a b : Nat) : eqB a b < 2 := by unfold eqB; split <;> omega
def whoN (G : Off) (row : Nat) : Nat → Nat
  | 0 => 0
  | k + 1 => whoN G row k ||| eqB (rw6 (G.wr k)) row * 2 ^ k
noncomputable def aWho (S : Sta) (x y : Int32) : Int32 := if papN x = 1 ∧ iR y 0 60 = 1 then nI (whoN (goO S.o (nn y)) (rw6 (dig (nn x))) S.o.n) else -1
theorem cc_who (hV : VS S) (hC : CW I J S) {x y : Int32} : mj_E 92 [.ref 0, .int x, .int y] (KC, I, J, GC) (fun w' r => r = some (.int (aWho S x y)) ∧ ∃ I' J', w' = (KC, I', J', GC) ∧ CW I' J' S) := by
  have hn := hV.o.n
  have hd := hV.day
  have hp01 := papN_lt x
  have hr01 := ir01 y 0 60
  unfold aWho
  refine mjT_go 1 (pc' := 1) (L' := [some (.ref 0), some (.int x), some (.int y), none, none, none]) (st' := [.int x]) (w1 := (KC, I, J, GC)) rfl ?_
  refine mjT_callE (as := [.int x]) (rest := []) (r1 := some (.int (pckI x))) rfl rfl rfl rfl rfl ⟨rfl, rfl⟩ c_packedP ?_
  refine mjT_go 3 (pc' := if pckI x < 0 then 16 else 9) (L' := [some (.ref 0), some (.int x), some (.int y), some (.int (pckI x)), none, none]) (st' := []) (w1 := (KC, I, J, GC)) rfl ?_
  refine mjT_if (fun h1 => ?_) (fun h1 => ?_)
  · rw [pck_neg] at h1
    rw [if_neg (by omega)]
    refine mjT_go 1 (pc' := 17) (L' := [some (.ref 0), some (.int x), some (.int y), some (.int (pckI x)), none, none]) (st' := [.int (-1)]) (w1 := (KC, I, J, GC)) rfl ?_
    refine mjT_ret rfl rfl rfl ?_
    exact ⟨rfl, _, _, rfl, hC⟩
  rw [pck_neg] at h1
  refine mjT_go 1 (pc' := 10) (L' := [some (.ref 0), some (.int x), some (.int y), some (.int (pckI x)), none, none]) (st' := [.int y]) (w1 := (KC, I, J, GC)) rfl ?_
  refine mjT_callE (as := [.int y]) (rest := []) (r1 := some (.int (nI (iR y 0 60)))) rfl rfl rfl rfl rfl ⟨rfl, rfl⟩ c_isForetold ?_
  refine mjT_go 1 (pc' := if ¬ nI (iR y 0 60) = 0 then 18 else 16) (L' := [some (.ref 0), some (.int x), some (.int y), some (.int (pckI x)), none, none]) (st' := []) (w1 := (KC, I, J, GC)) rfl ?_
  refine mjT_if_ne (u := iR y 0 60) (v := 0) rfl nI_0.symm (by omega) (by omega) (fun h2 => ?_) (fun h2 => ?_)
  rotate_left
  · rw [if_neg (by omega)]
    refine mjT_go 1 (pc' := 17) (L' := [some (.ref 0), some (.int x), some (.int y), some (.int (pckI x)), none, none]) (st' := [.int (-1)]) (w1 := (KC, I, J, GC)) rfl ?_
    refine mjT_ret rfl rfl rfl ?_
    exact ⟨rfl, _, _, rfl, hC⟩
  rw [if_pos (by omega)]
  obtain ⟨m, hm, rfl, _, hdg, e⟩ := papN_1 (x := x) (by omega)
  obtain ⟨n, _, hn60, rfl⟩ := iR_1 (x := y) (a := 0) (b := 60) (by omega) (by omega) (by omega)
  rw [show pckI (nI m) = nI (rw6 (dig m)) by unfold pckI; rw [if_pos (by omega), e]]
  rw [nn_N (by omega), nn_N (by omega)]
  have hrl := rw6_lt hdg
  generalize rw6 (dig m) = row at *
  refine mjT_go 2 (pc' := 20) (L' := [some (.ref 0), some (.int (nI m)), some (.int (nI n)), some (.int (nI row)), none, none]) (st' := [.int (nI n), .ref 0]) (w1 := (KC, I, J, GC)) rfl ?_
  refine mjT_call (as := [.ref 0, .int (nI n)]) (rest := []) rfl rfl rfl rfl rfl ⟨rfl, rfl⟩ (c_foretellAll hV.o hC.o (by omega)) ?_
  rintro _ _ ⟨rfl, I2, rfl, hO2, hf2⟩
  have hC2 := cw_fx hC hV hf2
  have hoL := hC2.o
  have hVg := v_go hV.o n (by omega)
  have hgn := go_n S.o n
  generalize goO S.o n = G at *
  refine mjT_go 4 (pc' := 29) (L' := [some (.ref 0), some (.int (nI m)), some (.int (nI n)), some (.int (nI row)), some (.int (nI 0)), some (.int (nI 0))]) (st' := []) (w1 := (KC, I2, J, GC)) rfl ?_
  refine mj_loop (fun k L w => L = [some (.ref 0), some (.int (nI m)), some (.int (nI n)), some (.int (nI row)), some (.int (nI (whoN G row k))), some (.int (nI k))] ∧ w = (KC, I2, J, GC)) S.o.n (k0 := 0) (Nat.zero_le _) ?_ ?_ ?_
  · exact ⟨rfl, rfl⟩
  · rintro k _ _ hk ⟨rfl, rfl⟩ hc
    have hwl := rw6_lt (hVg.wr k (by omega))
    refine mjT_go 3 (pc' := 35) (L' := [some (.ref 0), some (.int (nI m)), some (.int (nI n)), some (.int (nI row)), some (.int (nI (whoN G row k))), some (.int (nI k))]) (st' := [.ref 1, .int (nI k)]) (w1 := (KC, I2, J, GC)) rfl ?_
    refine mjT_gfi (v := nI S.o.n) rfl (Or.inl rfl) (pc' := 38) rfl rfl (mo_at (hoL.n) (by omega) (by omega)) ?_
    refine mjT_go 1 (pc' := if nI S.o.n ≤ nI k then 69 else 41) (L' := [some (.ref 0), some (.int (nI m)), some (.int (nI n)), some (.int (nI row)), some (.int (nI (whoN G row k))), some (.int (nI k))]) (st' := []) (w1 := (KC, I2, J, GC)) rfl ?_
    refine mjT_ifF (nI_ge (by omega) (by omega)) ?_
    refine mjT_go 3 (pc' := 47) (L' := [some (.ref 0), some (.int (nI m)), some (.int (nI n)), some (.int (nI row)), some (.int (nI (whoN G row k))), some (.int (nI k))]) (st' := [.int (nI k), .ref 75]) (w1 := (KC, I2, J, GC)) rfl ?_
    refine mjT_callE (as := [.ref 75, .int (nI k)]) (rest := []) (r1 := some (.int (nI (rw6 (G.wr k))))) rfl rfl rfl rfl rfl ⟨rfl, rfl⟩ (c_writtenBy hVg.n og_75 hO2 (by omega) trivial) ?_
    refine mjT_go 2 (pc' := if ¬ nI (rw6 (G.wr k)) = nI row then 63 else 54) (L' := [some (.ref 0), some (.int (nI m)), some (.int (nI n)), some (.int (nI row)), some (.int (nI (whoN G row k))), some (.int (nI k))]) (st' := []) (w1 := (KC, I2, J, GC)) rfl ?_
    refine mjT_if_ne (u := rw6 (G.wr k)) (v := row) rfl rfl (by omega) (by omega) (fun h3 => ?_) (fun h3 => ?_)
    · refine mjT_go 2 (pc' := 29) (L' := [some (.ref 0), some (.int (nI m)), some (.int (nI n)), some (.int (nI row)), some (.int (nI (whoN G row k))), some (.int ((nI k) + (nI 1)))]) (st' := []) (w1 := (KC, I2, J, GC)) rfl ?_
      rw [nI_add, show whoN G row k = whoN G row (k + 1) by show _ = _ ||| _; unfold eqB; rw [if_neg h3, Nat.zero_mul, Nat.or_zero]]
      exact hc _ _ ⟨rfl, rfl⟩
    · refine mjT_go 5 (pc' := 61) (L' := [some (.ref 0), some (.int (nI m)), some (.int (nI n)), some (.int (nI row)), some (.int (nI (whoN G row k))), some (.int (nI k))]) (st' := [.int ((nI (whoN G row k)) ||| ((nI 1) <<< ((nI k) &&& 31)))]) (w1 := (KC, I2, J, GC)) rfl ?_
      refine mjT_go 1 (pc' := 63) (L' := [some (.ref 0), some (.int (nI m)), some (.int (nI n)), some (.int (nI row)), some (.int ((nI (whoN G row k)) ||| ((nI 1) <<< ((nI k) &&& 31)))), some (.int (nI k))]) (st' := []) (w1 := (KC, I2, J, GC)) rfl ?_
      rw [shb 1 (by omega) k (by omega), nI_or, show whoN G row k ||| 1 * 2 ^ k = whoN G row (k + 1) by show _ = _ ||| _; unfold eqB; rw [if_pos h3]]
      refine mjT_go 2 (pc' := 29) (L' := [some (.ref 0), some (.int (nI m)), some (.int (nI n)), some (.int (nI row)), some (.int (nI (whoN G row (k + 1)))), some (.int ((nI k) + (nI 1)))]) (st' := []) (w1 := (KC, I2, J, GC)) rfl ?_
      rw [nI_add]
      exact hc _ _ ⟨rfl, rfl⟩
  · rintro _ _ ⟨rfl, rfl⟩
    refine mjT_go 3 (pc' := 35) (L' := [some (.ref 0), some (.int (nI m)), some (.int (nI n)), some (.int (nI row)), some (.int (nI (whoN G row S.o.n))), some (.int (nI S.o.n))]) (st' := [.ref 1, .int (nI S.o.n)]) (w1 := (KC, I2, J, GC)) rfl ?_
    refine mjT_gfi (v := nI S.o.n) rfl (Or.inl rfl) (pc' := 38) rfl rfl (mo_at (hoL.n) (by omega) (by omega)) ?_
    refine mjT_go 1 (pc' := if nI S.o.n ≤ nI S.o.n then 69 else 41) (L' := [some (.ref 0), some (.int (nI m)), some (.int (nI n)), some (.int (nI row)), some (.int (nI (whoN G row S.o.n))), some (.int (nI S.o.n))]) (st' := []) (w1 := (KC, I2, J, GC)) rfl ?_
    refine mjT_ifT (Int32.le_refl _) ?_
    refine mjT_go 1 (pc' := 71) (L' := [some (.ref 0), some (.int (nI m)), some (.int (nI n)), some (.int (nI row)), some (.int (nI (whoN G row S.o.n))), some (.int (nI S.o.n))]) (st' := [.int (nI (whoN G row S.o.n))]) (w1 := (KC, I2, J, GC)) rfl ?_
    refine mjT_ret rfl rfl rfl ?_
    exact ⟨rfl, _, _, rfl, hC2⟩
theorem mm_who (hV : VS S) (hM : MW I J S) {x y : Int32} : mj_E 188 [.ref 0, .int x, .int y] (KM, I, J, GM) (fun w' r => r = some (.int (aWho S x y)) ∧ ∃ I' J', w' = (KM, I', J', GM) ∧ MW I' J' S) := by
  have hn := hV.o.n
  have hd := hV.day
  have hp01 := papN_lt x
  have hr01 := ir01 y 0 60
  unfold aWho
  refine mjT_go 2 (pc' := 2) (L' := [some (.ref 0), some (.int x), some (.int y), none, none]) (st' := [.long x.toInt64]) (w1 := (KM, I, J, GM)) rfl ?_
  refine mjT_callE (as := [.long x.toInt64]) (rest := []) (r1 := some (.int (nI (papN x)))) rfl rfl rfl rfl rfl ⟨rfl, rfl⟩ m_isPaperI ?_
  refine mjT_go 1 (pc' := if nI (papN x) = 0 then 15 else 8) (L' := [some (.ref 0), some (.int x), some (.int y), none, none]) (st' := []) (w1 := (KM, I, J, GM)) rfl ?_
  refine mjT_if_eq (u := papN x) (v := 0) rfl nI_0.symm (by omega) (by omega) (fun h1 => ?_) (fun h1 => ?_)
  · rw [if_neg (by omega)]
    refine mjT_go 1 (pc' := 16) (L' := [some (.ref 0), some (.int x), some (.int y), none, none]) (st' := [.int (-1)]) (w1 := (KM, I, J, GM)) rfl ?_
    refine mjT_ret rfl rfl rfl ?_
    exact ⟨rfl, _, _, rfl, hM⟩
  refine mjT_go 1 (pc' := 9) (L' := [some (.ref 0), some (.int x), some (.int y), none, none]) (st' := [.int y]) (w1 := (KM, I, J, GM)) rfl ?_
  refine mjT_callE (as := [.int y]) (rest := []) (r1 := some (.int (nI (iR y 0 60)))) rfl rfl rfl rfl rfl ⟨rfl, rfl⟩ m_isLong ?_
  refine mjT_go 1 (pc' := if ¬ nI (iR y 0 60) = 0 then 17 else 15) (L' := [some (.ref 0), some (.int x), some (.int y), none, none]) (st' := []) (w1 := (KM, I, J, GM)) rfl ?_
  refine mjT_if_ne (u := iR y 0 60) (v := 0) rfl nI_0.symm (by omega) (by omega) (fun h2 => ?_) (fun h2 => ?_)
  rotate_left
  · rw [if_neg (by omega)]
    refine mjT_go 1 (pc' := 16) (L' := [some (.ref 0), some (.int x), some (.int y), none, none]) (st' := [.int (-1)]) (w1 := (KM, I, J, GM)) rfl ?_
    refine mjT_ret rfl rfl rfl ?_
    exact ⟨rfl, _, _, rfl, hM⟩
  rw [if_pos (by omega)]
  obtain ⟨m, hm, rfl, _, hdg, e⟩ := papN_1 (x := x) (by omega)
  obtain ⟨n, _, hn60, rfl⟩ := iR_1 (x := y) (a := 0) (b := 60) (by omega) (by omega) (by omega)
  rw [nn_N (by omega), nn_N (by omega)]
  have hfm : fg (dig m) 6 = m := fg_dig (by omega)
  obtain ⟨row, hrow⟩ : ∃ row, rw6 (dig m) = row := ⟨_, rfl⟩
  rw [hrow]
  refine mjT_go 1 (pc' := 18) (L' := [some (.ref 0), some (.int (nI m)), some (.int (nI n)), none, none]) (st' := [.ref 0]) (w1 := (KM, I, J, GM)) rfl ?_
  refine mjT_call (as := [.ref 0]) (rest := []) rfl rfl rfl rfl rfl ⟨rfl, rfl⟩ (m_begin hV.o hM.o) ?_
  rintro _ _ ⟨rfl, I2, rfl, hO2, hf2⟩
  refine mjT_go 2 (pc' := 23) (L' := [some (.ref 0), some (.int (nI m)), some (.int (nI n)), none, none]) (st' := [.int (nI n), .ref 0]) (w1 := (KM, I2, J, GM)) rfl ?_
  refine mjT_call (as := [.ref 0, .int (nI n)]) (rest := []) rfl rfl rfl rfl rfl ⟨rfl, rfl⟩ (m_goOn hV.o hO2 (by omega)) ?_
  rintro _ _ ⟨rfl, I3, rfl, hO3, hf3⟩
  have hM3 := mw_ft hM hV (ft_tr hf2 (ft_of hf3))
  have hoL := hM3.o
  have hVg := v_go hV.o n (by omega)
  have hgn := go_n S.o n
  generalize goO S.o n = G at *
  refine mjT_go 4 (pc' := 31) (L' := [some (.ref 0), some (.int (nI m)), some (.int (nI n)), some (.int (nI 0)), some (.int (nI 0))]) (st' := []) (w1 := (KM, I3, J, GM)) rfl ?_
  refine mj_loop (fun k L w => L = [some (.ref 0), some (.int (nI m)), some (.int (nI n)), some (.int (nI (whoN G row k))), some (.int (nI k))] ∧ w = (KM, I3, J, GM)) S.o.n (k0 := 0) (Nat.zero_le _) ?_ ?_ ?_
  · exact ⟨rfl, rfl⟩
  · rintro k _ _ hk ⟨rfl, rfl⟩ hc
    have hb1 := fg_lt (hVg.wr k (by omega)) 6 (by omega)
    have hwk : fg (G.wr k) 6 = m ↔ rw6 (G.wr k) = row := by rw [← hrow, ← fg_inj (hVg.wr k (by omega)) hdg, hfm]
    have nxt : ∀ b, b < 2 → b = eqB (rw6 (G.wr k)) row → nI (whoN G row k) ||| nI b <<< (nI k &&& 31) = nI (whoN G row (k + 1)) := fun b hb e => by rw [shb b hb k (by omega), nI_or, e]; rfl
    refine mjT_go 4 (pc' := 40) (L' := [some (.ref 0), some (.int (nI m)), some (.int (nI n)), some (.int (nI (whoN G row k))), some (.int (nI k))]) (st' := [.int (nI 147), .ref 1, .int (nI k)]) (w1 := (KM, I3, J, GM)) rfl ?_
    refine mjT_ial (v := nI S.o.n) 147 1840 rfl (pc' := 41) rfl rfl rfl (by omega) (by omega) (mo_at hoL.n rfl (by omega)) ?_
    refine mjT_go 1 (pc' := if nI S.o.n ≤ nI k then 74 else 44) (L' := [some (.ref 0), some (.int (nI m)), some (.int (nI n)), some (.int (nI (whoN G row k))), some (.int (nI k))]) (st' := []) (w1 := (KM, I3, J, GM)) rfl ?_
    refine mjT_ifF (nI_ge (by omega) (by omega)) ?_
    refine mjT_go 3 (pc' := 48) (L' := [some (.ref 0), some (.int (nI m)), some (.int (nI n)), some (.int (nI (whoN G row k))), some (.int (nI k))]) (st' := [.int (nI k), .ref 0, .int (nI (whoN G row k))]) (w1 := (KM, I3, J, GM)) rfl ?_
    refine mjT_callE (as := [.ref 0, .int (nI k)]) (rest := [.int (nI (whoN G row k))]) (r1 := some (.int (nI (fg (G.wr k) 6)))) rfl rfl rfl rfl rfl ⟨rfl, rfl⟩ (m_writesNow hVg.n hO3 (by omega)) ?_
    refine mjT_go 2 (pc' := if ¬ nI (fg (G.wr k) 6) = nI m then 59 else 55) (L' := [some (.ref 0), some (.int (nI m)), some (.int (nI n)), some (.int (nI (whoN G row k))), some (.int (nI k))]) (st' := [.int (nI (whoN G row k))]) (w1 := (KM, I3, J, GM)) rfl ?_
    refine mjT_if_ne (u := fg (G.wr k) 6) (v := m) rfl rfl (by omega) (by omega) (fun h3 => ?_) (fun h3 => ?_)
    · rw [Ne, hwk] at h3
      refine mjT_go 1 (pc' := 60) (L' := [some (.ref 0), some (.int (nI m)), some (.int (nI n)), some (.int (nI (whoN G row k))), some (.int (nI k))]) (st' := [.int (nI 0), .int (nI (whoN G row k))]) (w1 := (KM, I3, J, GM)) rfl ?_
      refine mjT_callE (as := [.int (nI 0)]) (rest := [.int (nI (whoN G row k))]) (r1 := some (.int (nI 0))) rfl rfl rfl rfl rfl ⟨rfl, rfl⟩ (m_one (by omega) _) ?_
      refine mjT_go 2 (pc' := 66) (L' := [some (.ref 0), some (.int (nI m)), some (.int (nI n)), some (.int (nI (whoN G row k))), some (.int (nI k))]) (st' := [.int ((nI 0) <<< ((nI k) &&& 31)), .int (nI (whoN G row k))]) (w1 := (KM, I3, J, GM)) rfl ?_
      refine mjT_go 1 (pc' := 67) (L' := [some (.ref 0), some (.int (nI m)), some (.int (nI n)), some (.int (nI (whoN G row k))), some (.int (nI k))]) (st' := [.int ((nI (whoN G row k)) ||| ((nI 0) <<< ((nI k) &&& 31)))]) (w1 := (KM, I3, J, GM)) rfl ?_
      rw [nxt 0 (by omega) (by unfold eqB; rw [if_neg h3])]
      refine mjT_go 3 (pc' := 31) (L' := [some (.ref 0), some (.int (nI m)), some (.int (nI n)), some (.int (nI (whoN G row (k + 1)))), some (.int ((nI k) + (nI 1)))]) (st' := []) (w1 := (KM, I3, J, GM)) rfl ?_
      rw [nI_add]
      exact hc _ _ ⟨rfl, rfl⟩
    · rw [hwk] at h3
      refine mjT_go 2 (pc' := 60) (L' := [some (.ref 0), some (.int (nI m)), some (.int (nI n)), some (.int (nI (whoN G row k))), some (.int (nI k))]) (st' := [.int (nI 1), .int (nI (whoN G row k))]) (w1 := (KM, I3, J, GM)) rfl ?_
      refine mjT_callE (as := [.int (nI 1)]) (rest := [.int (nI (whoN G row k))]) (r1 := some (.int (nI 1))) rfl rfl rfl rfl rfl ⟨rfl, rfl⟩ (m_one (by omega) _) ?_
      refine mjT_go 2 (pc' := 66) (L' := [some (.ref 0), some (.int (nI m)), some (.int (nI n)), some (.int (nI (whoN G row k))), some (.int (nI k))]) (st' := [.int ((nI 1) <<< ((nI k) &&& 31)), .int (nI (whoN G row k))]) (w1 := (KM, I3, J, GM)) rfl ?_
      refine mjT_go 1 (pc' := 67) (L' := [some (.ref 0), some (.int (nI m)), some (.int (nI n)), some (.int (nI (whoN G row k))), some (.int (nI k))]) (st' := [.int ((nI (whoN G row k)) ||| ((nI 1) <<< ((nI k) &&& 31)))]) (w1 := (KM, I3, J, GM)) rfl ?_
      rw [nxt 1 (by omega) (by unfold eqB; rw [if_pos h3])]
      refine mjT_go 3 (pc' := 31) (L' := [some (.ref 0), some (.int (nI m)), some (.int (nI n)), some (.int (nI (whoN G row (k + 1)))), some (.int ((nI k) + (nI 1)))]) (st' := []) (w1 := (KM, I3, J, GM)) rfl ?_
      rw [nI_add]
      exact hc _ _ ⟨rfl, rfl⟩
  · rintro _ _ ⟨rfl, rfl⟩
    refine mjT_go 4 (pc' := 40) (L' := [some (.ref 0), some (.int (nI m)), some (.int (nI n)), some (.int (nI (whoN G row S.o.n))), some (.int (nI S.o.n))]) (st' := [.int (nI 147), .ref 1, .int (nI S.o.n)]) (w1 := (KM, I3, J, GM)) rfl ?_
    refine mjT_ial (v := nI S.o.n) 147 1840 rfl (pc' := 41) rfl rfl rfl (by omega) (by omega) (mo_at hoL.n rfl (by omega)) ?_
    refine mjT_go 1 (pc' := if nI S.o.n ≤ nI S.o.n then 74 else 44) (L' := [some (.ref 0), some (.int (nI m)), some (.int (nI n)), some (.int (nI (whoN G row S.o.n))), some (.int (nI S.o.n))]) (st' := []) (w1 := (KM, I3, J, GM)) rfl ?_
    refine mjT_ifT (Int32.le_refl _) ?_
    refine mjT_go 1 (pc' := 75) (L' := [some (.ref 0), some (.int (nI m)), some (.int (nI n)), some (.int (nI (whoN G row S.o.n))), some (.int (nI S.o.n))]) (st' := [.int (nI (whoN G row S.o.n))]) (w1 := (KM, I3, J, GM)) rfl ?_
    refine mjT_ret rfl rfl rfl ?_
    exact ⟨rfl, _, _, rfl, hM3⟩
theorem sim_who {x y : Int32} : SimO 92 188 [.int x, .int y] := fun S _ _ _ _ hV hC hM => ⟨S, _, hV, cc_who hV hC, mm_who hV hM⟩
/-! most -/
/-- the greatest of the first (0: none, else one more), and of like ones the least that has it -/
def gtB (g : Nat → Nat) : Nat → Nat × Nat
  | 0 => (0, 0)
  | k + 1 => if (gtB g k).2 < g k then (k + 1, g k) else gtB g k
theorem gtB_t {g : Nat → Nat} {k : Nat} (h : (gtB g k).2 < g k) : gtB g (k + 1) = (k + 1, g k) := if_pos h
theorem gtB_f {g : Nat → Nat} {k : Nat} (h : ¬ (gtB g k).2 < g k) : gtB g (k + 1) = gtB g k := if_neg h
theorem gtB_le {g : Nat → Nat} {m : Nat} (h : ∀ k, g k ≤ m) : ∀ k, (gtB g k).2 ≤ m
  | 0 => Nat.zero_le _
  | k + 1 => by
    by_cases e : (gtB g k).2 < g k
    · rw [gtB_t e]; exact h k
    · rw [gtB_f e]; exact gtB_le h k
theorem tI_le {a c : Nat} (ha : a < 2 ^ 31) (hc : c ≤ 2 ^ 31) : nI a ≤ tI c ↔ ¬ c < a + 1 := by
  cases c with
  | zero => exact ⟨fun q => absurd q (i32_nle.mpr (by
      have := nI_toInt ha
      rw [Int32.lt_iff_toInt_lt, this, show (tI 0).toInt = -4 by decide]; omega)), fun q => absurd (show 0 < a + 1 by omega) q⟩
  | succ d =>
    rw [tI_s, nI_leI ha (by omega)]; omega
def wrsN (G : Off) (s pl : Nat) : Nat → Nat
  | 0 => 0
  | q + 1 => wrsN G s pl q + eqB (G.wr q pl) s
theorem wrs_le (G : Off) (s pl : Nat) : ∀ q, wrsN G s pl q ≤ q
  | 0 => Nat.le_refl _
  | q + 1 => by
    have h1 := wrs_le G s pl q
    have h2 := eqB_lt (G.wr q pl) s
    unfold wrsN; omega
theorem c_writersOf (hV : VO O) (hG : OfG o) (hO : RO I o O TT) {s pl : Nat} (hs : s < 8) (hpl : pl < 6) : mj_Ev 25 [.ref o, .int (nI s), .int (nI pl)] (KC, I, J, GC) (KC, I, J, GC) (some (.int (nI (wrsN O s pl O.n)))) := by
  refine mj_ev_of ?_
  have hn := hV.n
  refine mjT_go 4 (pc' := 5) (L' := [some (.ref o), some (.int (nI s)), some (.int (nI pl)), some (.int (nI 0)), some (.int (nI 0))]) (st' := []) (w1 := (KC, I, J, GC)) rfl ?_
  refine mj_loop (fun k L w => L = [some (.ref o), some (.int (nI s)), some (.int (nI pl)), some (.int (nI (wrsN O s pl k))), some (.int (nI k))] ∧ w = (KC, I, J, GC)) O.n (k0 := 0) (Nat.zero_le _) ?_ ?_ ?_
  · exact ⟨rfl, rfl⟩
  · rintro k _ _ hk ⟨rfl, rfl⟩ hc
    have hw := hV.wr k hk pl hpl
    refine mjT_go 2 (pc' := 8) (L' := [some (.ref o), some (.int (nI s)), some (.int (nI pl)), some (.int (nI (wrsN O s pl k))), some (.int (nI k))]) (st' := [.ref o, .int (nI k)]) (w1 := (KC, I, J, GC)) rfl ?_
    refine mjT_gfi (v := nI O.n) rfl (Or.inl rfl) (pc' := 11) rfl hG.k0 (mo_at (hO.n) (by omega) (by omega)) ?_
    refine mjT_go 1 (pc' := if nI O.n ≤ nI k then 41 else 14) (L' := [some (.ref o), some (.int (nI s)), some (.int (nI pl)), some (.int (nI (wrsN O s pl k))), some (.int (nI k))]) (st' := []) (w1 := (KC, I, J, GC)) rfl ?_
    refine mjT_ifF (nI_ge (by omega) (by omega)) ?_
    refine mjT_go 1 (pc' := 15) (L' := [some (.ref o), some (.int (nI s)), some (.int (nI pl)), some (.int (nI (wrsN O s pl k))), some (.int (nI k))]) (st' := [.ref o]) (w1 := (KC, I, J, GC)) rfl ?_
    refine mjT_gfr (h' := (o + 1)) rfl (pc' := 18) rfl hG.k0 hG.r1 ?_
    refine mjT_gfr (h' := (o + 2)) rfl (pc' := 21) rfl hG.k1 hG.r2 ?_
    refine mjT_go 1 (pc' := 23) (L' := [some (.ref o), some (.int (nI s)), some (.int (nI pl)), some (.int (nI (wrsN O s pl k))), some (.int (nI k))]) (st' := [.int (nI k), .ref (o + 2)]) (w1 := (KC, I, J, GC)) rfl ?_
    refine mjT_ial (v := nI (rw6 (O.wr k))) k 7 rfl (pc' := 24) rfl hG.k2 rfl (by omega) (by omega) (mo_at (hO.wr k (show k < O.n by omega) (by first | trivial | assumption | simp_all)) (by omega) (by omega)) ?_
    refine mjT_go 1 (pc' := 25) (L' := [some (.ref o), some (.int (nI s)), some (.int (nI pl)), some (.int (nI (wrsN O s pl k))), some (.int (nI k))]) (st' := [.int (nI pl), .int (nI (rw6 (O.wr k)))]) (w1 := (KC, I, J, GC)) rfl ?_
    refine mjT_callE (as := [.int (nI (rw6 (O.wr k))), .int (nI pl)]) (rest := []) (r1 := some (.int (nI (O.wr k pl)))) rfl rfl rfl rfl rfl ⟨rfl, rfl⟩ (e_stroke (hV.wr k hk) hpl _) ?_
    refine mjT_go 2 (pc' := if ¬ nI (O.wr k pl) = nI s then 35 else 32) (L' := [some (.ref o), some (.int (nI s)), some (.int (nI pl)), some (.int (nI (wrsN O s pl k))), some (.int (nI k))]) (st' := []) (w1 := (KC, I, J, GC)) rfl ?_
    refine mjT_if_ne (u := O.wr k pl) (v := s) rfl rfl (by omega) (by omega) (fun h1 => ?_) (fun h1 => ?_)
    · refine mjT_go 2 (pc' := 5) (L' := [some (.ref o), some (.int (nI s)), some (.int (nI pl)), some (.int (nI (wrsN O s pl k))), some (.int ((nI k) + (nI 1)))]) (st' := []) (w1 := (KC, I, J, GC)) rfl ?_
      rw [nI_add, show wrsN O s pl k = wrsN O s pl (k + 1) by show _ = _ + _; unfold eqB; rw [if_neg h1]; rfl]
      exact hc _ _ ⟨rfl, rfl⟩
    · refine mjT_go 3 (pc' := 5) (L' := [some (.ref o), some (.int (nI s)), some (.int (nI pl)), some (.int ((nI (wrsN O s pl k)) + (nI 1))), some (.int ((nI k) + (nI 1)))]) (st' := []) (w1 := (KC, I, J, GC)) rfl ?_
      rw [nI_add, nI_add, show wrsN O s pl k + 1 = wrsN O s pl (k + 1) by show _ = _ + _; unfold eqB; rw [if_pos h1]]
      exact hc _ _ ⟨rfl, rfl⟩
  · rintro _ _ ⟨rfl, rfl⟩
    refine mjT_go 2 (pc' := 8) (L' := [some (.ref o), some (.int (nI s)), some (.int (nI pl)), some (.int (nI (wrsN O s pl O.n))), some (.int (nI O.n))]) (st' := [.ref o, .int (nI O.n)]) (w1 := (KC, I, J, GC)) rfl ?_
    refine mjT_gfi (v := nI O.n) rfl (Or.inl rfl) (pc' := 11) rfl hG.k0 (mo_at (hO.n) (by omega) (by omega)) ?_
    refine mjT_go 1 (pc' := if nI O.n ≤ nI O.n then 41 else 14) (L' := [some (.ref o), some (.int (nI s)), some (.int (nI pl)), some (.int (nI (wrsN O s pl O.n))), some (.int (nI O.n))]) (st' := []) (w1 := (KC, I, J, GC)) rfl ?_
    refine mjT_ifT (Int32.le_refl _) ?_
    refine mjT_go 1 (pc' := 42) (L' := [some (.ref o), some (.int (nI s)), some (.int (nI pl)), some (.int (nI (wrsN O s pl O.n))), some (.int (nI O.n))]) (st' := [.int (nI (wrsN O s pl O.n))]) (w1 := (KC, I, J, GC)) rfl ?_
    refine mjT_ret rfl rfl rfl ?_
    exact ⟨rfl, rfl⟩
def mstN (O G : Off) (pl k : Nat) : Nat := wrsN G (O.own k pl) pl O.n + 1
noncomputable def aMost (S : Sta) (x y z : Int32) : Int32 := if iR x 0 5 = 1 ∧ iR y 0 60 = 1 ∧ iR z 0 1 = 1 then (if nn z = 0 then tI (gtB (mstN S.o (goO S.o (nn y)) (nn x)) S.o.n).1 else tI (gtB (mstN S.o (goO S.o (nn y)) (nn x)) S.o.n).2) else -1
theorem cc_most (hV : VS S) (hC : CW I J S) {x y z : Int32} : mj_E 94 [.ref 0, .int x, .int y, .int z] (KC, I, J, GC) (fun w' r => r = some (.int (aMost S x y z)) ∧ ∃ I' J', w' = (KC, I', J', GC) ∧ CW I' J' S) := by
  have hn := hV.o.n
  have hd := hV.day
  have hr1 := ir01 x 0 5
  have hr2 := ir01 y 0 60
  have hr3 := ir01 z 0 1
  unfold aMost
  refine mjT_go 1 (pc' := 1) (L' := [some (.ref 0), some (.int x), some (.int y), some (.int z), none, none, none, none]) (st' := [.int x]) (w1 := (KC, I, J, GC)) rfl ?_
  refine mjT_callE (as := [.int x]) (rest := []) (r1 := some (.int (nI (iR x 0 5)))) rfl rfl rfl rfl rfl ⟨rfl, rfl⟩ c_isPlace ?_
  refine mjT_go 1 (pc' := if nI (iR x 0 5) = 0 then 23 else 7) (L' := [some (.ref 0), some (.int x), some (.int y), some (.int z), none, none, none, none]) (st' := []) (w1 := (KC, I, J, GC)) rfl ?_
  refine mjT_if_eq (u := iR x 0 5) (v := 0) rfl nI_0.symm (by omega) (by omega) (fun h1 => ?_) (fun h1 => ?_)
  · rw [if_neg (by omega)]
    refine mjT_go 1 (pc' := 24) (L' := [some (.ref 0), some (.int x), some (.int y), some (.int z), none, none, none, none]) (st' := [.int (-1)]) (w1 := (KC, I, J, GC)) rfl ?_
    refine mjT_ret rfl rfl rfl ?_
    exact ⟨rfl, _, _, rfl, hC⟩
  refine mjT_go 1 (pc' := 8) (L' := [some (.ref 0), some (.int x), some (.int y), some (.int z), none, none, none, none]) (st' := [.int y]) (w1 := (KC, I, J, GC)) rfl ?_
  refine mjT_callE (as := [.int y]) (rest := []) (r1 := some (.int (nI (iR y 0 60)))) rfl rfl rfl rfl rfl ⟨rfl, rfl⟩ c_isForetold ?_
  refine mjT_go 1 (pc' := if nI (iR y 0 60) = 0 then 23 else 14) (L' := [some (.ref 0), some (.int x), some (.int y), some (.int z), none, none, none, none]) (st' := []) (w1 := (KC, I, J, GC)) rfl ?_
  refine mjT_if_eq (u := iR y 0 60) (v := 0) rfl nI_0.symm (by omega) (by omega) (fun h2 => ?_) (fun h2 => ?_)
  · rw [if_neg (by omega)]
    refine mjT_go 1 (pc' := 24) (L' := [some (.ref 0), some (.int x), some (.int y), some (.int z), none, none, none, none]) (st' := [.int (-1)]) (w1 := (KC, I, J, GC)) rfl ?_
    refine mjT_ret rfl rfl rfl ?_
    exact ⟨rfl, _, _, rfl, hC⟩
  refine mjT_go 3 (pc' := 17) (L' := [some (.ref 0), some (.int x), some (.int y), some (.int z), none, none, none, none]) (st' := [.int (nI 1), .int (nI 0), .int z]) (w1 := (KC, I, J, GC)) rfl ?_
  refine mjT_callE (as := [.int z, .int (nI 0), .int (nI 1)]) (rest := []) (r1 := some (.int (nI (iR z 0 1)))) rfl rfl rfl rfl rfl ⟨rfl, rfl⟩ c_within ?_
  refine mjT_go 1 (pc' := if ¬ nI (iR z 0 1) = 0 then 25 else 23) (L' := [some (.ref 0), some (.int x), some (.int y), some (.int z), none, none, none, none]) (st' := []) (w1 := (KC, I, J, GC)) rfl ?_
  refine mjT_if_ne (u := iR z 0 1) (v := 0) rfl nI_0.symm (by omega) (by omega) (fun h3 => ?_) (fun h3 => ?_)
  rotate_left
  · rw [if_neg (by omega)]
    refine mjT_go 1 (pc' := 24) (L' := [some (.ref 0), some (.int x), some (.int y), some (.int z), none, none, none, none]) (st' := [.int (-1)]) (w1 := (KC, I, J, GC)) rfl ?_
    refine mjT_ret rfl rfl rfl ?_
    exact ⟨rfl, _, _, rfl, hC⟩
  rw [if_pos (show iR x 0 5 = 1 ∧ iR y 0 60 = 1 ∧ iR z 0 1 = 1 by omega)]
  obtain ⟨pl, _, hpl, rfl⟩ := iR_1 (x := x) (a := 0) (b := 5) (by omega) (by omega) (by omega)
  obtain ⟨n, _, hn60, rfl⟩ := iR_1 (x := y) (a := 0) (b := 60) (by omega) (by omega) (by omega)
  obtain ⟨wh, _, hwh, rfl⟩ := iR_1 (x := z) (a := 0) (b := 1) (by omega) (by omega) (by omega)
  rw [nn_N (by omega), nn_N (by omega), nn_N (by omega)]
  refine mjT_go 2 (pc' := 27) (L' := [some (.ref 0), some (.int (nI pl)), some (.int (nI n)), some (.int (nI wh)), none, none, none, none]) (st' := [.int (nI n), .ref 0]) (w1 := (KC, I, J, GC)) rfl ?_
  refine mjT_call (as := [.ref 0, .int (nI n)]) (rest := []) rfl rfl rfl rfl rfl ⟨rfl, rfl⟩ (c_foretellAll hV.o hC.o (by omega)) ?_
  rintro _ _ ⟨rfl, I2, rfl, hO2, hf2⟩
  have hC2 := cw_fx hC hV hf2
  have hoL := hC2.o
  have hVg := v_go hV.o n (by omega)
  have hgn := go_n S.o n
  generalize goO S.o n = G at *
  have hmb : ∀ k, mstN S.o G pl k ≤ 8 := fun k => by have := wrs_le G (S.o.own k pl) pl S.o.n; unfold mstN; omega
  refine mjT_go 6 (pc' := 41) (L' := [some (.ref 0), some (.int (nI pl)), some (.int (nI n)), some (.int (nI wh)), some (.int (-4)), some (.int (-4)), some (.int (nI 0)), none]) (st' := []) (w1 := (KC, I2, J, GC)) rfl ?_
  refine mj_loop (fun k L w => ∃ d : Option Value, L = [some (.ref 0), some (.int (nI pl)), some (.int (nI n)), some (.int (nI wh)), some (.int (tI (gtB (mstN S.o G pl) k).1)), some (.int (tI (gtB (mstN S.o G pl) k).2)), some (.int (nI k)), d] ∧ w = (KC, I2, J, GC)) S.o.n (k0 := 0) (Nat.zero_le _) ?_ ?_ ?_
  · exact ⟨_, rfl, rfl⟩
  · rintro k _ _ hk ⟨d, rfl, rfl⟩ hc
    have hgl := gtB_le hmb k
    have hst := hV.o.own k hk pl (by omega)
    have hwl := wrs_le G (S.o.own k pl) pl S.o.n
    refine mjT_go 3 (pc' := 47) (L' := [some (.ref 0), some (.int (nI pl)), some (.int (nI n)), some (.int (nI wh)), some (.int (tI (gtB (mstN S.o G pl) k).1)), some (.int (tI (gtB (mstN S.o G pl) k).2)), some (.int (nI k)), d]) (st' := [.ref 1, .int (nI k)]) (w1 := (KC, I2, J, GC)) rfl ?_
    refine mjT_gfi (v := nI S.o.n) rfl (Or.inl rfl) (pc' := 50) rfl rfl (mo_at (hoL.n) (by omega) (by omega)) ?_
    refine mjT_go 1 (pc' := if nI S.o.n ≤ nI k then 97 else 53) (L' := [some (.ref 0), some (.int (nI pl)), some (.int (nI n)), some (.int (nI wh)), some (.int (tI (gtB (mstN S.o G pl) k).1)), some (.int (tI (gtB (mstN S.o G pl) k).2)), some (.int (nI k)), d]) (st' := []) (w1 := (KC, I2, J, GC)) rfl ?_
    refine mjT_ifF (nI_ge (by omega) (by omega)) ?_
    refine mjT_go 5 (pc' := 63) (L' := [some (.ref 0), some (.int (nI pl)), some (.int (nI n)), some (.int (nI wh)), some (.int (tI (gtB (mstN S.o G pl) k).1)), some (.int (tI (gtB (mstN S.o G pl) k).2)), some (.int (nI k)), d]) (st' := [.int (nI k), .ref 1, .ref 75]) (w1 := (KC, I2, J, GC)) rfl ?_
    refine mjT_callE (as := [.ref 1, .int (nI k)]) (rest := [.ref 75]) (r1 := some (.int (nI (rw6 (S.o.own k))))) rfl rfl rfl rfl rfl ⟨rfl, rfl⟩ (c_ownOf hn og_1 hoL hk) ?_
    refine mjT_go 1 (pc' := 67) (L' := [some (.ref 0), some (.int (nI pl)), some (.int (nI n)), some (.int (nI wh)), some (.int (tI (gtB (mstN S.o G pl) k).1)), some (.int (tI (gtB (mstN S.o G pl) k).2)), some (.int (nI k)), d]) (st' := [.int (nI pl), .int (nI (rw6 (S.o.own k))), .ref 75]) (w1 := (KC, I2, J, GC)) rfl ?_
    refine mjT_callE (as := [.int (nI (rw6 (S.o.own k))), .int (nI pl)]) (rest := [.ref 75]) (r1 := some (.int (nI (S.o.own k pl)))) rfl rfl rfl rfl rfl ⟨rfl, rfl⟩ (e_stroke (hV.o.own k hk) (by omega) _) ?_
    refine mjT_go 1 (pc' := 71) (L' := [some (.ref 0), some (.int (nI pl)), some (.int (nI n)), some (.int (nI wh)), some (.int (tI (gtB (mstN S.o G pl) k).1)), some (.int (tI (gtB (mstN S.o G pl) k).2)), some (.int (nI k)), d]) (st' := [.int (nI pl), .int (nI (S.o.own k pl)), .ref 75]) (w1 := (KC, I2, J, GC)) rfl ?_
    refine mjT_callE (as := [.ref 75, .int (nI (S.o.own k pl)), .int (nI pl)]) (rest := []) (r1 := some (.int (nI (wrsN G (S.o.own k pl) pl S.o.n)))) rfl rfl rfl rfl rfl ⟨rfl, rfl⟩ (hgn ▸ c_writersOf hVg og_75 hO2 hst (by omega)) ?_
    refine mjT_go 4 (pc' := if nI (wrsN G (S.o.own k pl) pl S.o.n) ≤ tI (gtB (mstN S.o G pl) k).2 then 91 else 83) (L' := [some (.ref 0), some (.int (nI pl)), some (.int (nI n)), some (.int (nI wh)), some (.int (tI (gtB (mstN S.o G pl) k).1)), some (.int (tI (gtB (mstN S.o G pl) k).2)), some (.int (nI k)), some (.int (nI (wrsN G (S.o.own k pl) pl S.o.n)))]) (st' := []) (w1 := (KC, I2, J, GC)) rfl ?_
    refine mjT_if (fun h4 => ?_) (fun h4 => ?_)
    · rw [tI_le (by omega) (by omega)] at h4
      refine mjT_go 2 (pc' := 41) (L' := [some (.ref 0), some (.int (nI pl)), some (.int (nI n)), some (.int (nI wh)), some (.int (tI (gtB (mstN S.o G pl) k).1)), some (.int (tI (gtB (mstN S.o G pl) k).2)), some (.int ((nI k) + (nI 1))), some (.int (nI (wrsN G (S.o.own k pl) pl S.o.n)))]) (st' := []) (w1 := (KC, I2, J, GC)) rfl ?_
      rw [nI_add, ← show gtB (mstN S.o G pl) (k + 1) = gtB (mstN S.o G pl) k from gtB_f h4]
      exact hc _ _ ⟨_, rfl, rfl⟩
    · rw [tI_le (by omega) (by omega), Decidable.not_not] at h4
      refine mjT_go 6 (pc' := 41) (L' := [some (.ref 0), some (.int (nI pl)), some (.int (nI n)), some (.int (nI wh)), some (.int (nI k)), some (.int (nI (wrsN G (S.o.own k pl) pl S.o.n))), some (.int ((nI k) + (nI 1))), some (.int (nI (wrsN G (S.o.own k pl) pl S.o.n)))]) (st' := []) (w1 := (KC, I2, J, GC)) rfl ?_
      rw [nI_add]
      have e : gtB (mstN S.o G pl) (k + 1) = (k + 1, mstN S.o G pl k) := gtB_t h4
      exact hc _ _ ⟨_, by rw [e]; rfl, rfl⟩
  · rintro _ _ ⟨d, rfl, rfl⟩
    refine mjT_go 3 (pc' := 47) (L' := [some (.ref 0), some (.int (nI pl)), some (.int (nI n)), some (.int (nI wh)), some (.int (tI (gtB (mstN S.o G pl) S.o.n).1)), some (.int (tI (gtB (mstN S.o G pl) S.o.n).2)), some (.int (nI S.o.n)), d]) (st' := [.ref 1, .int (nI S.o.n)]) (w1 := (KC, I2, J, GC)) rfl ?_
    refine mjT_gfi (v := nI S.o.n) rfl (Or.inl rfl) (pc' := 50) rfl rfl (mo_at (hoL.n) (by omega) (by omega)) ?_
    refine mjT_go 1 (pc' := if nI S.o.n ≤ nI S.o.n then 97 else 53) (L' := [some (.ref 0), some (.int (nI pl)), some (.int (nI n)), some (.int (nI wh)), some (.int (tI (gtB (mstN S.o G pl) S.o.n).1)), some (.int (tI (gtB (mstN S.o G pl) S.o.n).2)), some (.int (nI S.o.n)), d]) (st' := []) (w1 := (KC, I2, J, GC)) rfl ?_
    refine mjT_ifT (Int32.le_refl _) ?_
    refine mjT_go 2 (pc' := if ¬ nI wh = 0 then 106 else 101) (L' := [some (.ref 0), some (.int (nI pl)), some (.int (nI n)), some (.int (nI wh)), some (.int (tI (gtB (mstN S.o G pl) S.o.n).1)), some (.int (tI (gtB (mstN S.o G pl) S.o.n).2)), some (.int (nI S.o.n)), d]) (st' := []) (w1 := (KC, I2, J, GC)) rfl ?_
    refine mjT_if_ne (u := wh) (v := 0) rfl nI_0.symm (by omega) (by omega) (fun h4 => ?_) (fun h4 => ?_)
    · refine mjT_go 1 (pc' := 108) (L' := [some (.ref 0), some (.int (nI pl)), some (.int (nI n)), some (.int (nI wh)), some (.int (tI (gtB (mstN S.o G pl) S.o.n).1)), some (.int (tI (gtB (mstN S.o G pl) S.o.n).2)), some (.int (nI S.o.n)), d]) (st' := [.int (tI (gtB (mstN S.o G pl) S.o.n).2)]) (w1 := (KC, I2, J, GC)) rfl ?_
      refine mjT_ret rfl rfl rfl ?_
      exact ⟨by rw [if_neg h4], _, _, rfl, hC2⟩
    · refine mjT_go 2 (pc' := 108) (L' := [some (.ref 0), some (.int (nI pl)), some (.int (nI n)), some (.int (nI wh)), some (.int (tI (gtB (mstN S.o G pl) S.o.n).1)), some (.int (tI (gtB (mstN S.o G pl) S.o.n).2)), some (.int (nI S.o.n)), d]) (st' := [.int (tI (gtB (mstN S.o G pl) S.o.n).1)]) (w1 := (KC, I2, J, GC)) rfl ?_
      refine mjT_ret rfl rfl rfl ?_
      exact ⟨by rw [if_pos h4], _, _, rfl, hC2⟩
theorem mm_most (hV : VS S) (hM : MW I J S) {x y z : Int32} : mj_E 190 [.ref 0, .int x, .int y, .int z] (KM, I, J, GM) (fun w' r => r = some (.int (aMost S x y z)) ∧ ∃ I' J', w' = (KM, I', J', GM) ∧ MW I' J' S) := by
  have hn := hV.o.n
  have hd := hV.day
  have hr1 := ir01 x 0 5
  have hr2 := ir01 y 0 60
  have hr3 := ir01 z 0 1
  unfold aMost
  refine mjT_go 4 (pc' := 6) (L' := [some (.ref 0), some (.int x), some (.int y), some (.int z), none, none, none, none, none]) (st' := [.long (lN 5), .long (lN 0), .long x.toInt64]) (w1 := (KM, I, J, GM)) rfl ?_
  refine mjT_callE (as := [.long x.toInt64, .long (lN 0), .long (lN 5)]) (rest := []) (r1 := some (.int (nI (iR x 0 5)))) rfl rfl rfl rfl rfl ⟨rfl, rfl⟩ (m_inR (by decide) (by decide)) ?_
  refine mjT_go 1 (pc' := if nI (iR x 0 5) = 0 then 29 else 12) (L' := [some (.ref 0), some (.int x), some (.int y), some (.int z), none, none, none, none, none]) (st' := []) (w1 := (KM, I, J, GM)) rfl ?_
  refine mjT_if_eq (u := iR x 0 5) (v := 0) rfl nI_0.symm (by omega) (by omega) (fun h1 => ?_) (fun h1 => ?_)
  · rw [if_neg (by omega)]
    refine mjT_go 1 (pc' := 30) (L' := [some (.ref 0), some (.int x), some (.int y), some (.int z), none, none, none, none, none]) (st' := [.int (-1)]) (w1 := (KM, I, J, GM)) rfl ?_
    refine mjT_ret rfl rfl rfl ?_
    exact ⟨rfl, _, _, rfl, hM⟩
  refine mjT_go 1 (pc' := 13) (L' := [some (.ref 0), some (.int x), some (.int y), some (.int z), none, none, none, none, none]) (st' := [.int y]) (w1 := (KM, I, J, GM)) rfl ?_
  refine mjT_callE (as := [.int y]) (rest := []) (r1 := some (.int (nI (iR y 0 60)))) rfl rfl rfl rfl rfl ⟨rfl, rfl⟩ m_isLong ?_
  refine mjT_go 1 (pc' := if nI (iR y 0 60) = 0 then 29 else 19) (L' := [some (.ref 0), some (.int x), some (.int y), some (.int z), none, none, none, none, none]) (st' := []) (w1 := (KM, I, J, GM)) rfl ?_
  refine mjT_if_eq (u := iR y 0 60) (v := 0) rfl nI_0.symm (by omega) (by omega) (fun h2 => ?_) (fun h2 => ?_)
  · rw [if_neg (by omega)]
    refine mjT_go 1 (pc' := 30) (L' := [some (.ref 0), some (.int x), some (.int y), some (.int z), none, none, none, none, none]) (st' := [.int (-1)]) (w1 := (KM, I, J, GM)) rfl ?_
    refine mjT_ret rfl rfl rfl ?_
    exact ⟨rfl, _, _, rfl, hM⟩
  refine mjT_go 4 (pc' := 23) (L' := [some (.ref 0), some (.int x), some (.int y), some (.int z), none, none, none, none, none]) (st' := [.long (lN 1), .long (lN 0), .long z.toInt64]) (w1 := (KM, I, J, GM)) rfl ?_
  refine mjT_callE (as := [.long z.toInt64, .long (lN 0), .long (lN 1)]) (rest := []) (r1 := some (.int (nI (iR z 0 1)))) rfl rfl rfl rfl rfl ⟨rfl, rfl⟩ (m_inR (by decide) (by decide)) ?_
  refine mjT_go 1 (pc' := if ¬ nI (iR z 0 1) = 0 then 31 else 29) (L' := [some (.ref 0), some (.int x), some (.int y), some (.int z), none, none, none, none, none]) (st' := []) (w1 := (KM, I, J, GM)) rfl ?_
  refine mjT_if_ne (u := iR z 0 1) (v := 0) rfl nI_0.symm (by omega) (by omega) (fun h3 => ?_) (fun h3 => ?_)
  rotate_left
  · rw [if_neg (by omega)]
    refine mjT_go 1 (pc' := 30) (L' := [some (.ref 0), some (.int x), some (.int y), some (.int z), none, none, none, none, none]) (st' := [.int (-1)]) (w1 := (KM, I, J, GM)) rfl ?_
    refine mjT_ret rfl rfl rfl ?_
    exact ⟨rfl, _, _, rfl, hM⟩
  rw [if_pos (show iR x 0 5 = 1 ∧ iR y 0 60 = 1 ∧ iR z 0 1 = 1 by omega)]
  obtain ⟨pl, _, hpl, rfl⟩ := iR_1 (x := x) (a := 0) (b := 5) (by omega) (by omega) (by omega)
  obtain ⟨n, _, hn60, rfl⟩ := iR_1 (x := y) (a := 0) (b := 60) (by omega) (by omega) (by omega)
  obtain ⟨wh, _, hwh, rfl⟩ := iR_1 (x := z) (a := 0) (b := 1) (by omega) (by omega) (by omega)
  rw [nn_N (by omega), nn_N (by omega), nn_N (by omega)]
  refine mjT_go 1 (pc' := 32) (L' := [some (.ref 0), some (.int (nI pl)), some (.int (nI n)), some (.int (nI wh)), none, none, none, none, none]) (st' := [.ref 0]) (w1 := (KM, I, J, GM)) rfl ?_
  refine mjT_call (as := [.ref 0]) (rest := []) rfl rfl rfl rfl rfl ⟨rfl, rfl⟩ (m_begin hV.o hM.o) ?_
  rintro _ _ ⟨rfl, I2, rfl, hO2, hf2⟩
  refine mjT_go 2 (pc' := 37) (L' := [some (.ref 0), some (.int (nI pl)), some (.int (nI n)), some (.int (nI wh)), none, none, none, none, none]) (st' := [.int (nI n), .ref 0]) (w1 := (KM, I2, J, GM)) rfl ?_
  refine mjT_call (as := [.ref 0, .int (nI n)]) (rest := []) rfl rfl rfl rfl rfl ⟨rfl, rfl⟩ (m_goOn hV.o hO2 (by omega)) ?_
  rintro _ _ ⟨rfl, I3, rfl, hO3, hf3⟩
  have hM3 := mw_ft hM hV (ft_tr hf2 (ft_of hf3))
  have hoL := hM3.o
  have hVg := v_go hV.o n (by omega)
  have hgn := go_n S.o n
  generalize goO S.o n = G at *
  have hmb : ∀ k, mstN S.o G pl k ≤ 8 := fun k => by have := wrs_le G (S.o.own k pl) pl S.o.n; unfold mstN; omega
  refine mjT_go 6 (pc' := 51) (L' := [some (.ref 0), some (.int (nI pl)), some (.int (nI n)), some (.int (nI wh)), some (.int (-4)), some (.int (-4)), some (.int (nI 0)), none, none]) (st' := []) (w1 := (KM, I3, J, GM)) rfl ?_
  refine mj_loop (fun k L w => ∃ d e : Option Value, L = [some (.ref 0), some (.int (nI pl)), some (.int (nI n)), some (.int (nI wh)), some (.int (tI (gtB (mstN S.o G pl) k).1)), some (.int (tI (gtB (mstN S.o G pl) k).2)), some (.int (nI k)), d, e] ∧ w = (KM, I3, J, GM)) S.o.n (k0 := 0) (Nat.zero_le _) ?_ ?_ ?_
  · exact ⟨_, _, rfl, rfl⟩
  · rintro u _ _ hk ⟨d, e, rfl, rfl⟩ hc
    have hgl := gtB_le hmb u
    have hst := hV.o.own u hk pl (by omega)
    have hwl := wrs_le G (S.o.own u pl) pl S.o.n
    refine mjT_go 4 (pc' := 60) (L' := [some (.ref 0), some (.int (nI pl)), some (.int (nI n)), some (.int (nI wh)), some (.int (tI (gtB (mstN S.o G pl) u).1)), some (.int (tI (gtB (mstN S.o G pl) u).2)), some (.int (nI u)), d, e]) (st' := [.int (nI 147), .ref 1, .int (nI u)]) (w1 := (KM, I3, J, GM)) rfl ?_
    refine mjT_ial (v := nI S.o.n) 147 1840 rfl (pc' := 61) rfl rfl rfl (by omega) (by omega) (mo_at hoL.n rfl (by omega)) ?_
    refine mjT_go 1 (pc' := if nI S.o.n ≤ nI u then 159 else 64) (L' := [some (.ref 0), some (.int (nI pl)), some (.int (nI n)), some (.int (nI wh)), some (.int (tI (gtB (mstN S.o G pl) u).1)), some (.int (tI (gtB (mstN S.o G pl) u).2)), some (.int (nI u)), d, e]) (st' := []) (w1 := (KM, I3, J, GM)) rfl ?_
    refine mjT_ifF (nI_ge (by omega) (by omega)) ?_
    refine mjT_go 4 (pc' := 70) (L' := [some (.ref 0), some (.int (nI pl)), some (.int (nI n)), some (.int (nI wh)), some (.int (tI (gtB (mstN S.o G pl) u).1)), some (.int (tI (gtB (mstN S.o G pl) u).2)), some (.int (nI u)), some (.int (nI 0)), some (.int (nI 0))]) (st' := []) (w1 := (KM, I3, J, GM)) rfl ?_
    refine mj_loop (fun k L w => L = [some (.ref 0), some (.int (nI pl)), some (.int (nI n)), some (.int (nI wh)), some (.int (tI (gtB (mstN S.o G pl) u).1)), some (.int (tI (gtB (mstN S.o G pl) u).2)), some (.int (nI u)), some (.int (nI (wrsN G (S.o.own u pl) pl k))), some (.int (nI k))] ∧ w = (KM, I3, J, GM)) S.o.n (k0 := 0) (Nat.zero_le _) ?_ ?_ ?_
    · exact ⟨rfl, rfl⟩
    · rintro q _ _ hq ⟨rfl, rfl⟩ hcq
      have hwq := wrs_le G (S.o.own u pl) pl q
      have hgw := hVg.wr q (by omega) pl (by omega)
      refine mjT_go 4 (pc' := 79) (L' := [some (.ref 0), some (.int (nI pl)), some (.int (nI n)), some (.int (nI wh)), some (.int (tI (gtB (mstN S.o G pl) u).1)), some (.int (tI (gtB (mstN S.o G pl) u).2)), some (.int (nI u)), some (.int (nI (wrsN G (S.o.own u pl) pl q))), some (.int (nI q))]) (st' := [.int (nI 147), .ref 1, .int (nI q)]) (w1 := (KM, I3, J, GM)) rfl ?_
      refine mjT_ial (v := nI S.o.n) 147 1840 rfl (pc' := 80) rfl rfl rfl (by omega) (by omega) (mo_at hoL.n rfl (by omega)) ?_
      refine mjT_go 1 (pc' := if nI S.o.n ≤ nI q then 138 else 83) (L' := [some (.ref 0), some (.int (nI pl)), some (.int (nI n)), some (.int (nI wh)), some (.int (tI (gtB (mstN S.o G pl) u).1)), some (.int (tI (gtB (mstN S.o G pl) u).2)), some (.int (nI u)), some (.int (nI (wrsN G (S.o.own u pl) pl q))), some (.int (nI q))]) (st' := []) (w1 := (KM, I3, J, GM)) rfl ?_
      refine mjT_ifF (nI_ge (by omega) (by omega)) ?_
      refine mjT_go 12 (pc' := 103) (L' := [some (.ref 0), some (.int (nI pl)), some (.int (nI n)), some (.int (nI wh)), some (.int (tI (gtB (mstN S.o G pl) u).1)), some (.int (tI (gtB (mstN S.o G pl) u).2)), some (.int (nI u)), some (.int (nI (wrsN G (S.o.own u pl) pl q))), some (.int (nI q))]) (st' := [.int ((((nI 1680) + ((nI 21) * (nI q))) + (nI 9)) + (nI pl)), .ref 1, .int (nI (wrsN G (S.o.own u pl) pl q))]) (w1 := (KM, I3, J, GM)) rfl ?_
      refine mjT_ial (v := nI (G.wr q pl)) (((1680 + (21 * q)) + 9) + pl) 1840 rfl (pc' := 104) rfl rfl (by simp only [nI_add, pk_mul]) (by omega) (by omega) (mo_at (show I3 1 (1680 + 21 * q + 9 + pl) = nI (G.wr q pl) from (hO3.wr q (by omega) pl (by omega))) (by omega) (by omega)) ?_
      refine mjT_go 9 (pc' := 117) (L' := [some (.ref 0), some (.int (nI pl)), some (.int (nI n)), some (.int (nI wh)), some (.int (tI (gtB (mstN S.o G pl) u).1)), some (.int (tI (gtB (mstN S.o G pl) u).2)), some (.int (nI u)), some (.int (nI (wrsN G (S.o.own u pl) pl q))), some (.int (nI q))]) (st' := [.int ((((nI 21) * (nI u)) + (nI 3)) + (nI pl)), .ref 1, .int (nI (G.wr q pl)), .int (nI (wrsN G (S.o.own u pl) pl q))]) (w1 := (KM, I3, J, GM)) rfl ?_
      refine mjT_ial (v := nI (S.o.own u pl)) (((21 * u) + 3) + pl) 1840 rfl (pc' := 118) rfl rfl (by simp only [nI_add, pk_mul]) (by omega) (by omega) (mo_at (show I3 1 (21 * u + 3 + pl) = nI (S.o.own u pl) from (mo_at (hoL.own u hk pl (by omega)) rfl (by omega))) (by omega) (by omega)) ?_
      refine mjT_go 1 (pc' := if ¬ nI (G.wr q pl) = nI (S.o.own u pl) then 125 else 121) (L' := [some (.ref 0), some (.int (nI pl)), some (.int (nI n)), some (.int (nI wh)), some (.int (tI (gtB (mstN S.o G pl) u).1)), some (.int (tI (gtB (mstN S.o G pl) u).2)), some (.int (nI u)), some (.int (nI (wrsN G (S.o.own u pl) pl q))), some (.int (nI q))]) (st' := [.int (nI (wrsN G (S.o.own u pl) pl q))]) (w1 := (KM, I3, J, GM)) rfl ?_
      refine mjT_if_ne (u := G.wr q pl) (v := S.o.own u pl) rfl rfl (by omega) (by omega) (fun h5 => ?_) (fun h5 => ?_)
      · refine mjT_go 1 (pc' := 126) (L' := [some (.ref 0), some (.int (nI pl)), some (.int (nI n)), some (.int (nI wh)), some (.int (tI (gtB (mstN S.o G pl) u).1)), some (.int (tI (gtB (mstN S.o G pl) u).2)), some (.int (nI u)), some (.int (nI (wrsN G (S.o.own u pl) pl q))), some (.int (nI q))]) (st' := [.int (nI 0), .int (nI (wrsN G (S.o.own u pl) pl q))]) (w1 := (KM, I3, J, GM)) rfl ?_
        refine mjT_callE (as := [.int (nI 0)]) (rest := [.int (nI (wrsN G (S.o.own u pl) pl q))]) (r1 := some (.int (nI 0))) rfl rfl rfl rfl rfl ⟨rfl, rfl⟩ (m_one (by omega) _) ?_
        refine mjT_go 4 (pc' := 70) (L' := [some (.ref 0), some (.int (nI pl)), some (.int (nI n)), some (.int (nI wh)), some (.int (tI (gtB (mstN S.o G pl) u).1)), some (.int (tI (gtB (mstN S.o G pl) u).2)), some (.int (nI u)), some (.int ((nI (wrsN G (S.o.own u pl) pl q)) + (nI 0))), some (.int ((nI q) + (nI 1)))]) (st' := []) (w1 := (KM, I3, J, GM)) rfl ?_
        rw [nI_add, nI_add, show wrsN G (S.o.own u pl) pl q + 0 = wrsN G (S.o.own u pl) pl (q + 1) by show _ = _ + eqB _ _; unfold eqB; rw [if_neg h5]]
        exact hcq _ _ ⟨rfl, rfl⟩
      · refine mjT_go 2 (pc' := 126) (L' := [some (.ref 0), some (.int (nI pl)), some (.int (nI n)), some (.int (nI wh)), some (.int (tI (gtB (mstN S.o G pl) u).1)), some (.int (tI (gtB (mstN S.o G pl) u).2)), some (.int (nI u)), some (.int (nI (wrsN G (S.o.own u pl) pl q))), some (.int (nI q))]) (st' := [.int (nI 1), .int (nI (wrsN G (S.o.own u pl) pl q))]) (w1 := (KM, I3, J, GM)) rfl ?_
        refine mjT_callE (as := [.int (nI 1)]) (rest := [.int (nI (wrsN G (S.o.own u pl) pl q))]) (r1 := some (.int (nI 1))) rfl rfl rfl rfl rfl ⟨rfl, rfl⟩ (m_one (by omega) _) ?_
        refine mjT_go 4 (pc' := 70) (L' := [some (.ref 0), some (.int (nI pl)), some (.int (nI n)), some (.int (nI wh)), some (.int (tI (gtB (mstN S.o G pl) u).1)), some (.int (tI (gtB (mstN S.o G pl) u).2)), some (.int (nI u)), some (.int ((nI (wrsN G (S.o.own u pl) pl q)) + (nI 1))), some (.int ((nI q) + (nI 1)))]) (st' := []) (w1 := (KM, I3, J, GM)) rfl ?_
        rw [nI_add, nI_add, show wrsN G (S.o.own u pl) pl q + 1 = wrsN G (S.o.own u pl) pl (q + 1) by show _ = _ + eqB _ _; unfold eqB; rw [if_pos h5]]
        exact hcq _ _ ⟨rfl, rfl⟩
    · rintro _ _ ⟨rfl, rfl⟩
      refine mjT_go 4 (pc' := 79) (L' := [some (.ref 0), some (.int (nI pl)), some (.int (nI n)), some (.int (nI wh)), some (.int (tI (gtB (mstN S.o G pl) u).1)), some (.int (tI (gtB (mstN S.o G pl) u).2)), some (.int (nI u)), some (.int (nI (wrsN G (S.o.own u pl) pl S.o.n))), some (.int (nI S.o.n))]) (st' := [.int (nI 147), .ref 1, .int (nI S.o.n)]) (w1 := (KM, I3, J, GM)) rfl ?_
      refine mjT_ial (v := nI S.o.n) 147 1840 rfl (pc' := 80) rfl rfl rfl (by omega) (by omega) (mo_at hoL.n rfl (by omega)) ?_
      refine mjT_go 1 (pc' := if nI S.o.n ≤ nI S.o.n then 138 else 83) (L' := [some (.ref 0), some (.int (nI pl)), some (.int (nI n)), some (.int (nI wh)), some (.int (tI (gtB (mstN S.o G pl) u).1)), some (.int (tI (gtB (mstN S.o G pl) u).2)), some (.int (nI u)), some (.int (nI (wrsN G (S.o.own u pl) pl S.o.n))), some (.int (nI S.o.n))]) (st' := []) (w1 := (KM, I3, J, GM)) rfl ?_
      refine mjT_ifT (Int32.le_refl _) ?_
      refine mjT_go 3 (pc' := if nI (wrsN G (S.o.own u pl) pl S.o.n) ≤ tI (gtB (mstN S.o G pl) u).2 then 153 else 145) (L' := [some (.ref 0), some (.int (nI pl)), some (.int (nI n)), some (.int (nI wh)), some (.int (tI (gtB (mstN S.o G pl) u).1)), some (.int (tI (gtB (mstN S.o G pl) u).2)), some (.int (nI u)), some (.int (nI (wrsN G (S.o.own u pl) pl S.o.n))), some (.int (nI S.o.n))]) (st' := []) (w1 := (KM, I3, J, GM)) rfl ?_
      refine mjT_if (fun h4 => ?_) (fun h4 => ?_)
      · rw [tI_le (by omega) (by omega)] at h4
        refine mjT_go 2 (pc' := 51) (L' := [some (.ref 0), some (.int (nI pl)), some (.int (nI n)), some (.int (nI wh)), some (.int (tI (gtB (mstN S.o G pl) u).1)), some (.int (tI (gtB (mstN S.o G pl) u).2)), some (.int ((nI u) + (nI 1))), some (.int (nI (wrsN G (S.o.own u pl) pl S.o.n))), some (.int (nI S.o.n))]) (st' := []) (w1 := (KM, I3, J, GM)) rfl ?_
        rw [nI_add, ← show gtB (mstN S.o G pl) (u + 1) = gtB (mstN S.o G pl) u from gtB_f h4]
        exact hc _ _ ⟨_, _, rfl, rfl⟩
      · rw [tI_le (by omega) (by omega), Decidable.not_not] at h4
        refine mjT_go 6 (pc' := 51) (L' := [some (.ref 0), some (.int (nI pl)), some (.int (nI n)), some (.int (nI wh)), some (.int (nI u)), some (.int (nI (wrsN G (S.o.own u pl) pl S.o.n))), some (.int ((nI u) + (nI 1))), some (.int (nI (wrsN G (S.o.own u pl) pl S.o.n))), some (.int (nI S.o.n))]) (st' := []) (w1 := (KM, I3, J, GM)) rfl ?_
        rw [nI_add]
        have e : gtB (mstN S.o G pl) (u + 1) = (u + 1, mstN S.o G pl u) := gtB_t h4
        exact hc _ _ ⟨_, _, by rw [e]; rfl, rfl⟩
  · rintro _ _ ⟨d, e, rfl, rfl⟩
    refine mjT_go 4 (pc' := 60) (L' := [some (.ref 0), some (.int (nI pl)), some (.int (nI n)), some (.int (nI wh)), some (.int (tI (gtB (mstN S.o G pl) S.o.n).1)), some (.int (tI (gtB (mstN S.o G pl) S.o.n).2)), some (.int (nI S.o.n)), d, e]) (st' := [.int (nI 147), .ref 1, .int (nI S.o.n)]) (w1 := (KM, I3, J, GM)) rfl ?_
    refine mjT_ial (v := nI S.o.n) 147 1840 rfl (pc' := 61) rfl rfl rfl (by omega) (by omega) (mo_at hoL.n rfl (by omega)) ?_
    refine mjT_go 1 (pc' := if nI S.o.n ≤ nI S.o.n then 159 else 64) (L' := [some (.ref 0), some (.int (nI pl)), some (.int (nI n)), some (.int (nI wh)), some (.int (tI (gtB (mstN S.o G pl) S.o.n).1)), some (.int (tI (gtB (mstN S.o G pl) S.o.n).2)), some (.int (nI S.o.n)), d, e]) (st' := []) (w1 := (KM, I3, J, GM)) rfl ?_
    refine mjT_ifT (Int32.le_refl _) ?_
    refine mjT_go 2 (pc' := if ¬ nI wh = 0 then 168 else 163) (L' := [some (.ref 0), some (.int (nI pl)), some (.int (nI n)), some (.int (nI wh)), some (.int (tI (gtB (mstN S.o G pl) S.o.n).1)), some (.int (tI (gtB (mstN S.o G pl) S.o.n).2)), some (.int (nI S.o.n)), d, e]) (st' := []) (w1 := (KM, I3, J, GM)) rfl ?_
    refine mjT_if_ne (u := wh) (v := 0) rfl nI_0.symm (by omega) (by omega) (fun h4 => ?_) (fun h4 => ?_)
    · refine mjT_go 1 (pc' := 170) (L' := [some (.ref 0), some (.int (nI pl)), some (.int (nI n)), some (.int (nI wh)), some (.int (tI (gtB (mstN S.o G pl) S.o.n).1)), some (.int (tI (gtB (mstN S.o G pl) S.o.n).2)), some (.int (nI S.o.n)), d, e]) (st' := [.int (tI (gtB (mstN S.o G pl) S.o.n).2)]) (w1 := (KM, I3, J, GM)) rfl ?_
      refine mjT_ret rfl rfl rfl ?_
      exact ⟨by rw [if_neg h4], _, _, rfl, hM3⟩
    · refine mjT_go 2 (pc' := 170) (L' := [some (.ref 0), some (.int (nI pl)), some (.int (nI n)), some (.int (nI wh)), some (.int (tI (gtB (mstN S.o G pl) S.o.n).1)), some (.int (tI (gtB (mstN S.o G pl) S.o.n).2)), some (.int (nI S.o.n)), d, e]) (st' := [.int (tI (gtB (mstN S.o G pl) S.o.n).1)]) (w1 := (KM, I3, J, GM)) rfl ?_
      refine mjT_ret rfl rfl rfl ?_
      exact ⟨by rw [if_pos h4], _, _, rfl, hM3⟩
theorem sim_most {x y z : Int32} : SimO 94 190 [.int x, .int y, .int z] := fun S _ _ _ _ hV hC hM => ⟨S, _, hV, cc_most hV hC, mm_most hV hM⟩
end OP6
