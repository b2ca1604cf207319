/-! the whole state, and the two worlds that hold it -/
def Sta : Type := Off × (Nat × (Nat → Off)) × Nat × Off × (Nat × (Nat → Off)) × (Nat × (Nat → Nat)) × (Nat → Nat) × (Nat → Nat) × (Nat → Nat → Int64)
def Sta.o (S : Sta) : Off := S.1
def Sta.kn (S : Sta) : Nat := S.2.1.1
def Sta.pa (S : Sta) : Nat → Off := S.2.1.2
def Sta.im (S : Sta) : Nat := S.2.2.1
def Sta.io (S : Sta) : Off := S.2.2.2.1
def Sta.ikn (S : Sta) : Nat := S.2.2.2.2.1.1
def Sta.ipa (S : Sta) : Nat → Off := S.2.2.2.2.1.2
def Sta.tl (S : Sta) : Nat := S.2.2.2.2.2.1.1
def Sta.tp (S : Sta) : Nat → Nat := S.2.2.2.2.2.1.2
def Sta.sz (S : Sta) : Nat → Nat := S.2.2.2.2.2.2.1
def Sta.ln (S : Sta) : Nat → Nat := S.2.2.2.2.2.2.2.1
def Sta.it (S : Sta) : Nat → Nat → Int64 := S.2.2.2.2.2.2.2.2
def mkS (o : Off) (kn : Nat) (pa : Nat → Off) (im : Nat) (io : Off) (ikn : Nat) (ipa : Nat → Off) (tl : Nat) (tp : Nat → Nat) (sz ln : Nat → Nat) (it : Nat → Nat → Int64) : Sta := (o, (kn, pa), im, io, (ikn, ipa), (tl, tp), sz, ln, it)
abbrev VH (n : Nat) (O : Off) : Prop :=
  (O.n = n) ∧
  (O.day ≤ 9999) ∧
  (∀ p, p < n → dgo (O.wr p)) ∧
  (∀ p, p < n → ∀ k, k < 6 → O.till p k ≤ 30000)
theorem VH.n {n : Nat} {O : Off} (h : VH n O) : O.n = n := h.1
theorem VH.day {n : Nat} {O : Off} (h : VH n O) : O.day ≤ 9999 := h.2.1
theorem VH.wr {n : Nat} {O : Off} (h : VH n O) : ∀ p, p < n → dgo (O.wr p) := h.2.2.1
theorem VH.till {n : Nat} {O : Off} (h : VH n O) : ∀ p, p < n → ∀ k, k < 6 → O.till p k ≤ 30000 := h.2.2.2
abbrev VS (S : Sta) : Prop :=
  (VO S.o) ∧
  (S.o.day ≤ 9999) ∧
  (S.kn ≤ 8) ∧
  (∀ j, j < S.kn → VH S.o.n (S.pa j)) ∧
  (S.im < 2) ∧
  (S.im = 1 → VO S.io ∧ S.io.day ≤ 9999 ∧ S.ikn ≤ 8 ∧ ∀ j, j < S.ikn → VH S.io.n (S.ipa j)) ∧
  (S.tl ≤ 130) ∧
  (∀ j, j < S.tl → 32 ≤ S.tp j ∧ S.tp j ≤ 126) ∧
  (∀ s, s < 4 → S.sz s ≤ 25) ∧
  (∀ s, s < 4 → S.ln s < 4)
theorem VS.o {S : Sta} (h : VS S) : VO S.o := h.1
theorem VS.day {S : Sta} (h : VS S) : S.o.day ≤ 9999 := h.2.1
theorem VS.kn {S : Sta} (h : VS S) : S.kn ≤ 8 := h.2.2.1
theorem VS.pa {S : Sta} (h : VS S) : ∀ j, j < S.kn → VH S.o.n (S.pa j) := h.2.2.2.1
theorem VS.im {S : Sta} (h : VS S) : S.im < 2 := h.2.2.2.2.1
theorem VS.io {S : Sta} (h : VS S) : S.im = 1 → VO S.io ∧ S.io.day ≤ 9999 ∧ S.ikn ≤ 8 ∧ ∀ j, j < S.ikn → VH S.io.n (S.ipa j) := h.2.2.2.2.2.1
theorem VS.tl {S : Sta} (h : VS S) : S.tl ≤ 130 := h.2.2.2.2.2.2.1
theorem VS.tp {S : Sta} (h : VS S) : ∀ j, j < S.tl → 32 ≤ S.tp j ∧ S.tp j ≤ 126 := h.2.2.2.2.2.2.2.1
theorem VS.sz {S : Sta} (h : VS S) : ∀ s, s < 4 → S.sz s ≤ 25 := h.2.2.2.2.2.2.2.2.1
theorem VS.ln {S : Sta} (h : VS S) : ∀ s, s < 4 → S.ln s < 4 := h.2.2.2.2.2.2.2.2.2
abbrev TT : Nat → Prop := fun _ => True
/-- the past at h, its ring of hands from b on -/
abbrev PC (I : Nat → Nat → Int32) (h b kn : Nat) (pa : Nat → Off) : Prop := ∃ nx, nx < 8 ∧ I h 1 = nI nx ∧ I h 2 = nI kn ∧ ∀ j, j < kn → HO I (b + 3 * ((nx + 8 - kn + j) % 8)) (pa j) TT
abbrev MP (I : Nat → Nat → Int32) (b : Nat) (O : Off) : Prop :=
  (I 1 (b + 84) = nI O.day) ∧
  (∀ p, p < O.n → ∀ k, k < 6 → I 1 (b + 12 * p + k) = nI (O.wr p k)) ∧
  (∀ p, p < O.n → ∀ k, k < 6 → I 1 (b + 12 * p + 6 + k) = tI (O.till p k))
theorem MP.day {I : Nat → Nat → Int32} {b : Nat} {O : Off} (h : MP I b O) : I 1 (b + 84) = nI O.day := h.1
theorem MP.wr {I : Nat → Nat → Int32} {b : Nat} {O : Off} (h : MP I b O) : ∀ p, p < O.n → ∀ k, k < 6 → I 1 (b + 12 * p + k) = nI (O.wr p k) := h.2.1
theorem MP.till {I : Nat → Nat → Int32} {b : Nat} {O : Off} (h : MP I b O) : ∀ p, p < O.n → ∀ k, k < 6 → I 1 (b + 12 * p + 6 + k) = tI (O.till p k) := h.2.2
abbrev PM (I : Nat → Nat → Int32) (b kn : Nat) (pa : Nat → Off) : Prop := I 1 (b + 153) = nI kn ∧ ∀ j, j < kn → MP I (b + 160 + 85 * j) (pa j)
abbrev CW (I : Nat → Nat → Int32) (J : Nat → Nat → Int64) (S : Sta) : Prop :=
  (RO I 1 S.o TT) ∧
  (PC I 12 14 S.kn S.pa) ∧
  (I 0 4 = nI S.im) ∧
  (S.im = 1 → RO I 38 S.io TT ∧ PC I 49 51 S.ikn S.ipa) ∧
  (I 86 1 = nI S.tl) ∧
  (∀ j, j < S.tl → I 87 j = nI (S.tp j)) ∧
  (∀ s, s < 4 → I 90 s = sI (S.sz s)) ∧
  (∀ s, s < 4 → S.sz s ≠ 0 → I 89 s = nI (S.ln s)) ∧
  (∀ s, s < 4 → ∀ i, i < 24 → J (92 + s) i = S.it s i)
theorem CW.o {I : Nat → Nat → Int32} {J : Nat → Nat → Int64} {S : Sta} (h : CW I J S) : RO I 1 S.o TT := h.1
theorem CW.past {I : Nat → Nat → Int32} {J : Nat → Nat → Int64} {S : Sta} (h : CW I J S) : PC I 12 14 S.kn S.pa := h.2.1
theorem CW.im {I : Nat → Nat → Int32} {J : Nat → Nat → Int64} {S : Sta} (h : CW I J S) : I 0 4 = nI S.im := h.2.2.1
theorem CW.io {I : Nat → Nat → Int32} {J : Nat → Nat → Int64} {S : Sta} (h : CW I J S) : S.im = 1 → RO I 38 S.io TT ∧ PC I 49 51 S.ikn S.ipa := h.2.2.2.1
theorem CW.tl {I : Nat → Nat → Int32} {J : Nat → Nat → Int64} {S : Sta} (h : CW I J S) : I 86 1 = nI S.tl := h.2.2.2.2.1
theorem CW.tp {I : Nat → Nat → Int32} {J : Nat → Nat → Int64} {S : Sta} (h : CW I J S) : ∀ j, j < S.tl → I 87 j = nI (S.tp j) := h.2.2.2.2.2.1
theorem CW.sz {I : Nat → Nat → Int32} {J : Nat → Nat → Int64} {S : Sta} (h : CW I J S) : ∀ s, s < 4 → I 90 s = sI (S.sz s) := h.2.2.2.2.2.2.1
theorem CW.ln {I : Nat → Nat → Int32} {J : Nat → Nat → Int64} {S : Sta} (h : CW I J S) : ∀ s, s < 4 → S.sz s ≠ 0 → I 89 s = nI (S.ln s) := h.2.2.2.2.2.2.2.1
theorem CW.it {I : Nat → Nat → Int32} {J : Nat → Nat → Int64} {S : Sta} (h : CW I J S) : ∀ s, s < 4 → ∀ i, i < 24 → J (92 + s) i = S.it s i := h.2.2.2.2.2.2.2.2
abbrev MW (I : Nat → Nat → Int32) (J : Nat → Nat → Int64) (S : Sta) : Prop :=
  (MO I 0 S.o) ∧
  (PM I 0 S.kn S.pa) ∧
  (I 0 1 = nI S.im) ∧
  (S.im = 1 → MO I 840 S.io ∧ PM I 840 S.ikn S.ipa) ∧
  (I 0 3 = nI S.tl) ∧
  (∀ j, j < S.tl → I 2 j = nI (S.tp j)) ∧
  (∀ s, s < 4 → I 6 s = tI (if S.sz s = 0 then 0 else S.ln s + 1)) ∧
  (∀ s, s < 4 → S.sz s ≠ 0 → I 7 s = nI (S.sz s - 1)) ∧
  (∀ s, s < 4 → ∀ i, i < 24 → J 5 (24 * s + i) = S.it s i)
theorem MW.o {I : Nat → Nat → Int32} {J : Nat → Nat → Int64} {S : Sta} (h : MW I J S) : MO I 0 S.o := h.1
theorem MW.past {I : Nat → Nat → Int32} {J : Nat → Nat → Int64} {S : Sta} (h : MW I J S) : PM I 0 S.kn S.pa := h.2.1
theorem MW.im {I : Nat → Nat → Int32} {J : Nat → Nat → Int64} {S : Sta} (h : MW I J S) : I 0 1 = nI S.im := h.2.2.1
theorem MW.io {I : Nat → Nat → Int32} {J : Nat → Nat → Int64} {S : Sta} (h : MW I J S) : S.im = 1 → MO I 840 S.io ∧ PM I 840 S.ikn S.ipa := h.2.2.2.1
theorem MW.tl {I : Nat → Nat → Int32} {J : Nat → Nat → Int64} {S : Sta} (h : MW I J S) : I 0 3 = nI S.tl := h.2.2.2.2.1
theorem MW.tp {I : Nat → Nat → Int32} {J : Nat → Nat → Int64} {S : Sta} (h : MW I J S) : ∀ j, j < S.tl → I 2 j = nI (S.tp j) := h.2.2.2.2.2.1
theorem MW.ln {I : Nat → Nat → Int32} {J : Nat → Nat → Int64} {S : Sta} (h : MW I J S) : ∀ s, s < 4 → I 6 s = tI (if S.sz s = 0 then 0 else S.ln s + 1) := h.2.2.2.2.2.2.1
theorem MW.sz {I : Nat → Nat → Int32} {J : Nat → Nat → Int64} {S : Sta} (h : MW I J S) : ∀ s, s < 4 → S.sz s ≠ 0 → I 7 s = nI (S.sz s - 1) := h.2.2.2.2.2.2.2.1
theorem MW.it {I : Nat → Nat → Int32} {J : Nat → Nat → Int64} {S : Sta} (h : MW I J S) : ∀ s, s < 4 → ∀ i, i < 24 → J 5 (24 * s + i) = S.it s i := h.2.2.2.2.2.2.2.2
theorem cw_x {I I' : Nat → Nat → Int32} {J : Nat → Nat → Int64} {S : Sta} (h : CW I J S) (hk : S.kn ≤ 8) (hf : ∀ h, (h < 75 ∨ 85 < h) → h ≠ 96 → h ≠ 97 → h ≠ 0 → I' h = I h) (h0 : I' 0 4 = I 0 4) : CW I' J S := by
  have pc : ∀ a b kn pa, a ≠ 0 → a < 75 → b ≠ 0 → b + 23 < 75 → PC I a b kn pa → PC I' a b kn pa := by
    rintro a b kn pa ha0 ha hb0 hb ⟨nx, h1, h2, h3, h4⟩
    refine ⟨nx, h1, ?_, ?_, fun j hj => ?_⟩
    · rw [hf a (by omega) (by omega) (by omega) ha0]; exact h2
    · rw [hf a (by omega) (by omega) (by omega) ha0]; exact h3
    · have hm : (nx + 8 - kn + j) % 8 < 8 := Nat.mod_lt _ (by omega)
      exact ho_cong (h4 j hj) (hf _ (by omega) (by omega) (by omega) (by omega)) (hf _ (by omega) (by omega) (by omega) (by omega)) (hf _ (by omega) (by omega) (by omega) (by omega))
  refine ⟨ro_cong h.o (fun k hk => hf _ (by omega) (by omega) (by omega) (by omega)), pc _ _ _ _ (by omega) (by omega) (by omega) (by omega) h.past, h0.trans h.im, fun hi => ⟨ro_cong (h.io hi).1 (fun k hk => hf _ (by omega) (by omega) (by omega) (by omega)), pc _ _ _ _ (by omega) (by omega) (by omega) (by omega) (h.io hi).2⟩, ?_, ?_, ?_, ?_, h.it⟩
  · rw [hf _ (by omega) (by omega) (by omega) (by omega)]; exact h.tl
  · rw [hf _ (by omega) (by omega) (by omega) (by omega)]; exact h.tp
  · rw [hf _ (by omega) (by omega) (by omega) (by omega)]; exact h.sz
  · rw [hf _ (by omega) (by omega) (by omega) (by omega)]; exact h.ln
theorem cw_fx {I I' : Nat → Nat → Int32} {J : Nat → Nat → Int64} {S : Sta} (h : CW I J S) (hV : VS S) (hf : FrX I I') : CW I' J S :=
  cw_x h hV.kn (fun h hh _ _ _ => hf h hh) (by rw [hf 0 (by omega)])
theorem mw_ft {I I' : Nat → Nat → Int32} {J : Nat → Nat → Int64} {S : Sta} (h : MW I J S) (hV : VS S) (hf : FrT I I') : MW I' J S := by
  have hk := hV.kn
  have hn := hV.o.n
  have pm : ∀ b kn n pa, b ≤ 840 → kn ≤ 8 → n ≤ 7 → (∀ j, j < kn → VH n (pa j)) → PM I b kn pa → PM I' b kn pa := by
    rintro b kn n pa hb hkn hn hv ⟨h1, h2⟩
    refine ⟨(hf.2 _ (by omega)).trans h1, fun j hj => ?_⟩
    have e := (hv j hj).n
    exact ⟨(hf.2 _ (by omega)).trans (h2 j hj).day, fun p hp k hk => (hf.2 _ (by omega)).trans ((h2 j hj).wr p hp k hk), fun p hp k hk => (hf.2 _ (by omega)).trans ((h2 j hj).till p hp k hk)⟩
  refine ⟨mo_cong h.o hn (fun k _ hk => hf.2 k (by omega)), pm 0 _ _ _ (by omega) hk hn hV.pa h.past, ?_, fun hi => ?_, ?_, ?_, ?_, ?_, h.it⟩
  · rw [hf.1 _ (by omega) (by omega)]; exact h.im
  · obtain ⟨v1, v2, v3, v4⟩ := hV.io hi
    exact ⟨mo_cong (h.io hi).1 v1.n (fun k _ hk => hf.2 k (by omega)), pm 840 _ _ _ (by omega) v3 v1.n v4 (h.io hi).2⟩
  · rw [hf.1 _ (by omega) (by omega)]; exact h.tl
  · rw [hf.1 _ (by omega) (by omega)]; exact h.tp
  · rw [hf.1 _ (by omega) (by omega)]; exact h.ln
  · rw [hf.1 _ (by omega) (by omega)]; exact h.sz
/-- a call answers alike in both worlds, and they hold one state again -/
def SimO (cz mz : Nat) (args : List Value) : Prop := ∀ (S : Sta) (Ic Im : Nat → Nat → Int32) (Jc Jm : Nat → Nat → Int64), VS S → CW Ic Jc S → MW Im Jm S → ∃ (S' : Sta) (v : Int32), VS S' ∧ mj_E cz (.ref 0 :: args) (KC, Ic, Jc, GC) (fun w' r => r = some (.int v) ∧ ∃ I' J', w' = (KC, I', J', GC) ∧ CW I' J' S') ∧ mj_E mz (.ref 0 :: args) (KM, Im, Jm, GM) (fun w' r => r = some (.int v) ∧ ∃ I' J', w' = (KM, I', J', GM) ∧ MW I' J' S')
theorem ir01 (x : Int32) (a b : Nat) : iR x a b = 0 ∨ iR x a b = 1 := by have := iR_lt x a b; omega
theorem ip01 (x : Int32) (n : Nat) : iP x n = 0 ∨ iP x n = 1 := by have := iP_lt x n; omega
theorem iP_N {p n : Nat} (hp : p < n) (hn : n ≤ 7) : iP (nI p) n = 1 := by
  unfold iP; rw [if_pos ⟨nI_pos' (by omega), nI_lt hp (by omega)⟩]
section SW
variable {Ic Im : Nat → Nat → Int32} {Jc Jm : Nat → Nat → Int64} {S : Sta}
theorem m_writesNow {O : Off} {I : Nat → Nat → Int32} {J : Nat → Nat → Int64} (hn : O.n ≤ 7) (hO : MO I 1680 O) {p : Nat} (hp : p < O.n) : mj_Ev 178 [.ref 0, .int (nI p)] (KM, I, J, GM) (KM, I, J, GM) (some (.int (nI (fg (O.wr p) 6)))) := by
  refine mj_ev_of ?_
  refine mjT_go 7 (pc' := 11) (L' := [some (.ref 0), some (.int (nI p))]) (st' := [.int (nI 9), .int ((nI 1680) + ((nI 21) * (nI p))), .ref 0]) (w1 := (KM, I, J, GM)) rfl ?_
  refine mjT_go 1 (pc' := 12) (L' := [some (.ref 0), some (.int (nI p))]) (st' := [.int (((nI 1680) + ((nI 21) * (nI p))) + (nI 9)), .ref 0]) (w1 := (KM, I, J, GM)) rfl ?_
  simp only [nI_add, pk_mul]
  refine mjT_callE (as := [.ref 0, .int (nI (1680 + 21 * p + 9))]) (rest := []) (r1 := some (.int (nI (fg (O.wr p) 6)))) rfl rfl rfl rfl rfl ⟨rfl, rfl⟩ (m_written (by omega) (hO.wr p hp)) ?_
  refine mjT_ret rfl rfl rfl ?_
  exact ⟨rfl, rfl⟩
theorem m_ownOf {O : Off} {I : Nat → Nat → Int32} {J : Nat → Nat → Int64} (hn : O.n ≤ 7) (hO : MO I 0 O) {p : Nat} (hp : p < O.n) : mj_Ev 179 [.ref 0, .int (nI p)] (KM, I, J, GM) (KM, I, J, GM) (some (.int (nI (fg (O.own p) 6)))) := by
  refine mj_ev_of ?_
  refine mjT_go 5 (pc' := 6) (L' := [some (.ref 0), some (.int (nI p))]) (st' := [.int (nI 3), .int ((nI 21) * (nI p)), .ref 0]) (w1 := (KM, I, J, GM)) rfl ?_
  refine mjT_go 1 (pc' := 7) (L' := [some (.ref 0), some (.int (nI p))]) (st' := [.int (((nI 21) * (nI p)) + (nI 3)), .ref 0]) (w1 := (KM, I, J, GM)) rfl ?_
  simp only [nI_add, pk_mul]
  refine mjT_callE (as := [.ref 0, .int (nI (21 * p + 3))]) (rest := []) (r1 := some (.int (nI (fg (O.own p) 6)))) rfl rfl rfl rfl rfl ⟨rfl, rfl⟩ (m_written (by omega) (fun k hk => mo_at (hO.own p hp k hk) rfl (by omega))) ?_
  refine mjT_ret rfl rfl rfl ?_
  exact ⟨rfl, rfl⟩
end SW
