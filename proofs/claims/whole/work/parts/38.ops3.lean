/-! calls that set one number of the office -/
def wetO (O : Off) (v : Nat) : Off := mkO O.n O.day v O.dry O.las O.draw O.kind O.str O.chair O.own O.wr O.till
def drawO (O : Off) (v : Nat) : Off := mkO O.n O.day O.wet O.dry O.las v O.kind O.str O.chair O.own O.wr O.till
def setO (S : Sta) (O : Off) : Sta := mkS O S.kn S.pa S.im S.io S.ikn S.ipa S.tl S.tp S.sz S.ln S.it
theorem vs_o {S : Sta} (hV : VS S) {O : Off} (hO : VO O) (hd : O.day ≤ 9999) (hn : O.n = S.o.n) : VS (setO S O) :=
  ⟨hO, hd, hV.kn, fun j hj => by show VH O.n (S.pa j); rw [hn]; exact hV.pa j hj, hV.im, hV.io, hV.tl, hV.tp, hV.sz, hV.ln⟩
theorem v_wet {O : Off} (hV : VO O) {v : Nat} (h : v < 2 ^ 30) : VO (wetO O v) := ⟨hV.n, hV.day, h, hV.dry, hV.las, hV.draw, hV.kind, hV.str, hV.chair, hV.inj, hV.own, hV.wr, hV.till⟩
theorem v_draw {O : Off} (hV : VO O) {v : Nat} (h : v < 2 ^ 31) : VO (drawO O v) := ⟨hV.n, hV.day, hV.wet, hV.dry, hV.las, h, hV.kind, hV.str, hV.chair, hV.inj, hV.own, hV.wr, hV.till⟩
theorem pc_cong {I I' : Nat → Nat → Int32} {h b kn : Nat} {pa : Nat → Off} (hp : PC I h b kn pa) (h0 : I' h = I h) (hf : ∀ k, k < 24 → I' (b + k) = I (b + k)) : PC I' h b kn pa := by
  obtain ⟨nx, h1, h2, h3, h4⟩ := hp
  refine ⟨nx, h1, by rw [h0]; exact h2, by rw [h0]; exact h3, fun j hj => ?_⟩
  have hm : (nx + 8 - kn + j) % 8 < 8 := Nat.mod_lt _ (by omega)
  exact ho_cong (h4 j hj) (hf _ (by omega)) (hf (3 * ((nx + 8 - kn + j) % 8) + 1) (by omega)) (hf (3 * ((nx + 8 - kn + j) % 8) + 2) (by omega))
theorem cw_o {I I' : Nat → Nat → Int32} {J : Nat → Nat → Int64} {S : Sta} {O : Off} (h : CW I J S) (hO : RO I' 1 O TT) (hf : ∀ h, (h < 1 ∨ 11 < h) → I' h = I h) : CW I' J (setO S O) := by
  refine ⟨hO, pc_cong h.past (hf _ (by omega)) (fun k hk => hf _ (by omega)), by rw [hf 0 (by omega)]; exact h.im, fun hi => ⟨ro_cong (h.io hi).1 (fun k hk => hf _ (by omega)), pc_cong (h.io hi).2 (hf _ (by omega)) (fun k hk => hf _ (by omega))⟩, ?_, ?_, ?_, ?_, h.it⟩
  · rw [hf _ (by omega)]; exact h.tl
  · rw [hf _ (by omega)]; exact h.tp
  · rw [hf _ (by omega)]; exact h.sz
  · rw [hf _ (by omega)]; exact h.ln
theorem pm_cong {I I' : Nat → Nat → Int32} {b kn n : Nat} {pa : Nat → Off} (hp : PM I b kn pa) (hkn : kn ≤ 8) (hn : n ≤ 7) (hv : ∀ j, j < kn → VH n (pa j)) (hf : ∀ k, b + 153 ≤ k → k < b + 840 → I' 1 k = I 1 k) : PM I' b kn pa := by
  obtain ⟨h1, h2⟩ := hp
  refine ⟨(hf _ (by omega) (by omega)).trans h1, fun j hj => ?_⟩
  have e := (hv j hj).n
  exact ⟨(hf _ (by omega) (by omega)).trans (h2 j hj).day, fun p hp k hk => (hf _ (by omega) (by omega)).trans ((h2 j hj).wr p hp k hk), fun p hp k hk => (hf _ (by omega) (by omega)).trans ((h2 j hj).till p hp k hk)⟩
theorem mw_o {I I' : Nat → Nat → Int32} {J : Nat → Nat → Int64} {S : Sta} {O : Off} (h : MW I J S) (hV : VS S) (hO : MO I' 0 O) (hf : ∀ h, h ≠ 1 → h ≠ 4 → I' h = I h) (h1 : ∀ k, 153 ≤ k → I' 1 k = I 1 k) : MW I' J (setO S O) := by
  refine ⟨hO, pm_cong h.past hV.kn hV.o.n hV.pa (fun k a b => h1 k (by omega)), by rw [hf 0 (by omega) (by omega)]; exact h.im, fun hi => ?_, ?_, ?_, ?_, ?_, h.it⟩
  · obtain ⟨v1, v2, v3, v4⟩ := hV.io hi
    exact ⟨mo_cong (h.io hi).1 v1.n (fun k a b => h1 k (by omega)), pm_cong (h.io hi).2 v3 v1.n v4 (fun k a b => h1 k (by omega))⟩
  · rw [hf _ (by omega) (by omega)]; exact h.tl
  · rw [hf _ (by omega) (by omega)]; exact h.tp
  · rw [hf _ (by omega) (by omega)]; exact h.ln
  · rw [hf _ (by omega) (by omega)]; exact h.sz
theorem ro_wet {I I' : Nat → Nat → Int32} {o : Nat} {O : Off} {P : Nat → Prop} {v : Nat} (hO : RO I o O P) (e : I' = mj_row I o (va_up (I o) 2 (nI v))) : RO I' o (wetO O v) P := by
  refine ⟨(st_ne e (by omega)).trans hO.n, (st_ne e (by omega)).trans hO.dry, st_at e, (st_ne e (by omega)).trans hO.las, (st_ne e (by omega)).trans hO.draw, ?_, ?_, ?_, ?_, ?_, ?_, ?_⟩
  · rw [st_h e (by omega)]; exact hO.day
  · rw [st_h e (by omega)]; exact hO.kind
  · rw [st_h e (by omega)]; exact hO.str
  · rw [st_h e (by omega)]; exact hO.own
  · intro c hc; rw [st_h e (by omega)]; exact (hO.sit c hc).trans (congrArg sI (sitL_ch (O := O) (O' := wetO O v) rfl c O.n))
  · rw [st_h e (by omega)]; exact hO.wr
  · rw [st_h e (by omega)]; exact hO.till
theorem ro_draw {I I' : Nat → Nat → Int32} {o : Nat} {O : Off} {P : Nat → Prop} {v : Nat} (hO : RO I o O P) (e : I' = mj_row I o (va_up (I o) 4 (nI v))) : RO I' o (drawO O v) P := by
  refine ⟨(st_ne e (by omega)).trans hO.n, (st_ne e (by omega)).trans hO.dry, (st_ne e (by omega)).trans hO.wet, (st_ne e (by omega)).trans hO.las, st_at e, ?_, ?_, ?_, ?_, ?_, ?_, ?_⟩
  · rw [st_h e (by omega)]; exact hO.day
  · rw [st_h e (by omega)]; exact hO.kind
  · rw [st_h e (by omega)]; exact hO.str
  · rw [st_h e (by omega)]; exact hO.own
  · intro c hc; rw [st_h e (by omega)]; exact (hO.sit c hc).trans (congrArg sI (sitL_ch (O := O) (O' := drawO O v) rfl c O.n))
  · rw [st_h e (by omega)]; exact hO.wr
  · rw [st_h e (by omega)]; exact hO.till
theorem mo_wet {I I' : Nat → Nat → Int32} {x : Nat} {O : Off} {i v : Nat} (e : I' = mj_row I 1 (va_up (I 1) i (nI v))) (hi : i = x + 149) (hO : MO I x O) (hn : O.n ≤ 7) : MO I' x (wetO O v) := by
  subst hi
  exact ⟨(st_ne e (by omega)).trans hO.n, (st_ne e (by omega)).trans hO.day, st_at e, (st_ne e (by omega)).trans hO.dry, (st_ne e (by omega)).trans hO.las, (st_ne e (by omega)).trans hO.draw,
   fun p (hp : p < O.n) => (st_ne e (by omega)).trans (hO.kind p hp), fun p (hp : p < O.n) => (st_ne e (by omega)).trans (hO.str p hp), fun p (hp : p < O.n) => (st_ne e (by omega)).trans (hO.chair p hp),
   fun p (hp : p < O.n) k hk => (st_ne e (by omega)).trans (hO.own p hp k hk), fun p (hp : p < O.n) k hk => (st_ne e (by omega)).trans (hO.wr p hp k hk), fun p (hp : p < O.n) k hk => (st_ne e (by omega)).trans (hO.till p hp k hk)⟩
theorem mo_dry {I I' : Nat → Nat → Int32} {x : Nat} {O : Off} {i v : Nat} (e : I' = mj_row I 1 (va_up (I 1) i (nI v))) (hi : i = x + 150) (hO : MO I x O) (hn : O.n ≤ 7) : MO I' x (dryO O v) := by
  subst hi
  exact ⟨(st_ne e (by omega)).trans hO.n, (st_ne e (by omega)).trans hO.day, (st_ne e (by omega)).trans hO.wet, st_at e, (st_ne e (by omega)).trans hO.las, (st_ne e (by omega)).trans hO.draw,
   fun p (hp : p < O.n) => (st_ne e (by omega)).trans (hO.kind p hp), fun p (hp : p < O.n) => (st_ne e (by omega)).trans (hO.str p hp), fun p (hp : p < O.n) => (st_ne e (by omega)).trans (hO.chair p hp),
   fun p (hp : p < O.n) k hk => (st_ne e (by omega)).trans (hO.own p hp k hk), fun p (hp : p < O.n) k hk => (st_ne e (by omega)).trans (hO.wr p hp k hk), fun p (hp : p < O.n) k hk => (st_ne e (by omega)).trans (hO.till p hp k hk)⟩
theorem mo_las {I I' : Nat → Nat → Int32} {x : Nat} {O : Off} {i v : Nat} (e : I' = mj_row I 1 (va_up (I 1) i (nI v))) (hi : i = x + 151) (hO : MO I x O) (hn : O.n ≤ 7) : MO I' x (lasO O v) := by
  subst hi
  exact ⟨(st_ne e (by omega)).trans hO.n, (st_ne e (by omega)).trans hO.day, (st_ne e (by omega)).trans hO.wet, (st_ne e (by omega)).trans hO.dry, st_at e, (st_ne e (by omega)).trans hO.draw,
   fun p (hp : p < O.n) => (st_ne e (by omega)).trans (hO.kind p hp), fun p (hp : p < O.n) => (st_ne e (by omega)).trans (hO.str p hp), fun p (hp : p < O.n) => (st_ne e (by omega)).trans (hO.chair p hp),
   fun p (hp : p < O.n) k hk => (st_ne e (by omega)).trans (hO.own p hp k hk), fun p (hp : p < O.n) k hk => (st_ne e (by omega)).trans (hO.wr p hp k hk), fun p (hp : p < O.n) k hk => (st_ne e (by omega)).trans (hO.till p hp k hk)⟩
theorem mo_draw {I I' : Nat → Nat → Int32} {x : Nat} {O : Off} {i v : Nat} (e : I' = mj_row I 1 (va_up (I 1) i (nI v))) (hi : i = x + 152) (hO : MO I x O) (hn : O.n ≤ 7) : MO I' x (drawO O v) := by
  subst hi
  exact ⟨(st_ne e (by omega)).trans hO.n, (st_ne e (by omega)).trans hO.day, (st_ne e (by omega)).trans hO.wet, (st_ne e (by omega)).trans hO.dry, (st_ne e (by omega)).trans hO.las, st_at e,
   fun p (hp : p < O.n) => (st_ne e (by omega)).trans (hO.kind p hp), fun p (hp : p < O.n) => (st_ne e (by omega)).trans (hO.str p hp), fun p (hp : p < O.n) => (st_ne e (by omega)).trans (hO.chair p hp),
   fun p (hp : p < O.n) k hk => (st_ne e (by omega)).trans (hO.own p hp k hk), fun p (hp : p < O.n) k hk => (st_ne e (by omega)).trans (hO.wr p hp k hk), fun p (hp : p < O.n) k hk => (st_ne e (by omega)).trans (hO.till p hp k hk)⟩
section OP3
variable {I : Nat → Nat → Int32} {J : Nat → Nat → Int64} {S : Sta} {o : Nat} {O : Off} {P : Nat → Prop}
theorem m_become {a v : Nat} {x : Int32} (ha : a < 1840) (h : I 1 a = nI v) : mj_E 150 [.ref 0, .int (nI a), .int x] (KM, I, J, GM) (fun w' r => r = some (.int (nI v)) ∧ ∃ I', w' = (KM, I', J, GM) ∧ I' = mj_row I 1 (va_up (I 1) a x)) := by
  refine mjT_go 3 (pc' := 5) (L' := [some (.ref 0), some (.int (nI a)), some (.int x), none]) (st' := [.int (nI a), .ref 1]) (w1 := (KM, I, J, GM)) rfl ?_
  refine mjT_ial (v := nI v) a 1840 rfl (pc' := 6) rfl rfl rfl (by omega) (by omega) (show I 1 a = nI v from h) ?_
  refine mjT_go 5 (pc' := 13) (L' := [some (.ref 0), some (.int (nI a)), some (.int x), some (.int (nI v))]) (st' := [.int x, .int (nI a), .ref 1]) (w1 := (KM, I, J, GM)) rfl ?_
  obtain ⟨V1, eV1⟩ : ∃ z, z = mj_row I 1 (va_up (I 1) a x) := ⟨_, rfl⟩
  refine mjT_ias (I' := V1) a 1840 rfl (pc' := 14) rfl rfl rfl (by omega) (by omega) eV1.symm ?_
  refine mjT_go 1 (pc' := 15) (L' := [some (.ref 0), some (.int (nI a)), some (.int x), some (.int (nI v))]) (st' := [.int (nI v)]) (w1 := (KM, V1, J, GM)) rfl ?_
  refine mjT_ret rfl rfl rfl ?_
  exact ⟨rfl, _, rfl, eV1⟩
def aWeather (S : Sta) (x : Int32) : Int32 := if iR x 0 1073741823 = 1 then nI S.o.wet else -1
def sWeather (S : Sta) (x : Int32) : Sta := if iR x 0 1073741823 = 1 then setO S (wetO S.o (nn x)) else S
theorem cc_weather (hV : VS S) (hC : CW I J S) {x : Int32} : mj_E 78 [.ref 0, .int x] (KC, I, J, GC) (fun w' r => r = some (.int (aWeather S x)) ∧ ∃ I' J', w' = (KC, I', J', GC) ∧ CW I' J' (sWeather S x)) := by
  have hn := hV.o.n
  have hr01 := ir01 x 0 1073741823
  unfold aWeather sWeather
  refine mjT_go 3 (pc' := 4) (L' := [some (.ref 0), some (.int x), none]) (st' := [.int (nI 1073741823), .int (nI 0), .int x]) (w1 := (KC, I, J, GC)) rfl ?_
  refine mjT_callE (as := [.int x, .int (nI 0), .int (nI 1073741823)]) (rest := []) (r1 := some (.int (nI (iR x 0 1073741823)))) rfl rfl rfl rfl rfl ⟨rfl, rfl⟩ c_within ?_
  by_cases hok : iR x 0 1073741823 = 1
  · rw [if_pos hok, if_pos hok, hok]
    obtain ⟨k, hk1, hk2, rfl⟩ := iR_1 hok (by omega) (by omega)
    rw [nn_N (by omega)]
    refine mjT_go 1 (pc' := if ¬ nI 1 = 0 then 12 else 10) (L' := [some (.ref 0), some (.int (nI k)), none]) (st' := []) (w1 := (KC, I, J, GC)) rfl ?_
    refine mjT_ifT (by decide) ?_
    refine mjT_go 2 (pc' := 16) (L' := [some (.ref 0), some (.int (nI k)), none]) (st' := [.ref 1]) (w1 := (KC, I, J, GC)) rfl ?_
    refine mjT_gfi (v := nI S.o.wet) rfl (Or.inl rfl) (pc' := 19) rfl rfl (mo_at (hC.o.wet) (by omega) (by omega)) ?_
    refine mjT_go 4 (pc' := 25) (L' := [some (.ref 0), some (.int (nI k)), some (.int (nI S.o.wet))]) (st' := [.int (nI k), .ref 1]) (w1 := (KC, I, J, GC)) rfl ?_
    obtain ⟨V1, eV1⟩ : ∃ z, z = mj_row I 1 (va_up (I 1) 2 (nI k)) := ⟨_, rfl⟩
    refine mjT_pfi (I' := V1) rfl (pc' := 28) rfl rfl eV1.symm ?_
    refine mjT_go 1 (pc' := 29) (L' := [some (.ref 0), some (.int (nI k)), some (.int (nI S.o.wet))]) (st' := [.int (nI S.o.wet)]) (w1 := (KC, V1, J, GC)) rfl ?_
    refine mjT_ret rfl rfl rfl ?_
    exact ⟨rfl, _, _, rfl, cw_o hC (ro_wet hC.o eV1) (fun h hh => st_h eV1 (by omega))⟩
  · rw [if_neg hok, if_neg hok, show iR x 0 1073741823 = 0 by omega]
    refine mjT_go 1 (pc' := if ¬ nI 0 = 0 then 12 else 10) (L' := [some (.ref 0), some (.int x), none]) (st' := []) (w1 := (KC, I, J, GC)) rfl ?_
    refine mjT_ifF (fun q => q nI_0) ?_
    refine mjT_go 1 (pc' := 11) (L' := [some (.ref 0), some (.int x), none]) (st' := [.int (-1)]) (w1 := (KC, I, J, GC)) rfl ?_
    refine mjT_ret rfl rfl rfl ?_
    exact ⟨rfl, _, _, rfl, hC⟩
theorem mm_weather (hV : VS S) (hM : MW I J S) {x : Int32} : mj_E 151 [.ref 0, .int x] (KM, I, J, GM) (fun w' r => r = some (.int (aWeather S x)) ∧ ∃ I' J', w' = (KM, I', J', GM) ∧ MW I' J' (sWeather S x)) := by
  have hn := hV.o.n
  have hr01 := ir01 x 0 1073741823
  unfold aWeather sWeather
  refine mjT_go 4 (pc' := 6) (L' := [some (.ref 0), some (.int x)]) (st' := [.long (lN 1073741823), .long (lN 0), .long x.toInt64]) (w1 := (KM, I, J, GM)) rfl ?_
  refine mjT_callE (as := [.long x.toInt64, .long (lN 0), .long (lN 1073741823)]) (rest := []) (r1 := some (.int (nI (iR x 0 1073741823)))) rfl rfl rfl rfl rfl ⟨rfl, rfl⟩ (m_inR (by decide) (by decide)) ?_
  by_cases hok : iR x 0 1073741823 = 1
  · rw [if_pos hok, if_pos hok, hok]
    obtain ⟨k, hk1, hk2, rfl⟩ := iR_1 hok (by omega) (by omega)
    rw [nn_N (by omega)]
    refine mjT_go 1 (pc' := if nI 1 = 0 then 23 else 12) (L' := [some (.ref 0), some (.int (nI k))]) (st' := []) (w1 := (KM, I, J, GM)) rfl ?_
    refine mjT_ifF (by decide) ?_
    refine mjT_go 3 (pc' := 17) (L' := [some (.ref 0), some (.int (nI k))]) (st' := [.int (nI k), .int (nI 149), .ref 0]) (w1 := (KM, I, J, GM)) rfl ?_
    refine mjT_call (as := [.ref 0, .int (nI 149), .int (nI k)]) (rest := []) rfl rfl rfl rfl rfl ⟨rfl, rfl⟩ (m_become (by omega) (mo_at hM.o.wet rfl (by omega))) ?_
    rintro _ _ ⟨rfl, I2, rfl, e2⟩
    refine mjT_go 1 (pc' := 24) (L' := [some (.ref 0), some (.int (nI k))]) (st' := [.int (nI S.o.wet)]) (w1 := (KM, I2, J, GM)) rfl ?_
    refine mjT_ret rfl rfl rfl ?_
    exact ⟨rfl, _, _, rfl, mw_o hM hV (mo_wet e2 (by omega) hM.o hn) (fun h a _ => st_h e2 a) (fun k hk => st_ne e2 (by omega))⟩
  · rw [if_neg hok, if_neg hok, show iR x 0 1073741823 = 0 by omega]
    refine mjT_go 1 (pc' := if nI 0 = 0 then 23 else 12) (L' := [some (.ref 0), some (.int x)]) (st' := []) (w1 := (KM, I, J, GM)) rfl ?_
    refine mjT_ifT nI_0 ?_
    refine mjT_go 1 (pc' := 24) (L' := [some (.ref 0), some (.int x)]) (st' := [.int (-1)]) (w1 := (KM, I, J, GM)) rfl ?_
    refine mjT_ret rfl rfl rfl ?_
    exact ⟨rfl, _, _, rfl, hM⟩
theorem vs_weather (hV : VS S) {x : Int32} : VS (sWeather S x) := by
  unfold sWeather
  by_cases hok : iR x 0 1073741823 = 1
  · rw [if_pos hok]
    obtain ⟨k, hk1, hk2, rfl⟩ := iR_1 hok (by omega) (by omega)
    rw [nn_N (by omega)]
    exact vs_o hV (v_wet hV.o (by omega)) hV.day rfl
  · rw [if_neg hok]; exact hV
theorem sim_weather {x : Int32} : SimO 78 151 [.int x] := fun S _ _ _ _ hV hC hM => ⟨_, _, vs_weather hV, cc_weather hV hC, mm_weather hV hM⟩
def aLasting (S : Sta) (x : Int32) : Int32 := if iR x 1 30 = 1 then nI S.o.las else -1
def sLasting (S : Sta) (x : Int32) : Sta := if iR x 1 30 = 1 then setO S (lasO S.o (nn x)) else S
theorem cc_lasting (hV : VS S) (hC : CW I J S) {x : Int32} : mj_E 79 [.ref 0, .int x] (KC, I, J, GC) (fun w' r => r = some (.int (aLasting S x)) ∧ ∃ I' J', w' = (KC, I', J', GC) ∧ CW I' J' (sLasting S x)) := by
  have hn := hV.o.n
  have hr01 := ir01 x 1 30
  unfold aLasting sLasting
  refine mjT_go 3 (pc' := 4) (L' := [some (.ref 0), some (.int x), none]) (st' := [.int (nI 30), .int (nI 1), .int x]) (w1 := (KC, I, J, GC)) rfl ?_
  refine mjT_callE (as := [.int x, .int (nI 1), .int (nI 30)]) (rest := []) (r1 := some (.int (nI (iR x 1 30)))) rfl rfl rfl rfl rfl ⟨rfl, rfl⟩ c_within ?_
  by_cases hok : iR x 1 30 = 1
  · rw [if_pos hok, if_pos hok, hok]
    obtain ⟨k, hk1, hk2, rfl⟩ := iR_1 hok (by omega) (by omega)
    rw [nn_N (by omega)]
    refine mjT_go 1 (pc' := if ¬ nI 1 = 0 then 12 else 10) (L' := [some (.ref 0), some (.int (nI k)), none]) (st' := []) (w1 := (KC, I, J, GC)) rfl ?_
    refine mjT_ifT (by decide) ?_
    refine mjT_go 2 (pc' := 16) (L' := [some (.ref 0), some (.int (nI k)), none]) (st' := [.ref 1]) (w1 := (KC, I, J, GC)) rfl ?_
    refine mjT_gfi (v := nI S.o.las) rfl (Or.inl rfl) (pc' := 19) rfl rfl (mo_at (hC.o.las) (by omega) (by omega)) ?_
    refine mjT_go 4 (pc' := 25) (L' := [some (.ref 0), some (.int (nI k)), some (.int (nI S.o.las))]) (st' := [.int (nI k), .ref 1]) (w1 := (KC, I, J, GC)) rfl ?_
    obtain ⟨V1, eV1⟩ : ∃ z, z = mj_row I 1 (va_up (I 1) 3 (nI k)) := ⟨_, rfl⟩
    refine mjT_pfi (I' := V1) rfl (pc' := 28) rfl rfl eV1.symm ?_
    refine mjT_go 1 (pc' := 29) (L' := [some (.ref 0), some (.int (nI k)), some (.int (nI S.o.las))]) (st' := [.int (nI S.o.las)]) (w1 := (KC, V1, J, GC)) rfl ?_
    refine mjT_ret rfl rfl rfl ?_
    exact ⟨rfl, _, _, rfl, cw_o hC (ro_las hC.o eV1) (fun h hh => st_h eV1 (by omega))⟩
  · rw [if_neg hok, if_neg hok, show iR x 1 30 = 0 by omega]
    refine mjT_go 1 (pc' := if ¬ nI 0 = 0 then 12 else 10) (L' := [some (.ref 0), some (.int x), none]) (st' := []) (w1 := (KC, I, J, GC)) rfl ?_
    refine mjT_ifF (fun q => q nI_0) ?_
    refine mjT_go 1 (pc' := 11) (L' := [some (.ref 0), some (.int x), none]) (st' := [.int (-1)]) (w1 := (KC, I, J, GC)) rfl ?_
    refine mjT_ret rfl rfl rfl ?_
    exact ⟨rfl, _, _, rfl, hC⟩
theorem mm_lasting (hV : VS S) (hM : MW I J S) {x : Int32} : mj_E 152 [.ref 0, .int x] (KM, I, J, GM) (fun w' r => r = some (.int (aLasting S x)) ∧ ∃ I' J', w' = (KM, I', J', GM) ∧ MW I' J' (sLasting S x)) := by
  have hn := hV.o.n
  have hr01 := ir01 x 1 30
  unfold aLasting sLasting
  refine mjT_go 4 (pc' := 6) (L' := [some (.ref 0), some (.int x)]) (st' := [.long (lN 30), .long (lN 1), .long x.toInt64]) (w1 := (KM, I, J, GM)) rfl ?_
  refine mjT_callE (as := [.long x.toInt64, .long (lN 1), .long (lN 30)]) (rest := []) (r1 := some (.int (nI (iR x 1 30)))) rfl rfl rfl rfl rfl ⟨rfl, rfl⟩ (m_inR (by decide) (by decide)) ?_
  by_cases hok : iR x 1 30 = 1
  · rw [if_pos hok, if_pos hok, hok]
    obtain ⟨k, hk1, hk2, rfl⟩ := iR_1 hok (by omega) (by omega)
    rw [nn_N (by omega)]
    refine mjT_go 1 (pc' := if nI 1 = 0 then 23 else 12) (L' := [some (.ref 0), some (.int (nI k))]) (st' := []) (w1 := (KM, I, J, GM)) rfl ?_
    refine mjT_ifF (by decide) ?_
    refine mjT_go 3 (pc' := 17) (L' := [some (.ref 0), some (.int (nI k))]) (st' := [.int (nI k), .int (nI 151), .ref 0]) (w1 := (KM, I, J, GM)) rfl ?_
    refine mjT_call (as := [.ref 0, .int (nI 151), .int (nI k)]) (rest := []) rfl rfl rfl rfl rfl ⟨rfl, rfl⟩ (m_become (by omega) (mo_at hM.o.las rfl (by omega))) ?_
    rintro _ _ ⟨rfl, I2, rfl, e2⟩
    refine mjT_go 1 (pc' := 24) (L' := [some (.ref 0), some (.int (nI k))]) (st' := [.int (nI S.o.las)]) (w1 := (KM, I2, J, GM)) rfl ?_
    refine mjT_ret rfl rfl rfl ?_
    exact ⟨rfl, _, _, rfl, mw_o hM hV (mo_las e2 (by omega) hM.o hn) (fun h a _ => st_h e2 a) (fun k hk => st_ne e2 (by omega))⟩
  · rw [if_neg hok, if_neg hok, show iR x 1 30 = 0 by omega]
    refine mjT_go 1 (pc' := if nI 0 = 0 then 23 else 12) (L' := [some (.ref 0), some (.int x)]) (st' := []) (w1 := (KM, I, J, GM)) rfl ?_
    refine mjT_ifT nI_0 ?_
    refine mjT_go 1 (pc' := 24) (L' := [some (.ref 0), some (.int x)]) (st' := [.int (-1)]) (w1 := (KM, I, J, GM)) rfl ?_
    refine mjT_ret rfl rfl rfl ?_
    exact ⟨rfl, _, _, rfl, hM⟩
theorem vs_lasting (hV : VS S) {x : Int32} : VS (sLasting S x) := by
  unfold sLasting
  by_cases hok : iR x 1 30 = 1
  · rw [if_pos hok]
    obtain ⟨k, hk1, hk2, rfl⟩ := iR_1 hok (by omega) (by omega)
    rw [nn_N (by omega)]
    exact vs_o hV (v_las hV.o (by omega)) hV.day rfl
  · rw [if_neg hok]; exact hV
theorem sim_lasting {x : Int32} : SimO 79 152 [.int x] := fun S _ _ _ _ hV hC hM => ⟨_, _, vs_lasting hV, cc_lasting hV hC, mm_lasting hV hM⟩
end OP3
