/-! the model's methods on one office -/
section M1
variable {I : Nat → Nat → Int32} {J : Nat → Nat → Int64} {x : Nat} {O : Off}
theorem m_written {at' : Nat} {d : Nat → Nat} (hb : at' + 6 ≤ 1840) (hd : ∀ k, k < 6 → I 1 (at' + k) = nI (d k)) : mj_Ev 138 [.ref 0, .int (nI at')] (KM, I, J, GM) (KM, I, J, GM) (some (.int (nI (fg d 6)))) := by
  refine mj_ev_of ?_
  refine mjT_go 4 (pc' := 4) (L' := [some (.ref 0), some (.int (nI at')), some (.int (nI 0)), some (.int (nI 0))]) (st' := []) (w1 := (KM, I, J, GM)) rfl ?_
  refine mj_loop (fun k L w => L = [some (.ref 0), some (.int (nI at')), some (.int (nI (fg d k))), some (.int (nI k))] ∧ w = (KM, I, J, GM)) 6 (k0 := 0) (Nat.zero_le _) ?_ ?_ ?_
  · exact ⟨rfl, rfl⟩
  · rintro k _ _ hk ⟨rfl, rfl⟩ hc
    refine mjT_go 3 (pc' := if nI 6 ≤ nI k then 30 else 10) (L' := [some (.ref 0), some (.int (nI at')), some (.int (nI (fg d k))), some (.int (nI k))]) (st' := []) (w1 := (KM, I, J, GM)) rfl ?_
    refine mjT_ifF (nI_ge (by omega) (by omega)) ?_
    refine mjT_go 8 (pc' := 21) (L' := [some (.ref 0), some (.int (nI at')), some (.int (nI (fg d k))), some (.int (nI k))]) (st' := [.int ((nI at') + (nI k)), .ref 1, .int ((nI 10) * (nI (fg d k)))]) (w1 := (KM, I, J, GM)) rfl ?_
    refine mjT_ial (v := nI (d k)) (at' + k) 1840 rfl (pc' := 22) rfl rfl (by simp only [nI_add, pk_mul]) (by omega) (by omega) (hd k hk) ?_
    refine mjT_go 4 (pc' := 4) (L' := [some (.ref 0), some (.int (nI at')), some (.int (((nI 10) * (nI (fg d k))) + (nI (d k)))), some (.int ((nI k) + (nI 1)))]) (st' := []) (w1 := (KM, I, J, GM)) rfl ?_
    refine hc _ _ ⟨?_, rfl⟩
    simp only [fg, nI_add, pk_mul]
  · rintro _ _ ⟨rfl, rfl⟩
    refine mjT_go 3 (pc' := if nI 6 ≤ nI 6 then 30 else 10) (L' := [some (.ref 0), some (.int (nI at')), some (.int (nI (fg d 6))), some (.int (nI 6))]) (st' := []) (w1 := (KM, I, J, GM)) rfl ?_
    refine mjT_ifT (Int32.le_refl _) ?_
    refine mjT_go 1 (pc' := 31) (L' := [some (.ref 0), some (.int (nI at')), some (.int (nI (fg d 6))), some (.int (nI 6))]) (st' := [.int (nI (fg d 6))]) (w1 := (KM, I, J, GM)) rfl ?_
    refine mjT_ret rfl rfl rfl ?_
    exact ⟨rfl, rfl⟩
end M1
