section Z2_S7
variable {σ σ' σ0 : cl_S} {ρ ρ' ρ0 : rf_S} {l : List Nat}
theorem take_s {t : List Nat} {j : Nat} (hj : j < t.length) : t.take (j + 1) = t.take j ++ [t.getD j 0] := by
  rw [List.take_add_one, List.getD_eq_getElem?_getD, List.getElem?_eq_getElem hj]
  rfl
/-- a name in the class -/
theorem ShC.name {op : Nat} (h1 : 0 < op) (h2 : op < 42) (hl : l.length + 6 ≤ 40) (S : ShC σ0 σ l) : ∃ σ', fc_X0_showName 6 (nI op) σ = some σ' ∧ ShC σ0 σ' (l ++ opN op) := by
  obtain ⟨n6, -⟩ := nm_len op h2 h1
  have oct : ∀ j (σ : cl_S), j < 6 → fc_X0_nameOctet (nI op) (nI j) σ = some (nm_tab.getD ((op - 1) * 6 + j) 0, σ) := by
    intro j σ hj
    unfold fc_X0_nameOctet
    rw [show nI op - (1:Int32) = nI (op - 1) from n_sub (a := op) (b := 1) h1, show nI (op - 1) * (6:Int32) = nI ((op - 1) * 6) from n_mul _ 6, n_add, n_ix (show (op - 1) * 6 + j < 246 by omega) (by omega), n_cl (by omega)]
  have main : ∀ m j (σ : cl_S), (opN op).length - j = m → j ≤ (opN op).length → ShC σ0 σ (l ++ (opN op).take j) → ∃ σ' y, lp (fun z : (Int32 × cl_S) => lc_X0_showName_2 6 (nI op) z.1 z.2) (nI j, σ) = some (y, σ') ∧ ShC σ0 σ' (l ++ opN op) := by
    intro m
    induction m with
    | zero =>
      intro j σ hm hj S
      have ej : j = (opN op).length := by omega
      have e : lc_X0_showName_2 6 (nI op) (nI j) σ = some (.inr (nI j, σ)) := by
        unfold lc_X0_showName_2
        by_cases c : (6:Int32) ≤ nI j
        · rw [if_pos c]
        · rw [if_neg c]
          have j6 : j < 6 := by
            apply Classical.byContradiction
            intro q
            exact c ((n_le (a := 6) (b := j) (by omega) (by omega)).mpr (by omega))
          have := nm_end op h2 h1 (by omega)
          rw [← ej] at this
          rw [oct j σ j6, bd2n, this, if_pos rfl]
      refine ⟨σ, _, lp_end (s := (nI j, σ)) e, ?_⟩
      rw [ej, List.take_length] at S
      exact S
    | succ m ih =>
      intro j σ hm hj S
      obtain ⟨a1, -, a3, a4⟩ := nm_ok op h2 h1 j (by omega)
      have ll : (l ++ (opN op).take j).length = l.length + j := by rw [List.length_append, List.length_take]; omega
      obtain ⟨σ1, e1, S1⟩ := S.put (by omega) a3
      have e : lc_X0_showName_2 6 (nI op) (nI j) σ = some (.inl (nI (j + 1), σ1)) := by
        unfold lc_X0_showName_2
        rw [if_neg (show ¬ (6:Int32) ≤ nI j from fun q => by have := (n_le (a := 6) (b := j) (by omega) (by omega)).mp q; omega), oct j σ (by omega), bd2n, a1, if_neg (show ¬ nI ((opN op).getD j 0) = (32:Int32) from fun q => a4 ((n_eq (a := (opN op).getD j 0) (b := 32) (by omega) (by omega)).mp q)), oct j σ (by omega), bd2n, a1, e1, bd1n, vln, show nI j + (1:Int32) = nI (j + 1) from n_add j 1]
      obtain ⟨σ2, y, e2, S2⟩ := ih (j + 1) σ1 (by omega) (by omega) (by rw [take_s (by omega), ← List.append_assoc]; exact S1)
      exact ⟨σ2, y, by rw [lp_next (s := (nI j, σ)) e]; exact e2, S2⟩
  obtain ⟨σ', y, e, S'⟩ := main (opN op).length 0 σ (by omega) (by omega) (by rw [List.take_zero, List.append_nil]; exact S)
  refine ⟨σ', ?_, S'⟩
  unfold fc_X0_showName bc_X0_showName_0 bc_X0_showName_2
  rw [show lp (fun z : (Int32 × cl_S) => lc_X0_showName_2 6 (nI op) z.1 z.2) ((0:Int32), σ) = _ from e, Option.bind_some]
  rfl
/-- a name in the reference -/
theorem ShQ.name {op : Nat} {x1 : Int32} (h1 : 0 < op) (h2 : op < 42) (hl : l.length + 6 ≤ 64) (hN : ρ0.1 15 op = nI (nfr op + (opN op).length)) (S : ShQ ρ0 ρ l) : ∃ ρ' y, lp (fun z : (Int32 × rf_S) => lq_show_29 x1 (nI op) z.1 z.2) (nI (nfr op), ρ) = some (y, ρ') ∧ ShQ ρ0 ρ' (l ++ opN op) := by
  obtain ⟨n6, n188⟩ := nm_len op h2 h1
  have i42 : ∀ {α : Type} (z : Option α), ix (nI op) 42 z = z := fun z => n_ix (by omega) (by omega)
  have main : ∀ m j (ρ : rf_S), (opN op).length - j = m → j ≤ (opN op).length → ShQ ρ0 ρ (l ++ (opN op).take j) → ∃ ρ' y, lp (fun z : (Int32 × rf_S) => lq_show_29 x1 (nI op) z.1 z.2) (nI (nfr op + j), ρ) = some (y, ρ') ∧ ShQ ρ0 ρ' (l ++ opN op) := by
    intro m
    induction m with
    | zero =>
      intro j ρ hm hj S
      have ej : j = (opN op).length := by omega
      have e : lq_show_29 x1 (nI op) (nI (nfr op + j)) ρ = some (.inr (nI (nfr op + j), ρ)) := by
        unfold lq_show_29
        rw [i42, n_cl (show op < 2147483648 by omega), S.q 15 (by decide) (by decide), hN, if_pos ((n_le (by omega) (by omega)).mpr (by omega))]
      refine ⟨ρ, _, lp_end (s := (nI (nfr op + j), ρ)) e, ?_⟩
      rw [ej, List.take_length] at S
      exact S
    | succ m ih =>
      intro j ρ hm hj S
      obtain ⟨-, a2, a3, a4⟩ := nm_ok op h2 h1 j (by omega)
      have ll : (l ++ (opN op).take j).length = l.length + j := by rw [List.length_append, List.length_take]; omega
      obtain ⟨ρ1, e1, S1⟩ := S.put (by omega) a3
      have e : lq_show_29 x1 (nI op) (nI (nfr op + j)) ρ = some (.inl (nI (nfr op + (j + 1)), ρ1)) := by
        unfold lq_show_29
        rw [i42, n_cl (show op < 2147483648 by omega), S.q 15 (by decide) (by decide), hN, if_neg (fun q => by have := (n_le (by omega) (by omega)).mp q; omega), n_ix (show nfr op + j < 188 by omega) (by omega), n_cl (show nfr op + j < 2147483648 by omega), a2, vln, e1, bd1n, vln, show nI (nfr op + j) + (1:Int32) = nI (nfr op + (j + 1)) from n_add _ 1]
      obtain ⟨ρ2, y, e2, S2⟩ := ih (j + 1) ρ1 (by omega) (by omega) (by rw [take_s (by omega), ← List.append_assoc]; exact S1)
      exact ⟨ρ2, y, by rw [lp_next (s := (nI (nfr op + j), ρ)) e]; exact e2, S2⟩
  exact main (opN op).length 0 ρ (by omega) (by omega) (by rw [List.take_zero, List.append_nil]; exact S)
end Z2_S7
