section Z2_S6
variable {σ σ' σ0 : cl_S} {ρ ρ' ρ0 : rf_S} {l : List Nat}
set_option maxRecDepth 100000 in
theorem nm_len : ∀ op, op < 42 → 0 < op → (opN op).length ≤ 6 ∧ nfr op + (opN op).length ≤ 188 := by decide
set_option maxRecDepth 100000 in
theorem nm_ok : ∀ op, op < 42 → 0 < op → ∀ j, j < (opN op).length → nm_tab.getD ((op - 1) * 6 + j) 0 = nI ((opN op).getD j 0) ∧ rn_tab.getD (nfr op + j) 0 = nI ((opN op).getD j 0) ∧ (opN op).getD j 0 < 128 ∧ (opN op).getD j 0 ≠ 32 := by decide
set_option maxRecDepth 100000 in
theorem nm_end : ∀ op, op < 42 → 0 < op → (opN op).length < 6 → nm_tab.getD ((op - 1) * 6 + (opN op).length) 0 = 32 := by decide
end Z2_S6
