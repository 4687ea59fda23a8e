section Z2_FE
/-- every call keeps the relation, and both answer alike -/
theorem all_calls (k : Nat) (σ : cl_S) (ρ : rf_S) (hk : k < 64) (h : RC k σ ρ) : RC (k + 1) σ ρ ∧ ∀ n x1 x2 x3 x4, n < 34 → ∃ r σ' ρ', lw_fc n x1 x2 x3 x4 σ = some (r, σ') ∧ lw_fq n x1 x2 x3 x4 ρ = some (r, ρ') ∧ RC (k + 1) σ' ρ' := by
  refine ⟨h.next hk, fun n x1 x2 x3 x4 hn => ?_⟩
  match n, hn with
  | 0, _ => exact call_type h hk _ x3
  | 1, _ => exact call_assemble h hk
  | 2, _ => exact call_place h hk
  | 3, _ => exact call_feed h hk x1 x2 x3 x4
  | 4, _ => exact call_show h hk x1
  | 5, _ => exact call_shown h hk x1
  | 6, _ => exact call_drop h hk x1
  | 7, _ => exact call_word h hk x1
  | 8, _ => exact call_keep h hk x1
  | 9, _ => exact call_safe h hk x1 x2
  | 10, _ => exact call_boot h hk
  | 11, _ => exact call_off h hk
  | 12, _ => exact call_cut h hk x1
  | 13, _ => exact call_run h hk x1
  | 14, _ => exact call_input h hk x1 x2
  | 15, _ => exact call_inputTerm h hk x1 x2
  | 16, _ => exact call_output h hk x1 x2 x3
  | 17, _ => exact call_state h hk x1 x2
  | 18, _ => exact call_register h hk x1 x2
  | 19, _ => exact call_memory h hk x1 x2
  | 20, _ => exact call_channel h hk x1 x2
  | 21, _ => exact call_block h hk x1 x2
  | 22, _ => exact call_put h hk x1 x2 x3
  | 23, _ => exact call_make h hk x1 x2 x3 x4
  | 24, _ => exact call_take h hk x1 x2 x3
  | 25, _ => exact call_kind h hk x1
  | 26, _ => exact call_number h hk x1
  | 27, _ => exact call_measure h hk x1
  | 28, _ => exact call_knows h hk x1 x2
  | 29, _ => exact call_far h hk x1 x2
  | 30, _ => exact call_same h hk x1 x2 x3 x4
  | 31, _ => exact call_flows h hk x1 x2
  | 32, _ => exact call_purge h hk x1
  | 33, _ => exact call_told h hk x1
  | n + 34, hn => exact absurd hn (by omega)
end Z2_FE
