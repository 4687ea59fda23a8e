section Z2_S5
variable {σ σ' σ0 : cl_S} {ρ ρ' ρ0 : rf_S} {l : List Nat}
theorem fgs_lt (z : Nat) : ∀ k c, c ∈ fgs z k → c < 128 := by
  intro k
  induction k with
  | zero =>
    intro c hc
    unfold fgs at hc
    have := List.mem_singleton.mp hc
    have := Nat.mod_lt (z / 1) (show 0 < 10 by omega)
    omega
  | succ k ih =>
    intro c hc
    unfold fgs at hc
    rcases List.mem_cons.mp hc with q | q
    · have := Nat.mod_lt (z / 10 ^ (k + 1)) (show 0 < 10 by omega)
      omega
    · exact ih c q
/-- a number that is not negative, on both sides -/
theorem nn_both {z : Nat} (hz : z < 4294967296) : ∃ t : List Nat, (t.length ≤ 10 ∧ (z < 100 → t.length ≤ 2)) ∧ (∀ c, c ∈ t → c < 128) ∧ (∀ (σ0 σ : cl_S) (l : List Nat), ShC σ0 σ l → l.length + 10 ≤ 40 → ∃ σ', bc_X0_showNumber_18 6 (Int64.ofNat z) σ = some σ' ∧ ShC σ0 σ' (l ++ t)) ∧ (∀ (ρ0 ρ : rf_S) (l : List Nat), ShQ ρ0 ρ l → l.length + 10 ≤ 64 → ∃ ρ', bq_putFigures_17 (Int64.ofNat z) ρ = some ρ' ∧ ShQ ρ0 ρ' (l ++ t)) := by
  have ex : ∃ k, Pw z k := by
    obtain ⟨k, hk, -⟩ := q_pow hz ((fun _ _ => 0, fun _ _ => 0) : rf_S) 9 0 (by omega) (by omega) (Or.inl rfl)
    exact ⟨k, hk⟩
  obtain ⟨k, hk⟩ := ex
  have h9 := hk.1
  have hle : 10 ^ k ≤ 4294967296 := by
    rcases hk.2.2 with rfl | q
    · decide
    · omega
  have h2 : z < 100 → k ≤ 1 := by
    intro hz
    rcases hk.2.2 with rfl | q
    · omega
    · apply Classical.byContradiction
      intro w
      have := Nat.pow_le_pow_right (n := 10) (by omega) (show 2 ≤ k by omega)
      omega
  refine ⟨fgs z k, by rw [fgs_len]; exact ⟨by omega, fun hz => by have := h2 hz; omega⟩, fgs_lt z k, fun σ0 σ l S hl => ?_, fun ρ0 ρ l S hl => ?_⟩
  · obtain ⟨k', y, hk', e⟩ := c_pow hz σ 9 0 (by omega) (by omega) (Or.inl rfl)
    have : k' = k := hk'.un hk
    subst this
    obtain ⟨σ', y', e', S'⟩ := c_dig hz k' σ l hle S (by omega)
    refine ⟨σ', ?_, S'⟩
    unfold bc_X0_showNumber_18 bc_X0_showNumber_24
    rw [show lp (fun w : (Int64 × Int32 × cl_S) => lc_X0_showNumber_24 6 (Int64.ofNat z) w.1 w.2.1 w.2.2) ((1:Int64), (0:Int32), σ) = _ from e, Option.bind_some]
    unfold ec_X0_showNumber_24 bc_X0_showNumber_56
    rw [e', Option.bind_some]
    rfl
  · obtain ⟨k', hk', e⟩ := q_pow hz ρ 9 0 (by omega) (by omega) (Or.inl rfl)
    have : k' = k := hk'.un hk
    subst this
    obtain ⟨ρ', y', e', S'⟩ := q_dig hz k' ρ l hle S (by omega)
    refine ⟨ρ', ?_, S'⟩
    unfold bq_putFigures_17 bq_putFigures_20
    rw [show lp (fun w : (Int64 × rf_S) => lq_putFigures_20 (Int64.ofNat z) w.1 w.2) ((1:Int64), ρ) = _ from e, Option.bind_some]
    unfold eq_putFigures_20 bq_putFigures_42
    rw [e', Option.bind_some]
    rfl
/-- a number on both sides -/
theorem num_both (x : Int32) : ∃ t : List Nat, (t.length ≤ 11 ∧ ∀ m, m < 100 → x = nI m → t.length ≤ 2) ∧ (∀ c, c ∈ t → c < 128) ∧ (∀ (σ0 σ : cl_S) (l : List Nat), ShC σ0 σ l → l.length + 11 ≤ 40 → ∃ σ', fc_X0_showNumber 6 x σ = some σ' ∧ ShC σ0 σ' (l ++ t)) ∧ (∀ (ρ0 ρ : rf_S) (l : List Nat), ShQ ρ0 ρ l → l.length + 11 ≤ 64 → ∃ ρ', fq_putFigures x.toInt64 ρ = some ρ' ∧ ShQ ρ0 ρ' (l ++ t)) := by
  rcases n_cases x with q | ⟨m, hm, rfl⟩
  · have q' := Int32.lt_iff_toInt_lt.mp q
    rw [n_toInt (by omega)] at q'
    have hlo := x.le_toInt
    obtain ⟨t, t1, t2, t3, t4⟩ := nn_both (z := (-x.toInt).toNat) (by omega)
    have e64 : -x.toInt64 = Int64.ofNat (-x.toInt).toNat := by
      rw [← Int64.toInt_inj, Int64.toInt_neg, Int32.toInt_toInt64, L_toInt (by omega)]
      rw [Int.bmod_eq_of_le (by omega) (by omega)]
      omega
    have lneg : lg_cmp x.toInt64 (0:Int64) = -1 := by
      unfold lg_cmp
      rw [if_neg (fun w => by
        have w' := Int64.lt_iff_toInt_lt.mp w
        rw [Int32.toInt_toInt64, show (0:Int64).toInt = 0 by decide] at w'
        omega), if_neg (fun w => by
        have w' := congrArg Int64.toInt w
        rw [Int32.toInt_toInt64, show (0:Int64).toInt = 0 by decide] at w'
        omega)]
    refine ⟨45 :: t, ⟨by rw [List.length_cons]; omega, fun m hm e => by rw [e] at q'; rw [n_toInt (by omega)] at q'; omega⟩, fun c hc => ?_, fun σ0 σ l S hl => ?_, fun ρ0 ρ l S hl => ?_⟩
    · rcases List.mem_cons.mp hc with w | w
      · omega
      · exact t2 c w
    · obtain ⟨σ1, e1, S1⟩ := S.put (by omega) (show 45 < 128 by omega)
      obtain ⟨σ2, e2, S2⟩ := t3 σ0 σ1 _ S1 (by rw [List.length_append, List.length_singleton]; omega)
      refine ⟨σ2, ?_, by rw [List.append_assoc] at S2; exact S2⟩
      unfold fc_X0_showNumber bc_X0_showNumber_0
      rw [vln, lneg, if_neg (show ¬ (0:Int32) ≤ -1 by decide), show (45:Int32) = nI 45 from rfl, e1, bd1n, e64, vln]
      exact e2
    · obtain ⟨ρ1, e1, S1⟩ := S.put (by omega) (show 45 < 128 by omega)
      obtain ⟨ρ2, e2, S2⟩ := t4 ρ0 ρ1 _ S1 (by rw [List.length_append, List.length_singleton]; omega)
      refine ⟨ρ2, ?_, by rw [List.append_assoc] at S2; exact S2⟩
      unfold fq_putFigures bq_putFigures_0
      rw [lneg, if_neg (show ¬ (0:Int32) ≤ -1 by decide), show (45:Int32) = nI 45 from rfl, e1, bd1n, e64, vln]
      exact e2
  · obtain ⟨t, t1, t2, t3, t4⟩ := nn_both (z := m) (by omega)
    have e64 : (nI m).toInt64 = Int64.ofNat m := by
      rw [← Int64.toInt_inj, Int32.toInt_toInt64, n_toInt hm, L_toInt (by omega)]
    have lpos : (0:Int32) ≤ lg_cmp (Int64.ofNat m) (0:Int64) := by
      rw [show (0:Int64) = Int64.ofNat 0 from rfl, lg_v (by omega) (by omega)]
      by_cases c : 0 < m
      · rw [if_pos c]; decide
      · rw [if_neg c, if_pos (by omega)]; decide
    refine ⟨t, ⟨by omega, fun m' hm' e => t1.2 (by have := (n_eq hm (by omega)).mp e; omega)⟩, t2, fun σ0 σ l S hl => ?_, fun ρ0 ρ l S hl => ?_⟩
    · obtain ⟨σ2, e2, S2⟩ := t3 σ0 σ _ S (by omega)
      refine ⟨σ2, ?_, S2⟩
      unfold fc_X0_showNumber bc_X0_showNumber_0
      rw [e64, vln, if_pos lpos]
      exact e2
    · obtain ⟨ρ2, e2, S2⟩ := t4 ρ0 ρ _ S (by omega)
      refine ⟨ρ2, ?_, S2⟩
      unfold fq_putFigures bq_putFigures_0
      rw [e64, if_pos lpos]
      exact e2
end Z2_S5
