section Z2_S4
variable {σ σ' σ0 : cl_S} {ρ ρ' ρ0 : rf_S} {l : List Nat}
/-- the power of the first digit -/
def Pw (z k : Nat) : Prop := k ≤ 9 ∧ z < 10 ^ (k + 1) ∧ (k = 0 ∨ 10 ^ k ≤ z)
theorem Pw.un {z k k' : Nat} (h : Pw z k) (h' : Pw z k') : k = k' := by
  have key : ∀ {a b : Nat}, Pw z a → Pw z b → ¬ a < b := by
    intro a b ha hb c
    have h1 : 10 ^ (a + 1) ≤ 10 ^ b := Nat.pow_le_pow_right (by omega) c
    have h2 := ha.2.1
    rcases hb.2.2 with q | q <;> omega
  have := key h h'
  have := key h' h
  omega
theorem q_pow {z : Nat} (hz : z < 4294967296) (ρ : rf_S) : ∀ m j, 9 - j = m → j ≤ 9 → (j = 0 ∨ 10 ^ j ≤ z) → ∃ k, Pw z k ∧ lp (fun w : (Int64 × rf_S) => lq_putFigures_20 (Int64.ofNat z) w.1 w.2) (Int64.ofNat (10 ^ j), ρ) = some (Int64.ofNat (10 ^ k), ρ) := by
  have body : ∀ j, (j = 0 ∨ 10 ^ j ≤ z) → lq_putFigures_20 (Int64.ofNat z) (Int64.ofNat (10 ^ j)) ρ = if z < 10 ^ (j + 1) then some (.inr (Int64.ofNat (10 ^ j), ρ)) else some (.inl (Int64.ofNat (10 ^ (j + 1)), ρ)) := by
    intro j hj
    have h0 : 0 < 10 ^ j := Nat.pow_pos (by omega)
    have hp : 10 ^ (j + 1) = 10 ^ j * 10 := Nat.pow_succ 10 j
    have hle : 10 ^ j ≤ 4294967296 := by
      rcases hj with rfl | q
      · decide
      · omega
    have dl : z / 10 ^ j ≤ z := Nat.div_le_self _ _
    have dv : z / 10 ^ j < 10 ↔ z < 10 ^ (j + 1) := by
      rw [Nat.div_lt_iff_lt_mul h0, hp, Nat.mul_comm]
    unfold lq_putFigures_20 nzL
    rw [show (0:Int64) = Int64.ofNat 0 from rfl, if_neg (show ¬ Int64.ofNat (10 ^ j) = Int64.ofNat 0 from fun q => by have := (L_eq (by omega) (by omega)).mp q; omega), L_div (by omega) (by omega), show (10:Int64) = Int64.ofNat 10 from rfl, lg_v (by omega) (by omega), L_mul, ← hp, vln]
    by_cases c : z < 10 ^ (j + 1)
    · have := dv.mpr c
      rw [if_neg (show ¬ 10 < z / 10 ^ j by omega), if_neg (show ¬ z / 10 ^ j = 10 by omega), if_pos (show (-1:Int32) < 0 by decide), if_pos c]
    · have : ¬ z / 10 ^ j < 10 := fun q => c (dv.mp q)
      rw [if_neg c]
      by_cases d : 10 < z / 10 ^ j
      · rw [if_pos d, if_neg (show ¬ (1:Int32) < 0 by decide)]
      · rw [if_neg d, if_pos (show z / 10 ^ j = 10 by omega), if_neg (show ¬ (0:Int32) < 0 by decide)]
  intro m
  induction m with
  | zero =>
    intro j hm hj h
    have : j = 9 := by omega
    subst this
    have e := body 9 h
    rw [if_pos (show z < 10 ^ (9 + 1) by omega)] at e
    exact ⟨9, ⟨by omega, by omega, h⟩, lp_end (s := (Int64.ofNat (10 ^ 9), ρ)) e⟩
  | succ m ih =>
    intro j hm hj h
    have e := body j h
    by_cases c : z < 10 ^ (j + 1)
    · rw [if_pos c] at e
      exact ⟨j, ⟨by omega, c, h⟩, lp_end (s := (Int64.ofNat (10 ^ j), ρ)) e⟩
    · rw [if_neg c] at e
      obtain ⟨k, hk, ek⟩ := ih (j + 1) (by omega) (by omega) (Or.inr (by omega))
      exact ⟨k, hk, by rw [lp_next (s := (Int64.ofNat (10 ^ j), ρ)) e]; exact ek⟩
theorem c_pow {z : Nat} (hz : z < 4294967296) (σ : cl_S) : ∀ m j, 9 - j = m → j ≤ 9 → (j = 0 ∨ 10 ^ j ≤ z) → ∃ k y, Pw z k ∧ lp (fun w : (Int64 × Int32 × cl_S) => lc_X0_showNumber_24 6 (Int64.ofNat z) w.1 w.2.1 w.2.2) (Int64.ofNat (10 ^ j), nI j, σ) = some (Int64.ofNat (10 ^ k), y, σ) := by
  have body : ∀ j, j ≤ 9 → (j = 0 ∨ 10 ^ j ≤ z) → lc_X0_showNumber_24 6 (Int64.ofNat z) (Int64.ofNat (10 ^ j)) (nI j) σ = if z < 10 ^ (j + 1) then some (.inr (Int64.ofNat (10 ^ j), nI j, σ)) else some (.inl (Int64.ofNat (10 ^ (j + 1)), nI (j + 1), σ)) := by
    intro j j9 hj
    have hp : 10 ^ (j + 1) = 10 ^ j * 10 := Nat.pow_succ 10 j
    have hle : 10 ^ j ≤ 4294967296 := by
      rcases hj with rfl | q
      · decide
      · omega
    unfold lc_X0_showNumber_24
    rw [if_neg (show ¬ (10:Int32) ≤ nI j from fun q => by have := (n_le (a := 10) (b := j) (by omega) (by omega)).mp q; omega), show (10:Int64) = Int64.ofNat 10 from rfl, L_mul, ← hp, lg_v (by omega) (by omega), vln, vln, show nI j + (1:Int32) = nI (j + 1) from n_add j 1]
    by_cases c : z < 10 ^ (j + 1)
    · rw [if_pos c, if_pos (show (0:Int32) < 1 by decide), if_pos c]
    · rw [if_neg c, if_neg c]
      by_cases d : 10 ^ (j + 1) = z
      · rw [if_pos d, if_neg (show ¬ (0:Int32) < 0 by decide)]
      · rw [if_neg d, if_neg (show ¬ (0:Int32) < -1 by decide)]
  intro m
  induction m with
  | zero =>
    intro j hm hj h
    have : j = 9 := by omega
    subst this
    have e := body 9 (by omega) h
    rw [if_pos (show z < 10 ^ (9 + 1) by omega)] at e
    exact ⟨9, _, ⟨by omega, by omega, h⟩, lp_end (s := (Int64.ofNat (10 ^ 9), nI 9, σ)) e⟩
  | succ m ih =>
    intro j hm hj h
    have e := body j hj h
    by_cases c : z < 10 ^ (j + 1)
    · rw [if_pos c] at e
      exact ⟨j, _, ⟨by omega, c, h⟩, lp_end (s := (Int64.ofNat (10 ^ j), nI j, σ)) e⟩
    · rw [if_neg c] at e
      obtain ⟨k, y, hk, ek⟩ := ih (j + 1) (by omega) (by omega) (Or.inr (by omega))
      exact ⟨k, y, hk, by rw [lp_next (s := (Int64.ofNat (10 ^ j), nI j, σ)) e]; exact ek⟩
end Z2_S4
