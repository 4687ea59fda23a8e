section Z2_D9
variable {K : Bd} {W W' : Wd} {b : Bool} {k s p q : Nat} {σ σ' : cl_S} {ρ ρ' : rf_S} {N : Nat}
/-- what a partition keeps of its secrets -/
theorem se_of (h : Rel K W b k σ ρ) (hq : q < W.np) : ∃ m, m ≤ 100 ∧ ρ.1 43 q = nI m ∧ σ.1 (83 + 12 * q) 12 = nI m ∧ (∀ i, i < m → TV W (σ.2.2.1 (91 + 12 * q) i) (ρ.1 42 (100 * q + i))) ∧ (∀ i, i < m → ∃ a, a ∈ W.ts ∧ σ.2.2.1 (91 + 12 * q) i = some a) ∧ (∀ i j, i < j → j < m → σ.2.2.1 (91 + 12 * q) i ≠ σ.2.2.1 (91 + 12 * q) j) := by
  obtain ⟨⟨hh, B, k, m, hk, hm, e1, e2, e3, e4, e5, e6, e7, e8, e9⟩, tf⟩ := (h.m0.pr q hq).tb
  have km := e4 rfl
  subst km
  rw [Nat.max_self] at e5 e7 e8
  rw [show 83 + 135 * 0 + 12 * q = 83 + 12 * q by omega] at e5
  rw [show 91 + 135 * 0 + 12 * q = 91 + 12 * q by omega] at e6 e7 e8
  exact ⟨k, hm, e3, e5, e6, e7, e8⟩
theorem Fz.o (h : ∀ c j, c ≠ 0 → ¬ S1 c j → ρ'.1 c j = ρ.1 c j) (c : Nat) (hc : c ≠ 0) (h1 : c < 48 ∨ 75 < c) : ρ'.1 c = ρ.1 c := funext fun j => h c j hc (fun w => by
  unfold S1 at w
  rcases w with w | w | w | w | w | w | w | w | w | w <;> omega)
theorem seg_S0 {c j : Nat} (C : CfgR W σ ρ) (hp : p < W.np) (h : seg W 0 p c j) : c ≠ 0 ∧ ¬ S1 c j := by
  have np8 := C.np.1
  have hb := (C.pa p hp).1
  unfold seg at h
  refine ⟨?_, fun w => ?_⟩
  · rcases h with h | h | h | h | h | h | h | h | h <;> omega
  · unfold S1 at w
    rcases h with h | h | h | ⟨h, i, hi, e⟩ | ⟨h, i, hi, e⟩ | ⟨h, i, hi, e⟩ | ⟨h, i, hi, e⟩ | h | ⟨h, i, hi, e⟩
    · rcases w with w | w | w | w | w | w | w | w | w | w <;> omega
    · rcases w with w | w | w | w | w | w | w | w | w | w <;> omega
    · obtain ⟨h, i, hi, e⟩ := h
      rcases w with w | w | w | w | w | w | w | w | w | w <;> omega
    · rcases w with w | w | w | w | w | w | w | w | w | w <;> omega
    · rcases w with w | w | w | w | w | w | w | w | w | w <;> omega
    · rcases w with w | w | w | w | w | w | w | w | w | w <;> omega
    · rcases w with w | w | w | w | w | w | w | w | w | w <;> omega
    · rcases w with w | w | w | w | w | w | w | w | w | w <;> omega
    · rcases w with w | w | w | w | w | w | w | w | w | w <;> omega
end Z2_D9
