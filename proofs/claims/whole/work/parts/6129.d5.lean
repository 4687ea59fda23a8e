section Z2_D5
variable {K : Bd} {W W' : Wd} {b : Bool} {k s p q : Nat} {σ σ' : cl_S} {ρ ρ' : rf_S} {N : Nat}
/-- a partition that begins again -/
theorem pr_again {m : Nat} (hp : p < 8) (ix : σ.1 (218 + 12 * p) 3 = nI p ∧ σ.1 (227 + 12 * p) 1 = nI 100 ∧ σ.1 (227 + 12 * p) 2 = 0) (sz : σ.1 (219 + 12 * p) 2 = nI (W.sz p)) (z84 : ∀ j, 2 < j → j < 9 → j ≠ 7 → σ.1 (219 + 12 * p) j = 0) (ha : σ.1 (219 + 12 * p) 7 = ρ.1 55 (8 + p)) (z86 : ∀ j, j < 16 → σ.1 (221 + 12 * p) j = 0) (z83 : ∀ j, j = 6 ∨ j = 8 ∨ j = 10 ∨ j = 13 ∨ j = 14 → σ.1 (218 + 12 * p) j = 0) (h12 : σ.1 (218 + 12 * p) 12 = nI m) (z92 : σ.1 (227 + 12 * p) 5 = 0) (z94 : ∀ j, j < 256 → σ.1 (229 + 12 * p) j = 0) (q : ∀ c, cnr c → c ≠ 55 → ρ.1 c (8 + p) = 0) (rg : ∀ r, r < 16 → ρ.1 53 (16 * (8 + p) + r) = 0) (q43 : ρ.1 43 p = nI m) (hm : m ≤ 100) (s1 : ∀ i, i < m → TV W (σ.2.2.1 (226 + 12 * p) i) (ρ.1 42 (100 * p + i))) (s2 : ∀ i, i < m → ∃ a, a ∈ W.ts ∧ σ.2.2.1 (226 + 12 * p) i = some a) (s3 : ∀ i j, i < j → j < m → σ.2.2.1 (226 + 12 * p) i ≠ σ.2.2.1 (226 + 12 * p) j) (me : ∀ i, i < W.sz p → σ.1 (220 + 12 * p) i = ρ.1 52 (8192 + W.bs p + i)) (ms : PMs W 1 p σ ρ) : PRel W 1 p σ ρ := by
  have g0 : 8 * 1 + p = 8 + p := by omega
  have a3 : 83 + 135 * 1 + 12 * p = 218 + 12 * p := by omega
  have a4 : 84 + 135 * 1 + 12 * p = 219 + 12 * p := by omega
  have a5 : 85 + 135 * 1 + 12 * p = 220 + 12 * p := by omega
  have a6 : 86 + 135 * 1 + 12 * p = 221 + 12 * p := by omega
  have a11 : 91 + 135 * 1 + 12 * p = 226 + 12 * p := by omega
  have a12 : 92 + 135 * 1 + 12 * p = 227 + 12 * p := by omega
  refine ⟨?_, ?_, ?_, ?_, ?_, ?_, ms⟩
  · refine ⟨?_, ?_, ?_, ?_, ?_, ?_, ?_, ?_, ?_, ?_⟩
    · rw [a3]; exact ix.1
    · rw [a4]; exact sz
    · rw [a4, g0, z84 3 (by omega) (by omega) (by omega), q 54 (by unfold cnr; omega) (by omega)]
    · rw [a4, g0, z84 4 (by omega) (by omega) (by omega), q 58 (by unfold cnr; omega) (by omega)]
    · rw [a4, g0, z84 5 (by omega) (by omega) (by omega), q 56 (by unfold cnr; omega) (by omega)]
    · rw [a4, g0, z84 6 (by omega) (by omega) (by omega), q 57 (by unfold cnr; omega) (by omega)]
    · rw [a4, g0]; exact ha
    · rw [a4, g0, z84 8 (by omega) (by omega) (by omega), q 59 (by unfold cnr; omega) (by omega)]
    · intro r hr; rw [a6, g0, z86 r hr, rg r hr]
    · intro i hi; rw [a5, show 8192 * 1 + W.bs p + i = 8192 + W.bs p + i by omega]; exact me i hi
  · refine ⟨⟨0, ?_, 0, m, by omega, hm, ?_, ?_, q43, fun e => absurd e (by omega), ?_, ?_, ?_, ?_, fun i hi => absurd hi (by omega)⟩, ?_⟩
    · have := ts_pt (s := 1) (p := p) (by omega) hp
      refine TabR.nil (e := 8) (by omega) this (by rw [a12]; exact z92) (by rw [g0]; exact q 61 (by unfold cnr; omega) (by omega)) (by rw [a12]; exact ix.2.1) (fun i hi => ?_)
      rw [show 92 + 135 * 1 + 12 * p + 2 = 229 + 12 * p by omega]
      exact z94 i (by omega)
    · rw [g0]; exact q 70 (by unfold cnr; omega) (by omega)
    · rw [a3]; exact z83 13 (by omega)
    · rw [a3, Nat.zero_max]; exact h12
    · rw [a11]; exact s1
    · rw [a11, Nat.zero_max]; exact s2
    · rw [a11, Nat.zero_max]; exact s3
    · rw [a12]; exact ix.2.2
  · exact ⟨0, ⟨by omega, by rw [a3]; exact z83 6 (by omega), by rw [g0]; exact q 64 (by unfold cnr; omega) (by omega)⟩, fun j hj => absurd hj (by omega)⟩
  · exact ⟨0, ⟨by omega, by rw [a3]; exact z83 8 (by omega), by rw [g0]; exact q 66 (by unfold cnr; omega) (by omega)⟩, fun j hj => absurd hj (by omega)⟩
  · exact ⟨0, ⟨by omega, by rw [a3]; exact z83 10 (by omega), by rw [g0]; exact q 68 (by unfold cnr; omega) (by omega)⟩, fun j hj => absurd hj (by omega)⟩
  · exact ⟨0, by omega, by rw [a3]; exact z83 14 (by omega), by rw [g0]; exact q 69 (by unfold cnr; omega) (by omega)⟩
theorem phi_one (h1 : ∀ p, p < 8 → ρ.1 61 (8 + p) = 0) (h2 : ∀ p, p < 8 → ρ.1 69 (8 + p) = 0) : phi 1 ρ = 3200 := by
  unfold phi phG
  rw [h1 0 (by omega), h1 1 (by omega), h1 2 (by omega), h1 3 (by omega), h1 4 (by omega), h1 5 (by omega), h1 6 (by omega), h1 7 (by omega), h2 0 (by omega), h2 1 (by omega), h2 2 (by omega), h2 3 (by omega), h2 4 (by omega), h2 5 (by omega), h2 6 (by omega), h2 7 (by omega)]
  decide
end Z2_D5
