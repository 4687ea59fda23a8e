section Z2_GO
variable {K : Bd} {W W' : Wd} {b : Bool} {k s p : Nat} {σ σ' : cl_S} {ρ ρ' : rf_S}
theorem TV.mt (hN : W.N ≤ W'.N) (ht : ∀ t, t < W.N → W'.tm t = W.tm t) {r : Option Nat} {v : Int32} (h : TV W r v) : TV W' r v := by
  obtain ⟨t, h1, h2, h3⟩ := h
  exact ⟨t, Nat.lt_of_lt_of_le h1 hN, h2, by rw [ht t h1]; exact h3⟩
theorem TO.mt (hN : W.N ≤ W'.N) (ht : ∀ t, t < W.N → W'.tm t = W.tm t) {r : Option Nat} {v : Int32} (h : TO W r v) : TO W' r v := h.imp id (fun q => q.mt hN ht)
/-- an empty table -/
theorem TabR.nil {tm : Nat → Nat} {N a lim e : Nat} {tb : Nat → Int32} {cnt : Int32} (he : e ≤ 11) (cs : cl_ts a = 2 ^ e ∧ cl_th a = lim + 1 ∧ lim < 2 ^ e) (cc : σ.1 a 5 = 0) (cq : cnt = 0) (lm : σ.1 a 1 = nI lim) (sv : ∀ i, i < 2 ^ e → σ.1 (a + 2) i = 0) : TabR σ tm N a lim (2 ^ e) tb cnt 0 := by
  refine ⟨⟨e, he, rfl⟩, cs, Nat.zero_le _, cc, cq, lm, fun j hj => absurd hj (by omega), fun i j _ hj => absurd hj (by omega), fun i hi => ⟨0, Nat.le_refl _, sv i hi⟩, fun i j hi hj _ h => absurd (sv i hi) h, fun j hj => absurd hj (by omega)⟩
theorem ts_pt (hs : s < 2) (hp : p < 8) : cl_ts (92 + 135 * s + 12 * p) = 2 ^ 8 ∧ cl_th (92 + 135 * s + 12 * p) = 100 + 1 ∧ 100 < 2 ^ 8 := by
  have s01 : s = 0 ∨ s = 1 := by omega
  have p8 : p = 0 ∨ p = 1 ∨ p = 2 ∨ p = 3 ∨ p = 4 ∨ p = 5 ∨ p = 6 ∨ p = 7 := by omega
  rcases s01 with rfl | rfl <;> rcases p8 with rfl | rfl | rfl | rfl | rfl | rfl | rfl | rfl <;> exact ⟨rfl, rfl, by omega⟩
/-- a partition that begins -/
theorem pr_new (hp : p < 8) (ix : σ.1 (83 + 12 * p) 3 = nI p ∧ σ.1 (92 + 12 * p) 1 = nI 100 ∧ σ.1 (92 + 12 * p) 2 = 0) (sz : σ.1 (84 + 12 * p) 2 = nI (W.sz p)) (z84 : ∀ j, 2 < j → j < 9 → σ.1 (84 + 12 * p) j = 0) (z86 : ∀ j, j < 16 → σ.1 (86 + 12 * p) j = 0) (z83 : ∀ j, j = 6 ∨ j = 8 ∨ j = 10 ∨ j = 12 ∨ j = 13 ∨ j = 14 → σ.1 (83 + 12 * p) j = 0) (z92 : σ.1 (92 + 12 * p) 5 = 0) (z94 : ∀ j, j < 256 → σ.1 (94 + 12 * p) j = 0) (q : ∀ c, cnr c → ρ.1 c p = 0) (rg : ∀ r, r < 16 → ρ.1 53 (16 * p + r) = 0) (q43 : ρ.1 43 p = 0) (me : ∀ i, i < W.sz p → σ.1 (85 + 12 * p) i = ρ.1 52 (W.bs p + i)) (ms : PMs W 0 p σ ρ) : PRel W 0 p σ ρ := by
  have g0 : 8 * 0 + p = p := by omega
  have a3 : 83 + 135 * 0 + 12 * p = 83 + 12 * p := by omega
  have a4 : 84 + 135 * 0 + 12 * p = 84 + 12 * p := by omega
  have a5 : 85 + 135 * 0 + 12 * p = 85 + 12 * p := by omega
  have a6 : 86 + 135 * 0 + 12 * p = 86 + 12 * p := by omega
  have a12 : 92 + 135 * 0 + 12 * p = 92 + 12 * p := by omega
  refine ⟨?_, ?_, ?_, ?_, ?_, ?_, ms⟩
  · refine ⟨?_, ?_, ?_, ?_, ?_, ?_, ?_, ?_, ?_, ?_⟩
    · rw [a3]; exact ix.1
    · rw [a4]; exact sz
    · rw [a4, g0, z84 3 (by omega) (by omega), q 54 (by unfold cnr; omega)]
    · rw [a4, g0, z84 4 (by omega) (by omega), q 58 (by unfold cnr; omega)]
    · rw [a4, g0, z84 5 (by omega) (by omega), q 56 (by unfold cnr; omega)]
    · rw [a4, g0, z84 6 (by omega) (by omega), q 57 (by unfold cnr; omega)]
    · rw [a4, g0, z84 7 (by omega) (by omega), q 55 (by unfold cnr; omega)]
    · rw [a4, g0, z84 8 (by omega) (by omega), q 59 (by unfold cnr; omega)]
    · intro r hr; rw [a6, g0, z86 r hr, rg r hr]
    · intro i hi; rw [a5, show 8192 * 0 + W.bs p + i = W.bs p + i by omega]; exact me i hi
  · refine ⟨⟨0, ?_, 0, 0, by omega, by omega, ?_, ?_, q43, fun _ => rfl, ?_, fun i hi => absurd hi (by omega), fun i hi => absurd hi (by omega), fun i j _ hj => absurd hj (by omega), fun i hi => absurd hi (by omega)⟩, ?_⟩
    · have := ts_pt (s := 0) (p := p) (by omega) hp
      refine TabR.nil (e := 8) (by omega) this (by rw [a12]; exact z92) (by rw [g0]; exact q 61 (by unfold cnr; omega)) (by rw [a12]; exact ix.2.1) (fun i hi => ?_)
      rw [show 92 + 135 * 0 + 12 * p + 2 = 94 + 12 * p by omega]
      exact z94 i (by omega)
    · rw [g0]; exact q 70 (by unfold cnr; omega)
    · rw [a3]; exact z83 13 (by omega)
    · rw [a3]; exact z83 12 (by omega)
    · rw [a12]; exact ix.2.2
  · exact ⟨0, ⟨by omega, by rw [a3]; exact z83 6 (by omega), by rw [g0]; exact q 64 (by unfold cnr; omega)⟩, fun j hj => absurd hj (by omega)⟩
  · exact ⟨0, ⟨by omega, by rw [a3]; exact z83 8 (by omega), by rw [g0]; exact q 66 (by unfold cnr; omega)⟩, fun j hj => absurd hj (by omega)⟩
  · exact ⟨0, ⟨by omega, by rw [a3]; exact z83 10 (by omega), by rw [g0]; exact q 68 (by unfold cnr; omega)⟩, fun j hj => absurd hj (by omega)⟩
  · exact ⟨0, by omega, by rw [a3]; exact z83 14 (by omega), by rw [g0]; exact q 69 (by unfold cnr; omega)⟩
theorem phi_new (h1 : ∀ p, p < 8 → ρ.1 61 p = 0) (h2 : ∀ p, p < 8 → ρ.1 69 p = 0) : phi 0 ρ = 3200 := by
  unfold phi phG
  rw [h1 (8 * 0) (by omega), h1 (8 * 0 + 1) (by omega), h1 (8 * 0 + 2) (by omega), h1 (8 * 0 + 3) (by omega), h1 (8 * 0 + 4) (by omega), h1 (8 * 0 + 5) (by omega), h1 (8 * 0 + 6) (by omega), h1 (8 * 0 + 7) (by omega), h2 (8 * 0) (by omega), h2 (8 * 0 + 1) (by omega), h2 (8 * 0 + 2) (by omega), h2 (8 * 0 + 3) (by omega), h2 (8 * 0 + 4) (by omega), h2 (8 * 0 + 5) (by omega), h2 (8 * 0 + 6) (by omega), h2 (8 * 0 + 7) (by omega)]
  decide
end Z2_GO
