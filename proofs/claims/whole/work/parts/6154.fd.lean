section Z2_FD
variable {ρ : rf_S}
def wI : Wd := (tsI, tmI, 4, 48, 0, 0, 0, fun _ => 0, fun _ => 0, fun _ => 0, fun _ => 0, fun _ => 0, fun _ => 0, fun _ => 0, fun _ => 0, fun _ => 0, 112000)
theorem a_kp : ∀ i, i < 10 → sI.2.2.1 19 i = some (20 + i) ∧ sI.2.2.2.1 (20 + i) = (1, 2048) := by decide +kernel
theorem a_pp : ∀ s, s < 2 → ∀ p, p < 8 → sI.2.2.1 (59 + 135 * s) p = some (83 + 135 * s + 12 * p) := by decide +kernel
theorem a_sp : ∀ s, s < 2 → ∀ c, c < 16 → sI.2.2.1 (60 + 135 * s) c = some (61 + 135 * s + c) ∧ sI.2.2.2.1 (61 + 135 * s + c) = (1, 16) := by decide +kernel
theorem a_dp : ∀ s, s < 2 → sI.2.2.1 (47 + 132 * s) 1 = some (41 + 139 * s) := by decide +kernel
theorem a_tl : ∀ s, s < 2 → ∀ p, p < 8 → (sI.2.2.2.1 (85 + 135 * s + 12 * p)).2 = 2048 ∧ (sI.2.2.2.1 (86 + 135 * s + 12 * p)).2 = 16 ∧ (sI.2.2.2.1 (94 + 135 * s + 12 * p)).2 = 256 := by decide +kernel
theorem a_pi : ∀ s, s < 2 → ∀ p, p < 8 → sI.1 (83 + 135 * s + 12 * p) 3 = nI p ∧ sI.1 (92 + 135 * s + 12 * p) 1 = nI 100 ∧ sI.1 (92 + 135 * s + 12 * p) 2 = 0 := by decide +kernel
theorem stI : Stc sI := ⟨a_kp, fun s p hs hp => a_pp s hs p hp, fun s c hs hc => a_sp s hs c hc, a_dp, fun s p hs hp => a_tl s hs p hp, fun s p hs hp => a_pi s hs p hp, by decide +kernel, by decide +kernel⟩
theorem a_47 : ∀ j, j < 8 → sI.1 47 (8 + j) = 0 := by decide +kernel
theorem a_sn : ∀ c, c < 16 → ∀ i, i < 16 → sI.1 (61 + c) i = 0 := by decide +kernel
theorem a_ur : ∀ c, c < 16 → sI.1 77 c = 0 := by decide +kernel
theorem a_dk : ∀ b, b < 64 → sI.1 42 b = 0 ∧ sI.2.2.1 43 b = some 33 := by decide +kernel
theorem a_30 : ∀ i, i < 10 → sI.1 30 i = 0 := by decide +kernel
theorem a_nm : ∀ op, op < 42 → 0 < op → sI.2.1 7 op = Int64.ofNat (enc 256 (opN op)) := by decide +kernel
theorem zI : zr sI := by
  have e : sI.1 = s13.1 := by unfold sI; rfl
  intro b hb j
  rw [e]; exact zr_13 b hb j
theorem phI (P : IniQ ρ) : phi 0 ρ = 3200 := by
  unfold phi phG
  simp only [P.z 61 (by decide) (by decide) (by decide) (by decide), P.z 69 (by decide) (by decide) (by decide) (by decide)]
  decide
theorem z0I (P : IniQ ρ) {j : Nat} (h : 21 < j ∧ j ≠ 41) : ρ.1 0 j = 0 := P.z0 j (by omega) (by omega) (by omega) (by omega) (by omega) (by omega) (by omega) (by omega)
theorem zcI (P : IniQ ρ) {c j : Nat} (h : 15 < c ∧ c ≠ 75) : ρ.1 c j = 0 := P.z c (by omega) (by omega) (by omega) (by omega) j
theorem rc_0 (P : IniQ ρ) : RC 0 sI ρ := by
  have f51 : ρ.1 0 51 = 0 := z0I P (by omega)
  have cf : wI.cf = 48 := rfl
  have np : wI.np = 0 := rfl
  have nc : wI.nc = 0 := rfl
  have ns : wI.ns = 0 := rfl
  have b47 : ∀ j, 8 ≤ j → j < 16 → sI.1 47 j = 0 := fun j h1 h2 => by
    have := a_47 (j - 8) (by omega)
    rw [show 8 + (j - 8) = j by omega] at this
    exact this
  have on : onF ρ = 0 := by unfold onF; rw [if_pos f51]
  refine ⟨wI, ?_⟩
  rw [on]
  refine ⟨?_, ?_, ?_, ?_, ?_, ?_, ?_, ?_, ?_, ?_, ?_⟩
  · exact teI P
  · exact stI
  · refine ⟨?_, ?_, ?_, ?_, ?_, ?_, ?_, ?_, ?_, ?_⟩
    · exact Or.inl rfl
    · exact ⟨by rw [np]; omega, by rw [cf, np]; decide +kernel, z0I P (by omega)⟩
    · exact ⟨by rw [nc]; omega, by rw [cf, nc]; decide +kernel, z0I P (by omega)⟩
    · exact ⟨by rw [ns]; omega, fun h => by rw [np] at h; omega, by rw [cf, ns]; decide +kernel, z0I P (by omega)⟩
    · intro p h; rw [np] at h; omega
    · intro p q h; rw [np] at h; omega
    · intro p q _ h; rw [np] at h; omega
    · intro p h; rw [nc] at h; omega
    · intro p h; rw [ns] at h; omega
    · intro _ _ _ _ h; rw [np] at h; omega
  · refine ⟨?_, ?_, ?_, ?_, ?_, ?_, ?_, ?_, ?_, ?_, ?_, ?_⟩
    · intro p h; rw [np] at h; omega
    · rw [cf]; decide +kernel
    · decide +kernel
    · exact ⟨0, by omega, b47 9 (by omega) (by omega), zcI P (by omega)⟩
    · exact ⟨0, 0, by omega, by omega, b47 10 (by omega) (by omega), zcI P (by omega), b47 11 (by omega) (by omega), zcI P (by omega), fun h => by rw [np] at h; omega⟩
    · rw [zcI P (by omega)]; exact b47 12 (by omega) (by omega)
    · exact ⟨0, by omega, b47 13 (by omega) (by omega), fun _ => z0I P (by omega), fun h => by omega⟩
    · intro c i hc hi; rw [zcI P (by omega)]; exact a_sn c hc i hi
    · intro c hc; rw [zcI P (by omega)]; exact ⟨a_ur c hc, Or.inl rfl⟩
    · intro c _ h; rw [np] at h; omega
    · intro b hb
      rw [zcI P (by omega), P.d _ (by omega)]
      exact ⟨(a_dk b hb).1, Or.inl ⟨(a_dk b hb).2, rfl⟩, fun _ => rfl⟩
    · intro h; omega
  · intro h; cases h
  · refine ⟨?_, ?_, ?_, ?_, ?_⟩
    · refine ⟨0, ⟨by omega, by decide +kernel, z0I P (by omega)⟩, fun j => ?_⟩
      rw [zcI P (by omega), zI 2 (by omega) j]; decide
    · refine ⟨0, ⟨by omega, by decide +kernel, z0I P (by omega)⟩, fun j => ?_⟩
      rw [zcI P (by omega), zI 18 (by omega) j]
    · intro i hi
      exact ⟨0, ⟨by omega, a_30 i hi, zcI P (by omega)⟩, fun j hj => by omega⟩
    · exact ⟨0, ⟨by omega, by decide +kernel, z0I P (by omega)⟩, fun j hj => by omega⟩
    · rw [P.f41]; decide +kernel
  · refine ⟨?_, ?_, ?_, ?_, ?_, ?_, ?_, ?_⟩
    · refine ⟨0, ?_⟩
      exact TabR.nil (e := 11) (by omega) (by decide) (by decide +kernel) (z0I P (by omega)) (by decide +kernel) (fun i _ => zI 40 (by omega) i)
    · decide +kernel
    · intro b _ h; rw [np] at h; omega
    · exact ⟨0, by omega, b47 15 (by omega) (by omega), z0I P (by omega), fun j hj => by omega, fun i j _ hj => by omega⟩
    · rw [f51]; exact ⟨b47 8 (by omega) (by omega), Or.inl rfl, fun h => absurd h (by decide)⟩
    · exact ⟨0, by decide +kernel, z0I P (by omega), by omega, 0, P.z0 18 (by omega) (by omega) (by omega) (by omega) (by omega) (by omega) (by omega) (by omega), by omega⟩
    · rw [z0I P (by omega)]; exact b47 14 (by omega) (by omega)
    · rw [cf]; decide +kernel
  · have ph := phI P
    have en : wI.N = 4 := rfl
    have el : wI.ts.length = 4 := rfl
    refine ⟨?_, ?_, ?_, ?_⟩
    · rw [ph, en, if_neg (by decide), KB_n]; omega
    · rw [ph, el, if_neg (by decide), KB_l]; omega
    · rw [el, KB_c]; decide +kernel
    · rw [el, KB_s]; decide +kernel
  · intro _; exact ⟨by decide, by decide⟩
  · intro op h1 h2
    obtain ⟨q1, q2, q3⟩ := P.nm op h1 h2
    exact ⟨a_nm op h2 h1, q1, q2, q3⟩
  · intro h; cases h
/-- BOTH ARE MADE ALIKE -/
theorem both_made : fc_X11_init 0 s0 = some s13 ∧ ∃ ρ, fq_init = some ρ ∧ RC 0 sI ρ := by
  obtain ⟨ρ, e, P⟩ := q_ini
  exact ⟨x11_i, ρ, e, rc_0 P⟩
end Z2_FD
