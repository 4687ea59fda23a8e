section Z2_X5
variable {σ σ' : cl_S} {ρ ρ' : rf_S}
variable {n T s : Nat} {h st : Nat → Nat} {L : Option Nat} {f : Nat → Int32} {i a p : Nat} {D : Int32 → Prop}
theorem q_f151 {x2 x5 x6 : Int32} (C : QS n ρ T h L) (hn : n ≤ 2048) (ha : a + 1 ≤ T) (hi : i < n) (hM : Mof T h i) (S : Sf n (tgs f) (Mof T h) (Pof (a + 1) T h) L i D) (hD : ∀ y, y ∈ (if opw (f i) = 36 then [] else [nI i + (1:Int32)]) → D y) : ∃ ρ' T' h' L' D', bq_safe_151i95 (nI p) x2 (nI n) (nI a) (nI i) (f i) (opw (f i)) ρ = some (.inl (nI (a + 1), ρ')) ∧ QS n ρ' T' h' L' ∧ Fq3 ρ ρ' ∧ T ≤ T' ∧ Sf n (tgs f) (Mof T' h') (Pof (a + 1) T' h') L' i D' ∧ (∀ y, y ∈ tgs f i → D' y) := by
  unfold bq_safe_151i95 bq_safe_178i95
  have mem : ∀ y, y ∈ tgs f i ↔ y ∈ (if opw (f i) = 36 then [] else [nI i + (1:Int32)]) ∨ y ∈ (if opw (f i) < 30 then [] else if 36 < opw (f i) then [] else [nI i + ofw (f i)]) := fun y => List.mem_append
  have t1 : nI a + (1:Int32) = nI (a + 1) := n_add a 1
  rw [vln, t1]
  by_cases c1 : opw (f i) < 30
  · rw [if_pos c1]
    refine ⟨ρ, T, h, L, D, rfl, C, ⟨fun _ _ _ _ => rfl, fun _ _ _ => rfl, rfl⟩, Nat.le_refl _, S, fun y hy => ?_⟩
    rcases (mem y).mp hy with q | q
    · exact hD y q
    · rw [if_pos c1] at q; cases q
  rw [if_neg c1]
  by_cases c2 : 36 < opw (f i)
  · rw [if_pos c2]
    refine ⟨ρ, T, h, L, D, rfl, C, ⟨fun _ _ _ _ => rfl, fun _ _ _ => rfl, rfl⟩, Nat.le_refl _, S, fun y hy => ?_⟩
    rcases (mem y).mp hy with q | q
    · exact hD y q
    · rw [if_neg c1, if_pos c2] at q; cases q
  rw [if_neg c2]
  have hx : nI i + ofw (f i) ∈ tgs f i := (mem _).mpr (Or.inr (by rw [if_neg c1, if_neg c2]; exact List.mem_singleton.mpr rfl))
  obtain ⟨ρ', T', h', L', e, C', F, hT, R, -⟩ := C.reach hn ha (nI i + ofw (f i)) (tgs_b (by omega) hx)
  refine ⟨ρ', T', h', L', _, ?_, C', F, hT, S.step hM hx R, fun y hy => ?_⟩
  · rw [show fq_signed (f i) ρ = some (ofw (f i), ρ) from rfl, bd2n, e, bd1n, vln]
  · rcases (mem y).mp hy with q | q
    · exact Or.inr (hD y q)
    · rw [if_neg c1, if_neg c2] at q; exact Or.inl (List.mem_singleton.mp q)
theorem q_node {x2 : Int32} (C : QS n ρ T h L) (hn : n ≤ 2048) (hp : p < 8) (ha : a < T) (S : Sf n (tgs f) (Mof T h) (Pof a T h) L n (fun _ => False)) (hw : ∀ k, k < n → ρ.1 26 (2048 * p + k) = f k) : ∃ ρ' T' h' L', lq_safe_95 (nI p) x2 (nI n) (nI a) ρ = some (.inl (nI (a + 1), ρ')) ∧ QS n ρ' T' h' L' ∧ Fq3 ρ ρ' ∧ T ≤ T' ∧ Sf n (tgs f) (Mof T' h') (Pof (a + 1) T' h') L' n (fun _ => False) := by
  have tn := pigeon n T h C.hn C.inj
  have hi := C.hn a ha
  have hM : Mof T h (h a) := ⟨a, ha, rfl⟩
  have S1 : Sf n (tgs f) (Mof T h) (Pof (a + 1) T h) L (h a) (fun _ => False) := S.take (fun j ⟨k, q0, q1, q2⟩ hne => ⟨k, by
    have : k ≠ a := fun e => hne (by rw [← q2, e])
    omega, q1, q2⟩)
  have t2 : (2048:Int32) * nI p + nI (h a) = nI (2048 * p + h a) := by rw [show (2048:Int32) = nI 2048 from rfl, n_mul, n_add]
  unfold lq_safe_95
  rw [C.n3, if_neg (fun q => by have := (n_le (by omega) (by omega)).mp q; omega), n_ix (show a < 4100 by omega) (by omega), n_cl (show a < 2147483648 by omega), C.stk a ha, vln, t2, n_ix (show 2048 * p + h a < 17000 by omega) (by omega), n_cl (show 2048 * p + h a < 2147483648 by omega), hw (h a) hi, vln, vln]
  show ∃ ρ' T' h' L', (if opw (f (h a)) = (36:Int32) then bq_safe_151i95 (nI p) x2 (nI n) (nI a) (nI (h a)) (f (h a)) (opw (f (h a))) ρ else bd1 (fq_reach (nI (h a) + (1:Int32)) (nI n) ρ) (fun ρ_14 => bq_safe_151i95 (nI p) x2 (nI n) (nI a) (nI (h a)) (f (h a)) (opw (f (h a))) ρ_14)) = some (.inl (nI (a + 1), ρ')) ∧ _
  by_cases c : opw (f (h a)) = 36
  · rw [if_pos c]
    obtain ⟨ρ', T', h', L', D', e, C', F, hT, S', hD⟩ := q_f151 (p := p) (x2 := x2) (x5 := 0) (x6 := 0) C hn ha hi hM S1 (fun y hy => by rw [if_pos c] at hy; cases hy)
    exact ⟨ρ', T', h', L', e, C', F, hT, S'.rest hD⟩
  · rw [if_neg c]
    have hx : nI (h a) + (1:Int32) ∈ tgs f (h a) := List.mem_append.mpr (Or.inl (by rw [if_neg c]; exact List.mem_singleton.mpr rfl))
    obtain ⟨ρ1, T1, h1, L1, e1, C1, F1, hT1, R1, -⟩ := C.reach hn ha (nI (h a) + 1) (tgs_b (by omega) hx)
    obtain ⟨ρ', T', h', L', D', e, C', F, hT, S', hD⟩ := q_f151 (p := p) (x2 := x2) (x5 := 0) (x6 := 0) C1 hn (Nat.le_trans ha hT1) hi (R1.up _ hM) (S1.step hM hx R1) (fun y hy => by rw [if_neg c] at hy; exact Or.inl (List.mem_singleton.mp hy))
    exact ⟨ρ', T', h', L', by rw [e1, bd1n]; exact e, C', F1.trans F, Nat.le_trans hT1 hT, S'.rest hD⟩
/-- the reference's search to its end -/
theorem q_search {x2 : Int32} (hn : n ≤ 2048) (hp : p < 8) : ∀ m a (ρ : rf_S) T h L, n - a = m → a ≤ T → QS n ρ T h L → Sf n (tgs f) (Mof T h) (Pof a T h) L n (fun _ => False) → (∀ k, k < n → ρ.1 26 (2048 * p + k) = f k) → ∃ ρ' T' h' L' y, lp (fun z : (Int32 × rf_S) => lq_safe_95 (nI p) x2 (nI n) z.1 z.2) (nI a, ρ) = some (y, ρ') ∧ QS n ρ' T' h' L' ∧ Fq3 ρ ρ' ∧ Sf n (tgs f) (Mof T' h') (Pof T' T' h') L' n (fun _ => False) := by
  have fin : ∀ a (ρ : rf_S) T h L, a = T → QS n ρ T h L → Sf n (tgs f) (Mof T h) (Pof a T h) L n (fun _ => False) → ∃ ρ' T' h' L' y, lp (fun z : (Int32 × rf_S) => lq_safe_95 (nI p) x2 (nI n) z.1 z.2) (nI a, ρ) = some (y, ρ') ∧ QS n ρ' T' h' L' ∧ Fq3 ρ ρ' ∧ Sf n (tgs f) (Mof T' h') (Pof T' T' h') L' n (fun _ => False) := by
    intro a ρ T h L e C S
    subst e
    have tn := pigeon n a h C.hn C.inj
    have e : lq_safe_95 (nI p) x2 (nI n) (nI a) ρ = some (.inr (nI a, ρ)) := by
      unfold lq_safe_95
      rw [C.n3, if_pos ((n_le (by omega) (by omega)).mpr (Nat.le_refl _))]
    exact ⟨ρ, a, h, L, _, lp_end (s := (nI a, ρ)) e, C, ⟨fun _ _ _ _ => rfl, fun _ _ _ => rfl, rfl⟩, S⟩
  intro m
  induction m with
  | zero =>
    intro a ρ T h L hm ha C S hw
    have tn := pigeon n T h C.hn C.inj
    exact fin a ρ T h L (by omega) C S
  | succ m ih =>
    intro a ρ T h L hm ha C S hw
    by_cases c : a = T
    · exact fin a ρ T h L c C S
    · obtain ⟨ρ1, T1, h1, L1, e1, C1, F1, hT1, S1⟩ := q_node (x2 := x2) C hn hp (by omega) S hw
      obtain ⟨ρ', T', h', L', y, g1, g2, g3, g4⟩ := ih (a + 1) ρ1 T1 h1 L1 (by omega) (by omega) C1 S1 (fun k hk => by rw [F1.1 26 (by decide) (by decide) (by decide)]; exact hw k hk)
      exact ⟨ρ', T', h', L', y, by rw [lp_next (s := (nI a, ρ)) e1]; exact g1, g2, F1.trans g3, g4⟩
end Z2_X5
