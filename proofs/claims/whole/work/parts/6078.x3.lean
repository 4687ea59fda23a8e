section Z2_X3
variable {σ σ' : cl_S} {ρ ρ' : rf_S}
variable {n T s : Nat} {h st : Nat → Nat} {L : Option Nat} {f : Nat → Int32} {i w : Nat} {D : Int32 → Prop}
theorem Fr3.trans {σ'' : cl_S} (a : Fr3 σ σ') (b : Fr3 σ' σ'') : Fr3 σ σ'' := ⟨fun d h1 h2 h3 => (b.1 d h1 h2 h3).trans (a.1 d h1 h2 h3), b.2.trans a.2⟩
/-- a statement's second way on -/
theorem c_f33 (C : CS n σ T s h st L) (hn : n ≤ 2048) (hi : i < n) (hM : Mof T h i) (S : Sf n (tgs f) (Mof T h) (Mof s st) L i D) (hD : ∀ y, y ∈ (if opw (f i) = 36 then [] else [nI i + (1:Int32)]) → D y) : ∃ σ' T' s' h' st' L' D', bc_X7_follow_33 15 (opw (f i)) (nI i + ofw (f i)) σ = some σ' ∧ CS n σ' T' s' h' st' L' ∧ Fr3 σ σ' ∧ s' + T = s + T' ∧ Sf n (tgs f) (Mof T' h') (Mof s' st') L' i D' ∧ (∀ y, y ∈ tgs f i → D' y) := by
  unfold bc_X7_follow_33
  have mem : ∀ y, y ∈ tgs f i ↔ y ∈ (if opw (f i) = 36 then [] else [nI i + (1:Int32)]) ∨ y ∈ (if opw (f i) < 30 then [] else if 36 < opw (f i) then [] else [nI i + ofw (f i)]) := fun y => List.mem_append
  by_cases c1 : opw (f i) < 30
  · rw [if_pos c1]
    refine ⟨σ, T, s, h, st, L, D, rfl, C, ⟨fun _ _ _ _ => rfl, rfl⟩, rfl, S, fun y hy => ?_⟩
    rcases (mem y).mp hy with q | q
    · exact hD y q
    · rw [if_pos c1] at q; cases q
  rw [if_neg c1]
  by_cases c2 : 36 < opw (f i)
  · rw [if_pos c2]
    refine ⟨σ, T, s, h, st, L, D, rfl, C, ⟨fun _ _ _ _ => rfl, rfl⟩, rfl, S, fun y hy => ?_⟩
    rcases (mem y).mp hy with q | q
    · exact hD y q
    · rw [if_neg c1, if_pos c2] at q; cases q
  rw [if_neg c2]
  have hx : nI i + ofw (f i) ∈ tgs f i := (mem _).mpr (Or.inr (by rw [if_neg c1, if_neg c2]; exact List.mem_singleton.mpr rfl))
  obtain ⟨σ', T', s', h', st', L', e, C', F, hs, R⟩ := C.reach hn (nI i + ofw (f i)) (tgs_b (by omega) hx)
  refine ⟨σ', T', s', h', st', L', _, by rw [e, bd1n], C', F, hs, S.step hM hx R, fun y hy => ?_⟩
  rcases (mem y).mp hy with q | q
  · exact Or.inr (hD y q)
  · rw [if_neg c1, if_neg c2] at q; exact Or.inl (List.mem_singleton.mp q)
/-- no statement is being followed -/
theorem Sf.rest {tg : Nat → List Int32} {M P : Nat → Prop} (S : Sf n tg M P L i D) (hD : ∀ y, y ∈ tg i → D y) : Sf n tg M P L n (fun _ => False) := by
  refine ⟨S.m, S.z, fun j hj hp hne y hy => ?_, fun y q => absurd q id, S.l⟩
  by_cases c : j = i
  · rw [c] at hy; exact S.d y (hD y hy)
  · exact S.c j hj hp c y hy
/-- a statement is taken off -/
theorem Sf.take {tg : Nat → List Int32} {M P P' : Nat → Prop} (S : Sf n tg M P L n (fun _ => False)) (hP : ∀ j, P j → j ≠ i → P' j) : Sf n tg M P' L i (fun _ => False) := by
  refine ⟨S.m, S.z, fun j hj hp hne y hy => ?_, fun y q => absurd q id, S.l⟩
  exact S.c j hj (fun q => hp (hP j q hne)) (by have := (S.m j hj).1; omega) y hy
theorem c_follow (C : CS n σ T s h st L) (hn : n ≤ 2048) (hi : i < n) (hM : Mof T h i) (S : Sf n (tgs f) (Mof T h) (Mof s st) L i (fun _ => False)) (hT : (σ.2.2.2.1 w).2 = 2048) (hw : ∀ k, k < n → σ.1 w k = f k) : ∃ σ' T' s' h' st' L', fc_X7_follow 15 (nI i) (some w) σ = some σ' ∧ CS n σ' T' s' h' st' L' ∧ Fr3 σ σ' ∧ s' + T = s + T' ∧ Sf n (tgs f) (Mof T' h') (Mof s' st') L' n (fun _ => False) := by
  have ii : ∀ {α : Type} (z : Option α), ix (nI i) 2048 z = z := fun z => n_ix (by omega) (by omega)
  have ci : (nI i).toNatClampNeg = i := n_cl (by omega)
  unfold fc_X7_follow bc_X7_follow_0
  rw [nnn, hT, ii, ci, hw i hi, vln, ii, vln]
  show ∃ σ' T' s' h' st' L', (if opw (f i) = (36:Int32) then bc_X7_follow_33 15 (opw (f i)) (nI i + ofw (f i)) σ else bd1 (fc_X7_reach 15 (nI i + (1:Int32)) σ) (fun σ_19 => bc_X7_follow_33 15 (opw (f i)) (nI i + ofw (f i)) σ_19)) = some σ' ∧ _
  by_cases c : opw (f i) = 36
  · rw [if_pos c]
    obtain ⟨σ', T', s', h', st', L', D', e, C', F, hs, S', hD⟩ := c_f33 C hn hi hM S (fun y hy => by rw [if_pos c] at hy; cases hy)
    exact ⟨σ', T', s', h', st', L', e, C', F, hs, S'.rest hD⟩
  · rw [if_neg c]
    have hx : nI i + (1:Int32) ∈ tgs f i := List.mem_append.mpr (Or.inl (by rw [if_neg c]; exact List.mem_singleton.mpr rfl))
    obtain ⟨σ1, T1, s1, h1, st1, L1, e1, C1, F1, hs1, R1⟩ := C.reach hn (nI i + 1) (tgs_b (by omega) hx)
    obtain ⟨σ', T', s', h', st', L', D', e, C', F, hs, S', hD⟩ := c_f33 C1 hn hi (R1.up i hM) (S.step hM hx R1) (fun y hy => by rw [if_neg c] at hy; exact Or.inl (List.mem_singleton.mp hy))
    exact ⟨σ', T', s', h', st', L', by rw [e1, bd1n]; exact e, C', F1.trans F, by omega, S'.rest hD⟩
/-- the class's search to its end -/
theorem c_search {x3 : Int32} (hn : n ≤ 2048) (hw0 : w ≠ 15 ∧ w ≠ 16 ∧ w ≠ 17) : ∀ m x (σ : cl_S) T s h st L, 2048 - x = m → x ≤ 2048 → CS n σ T s h st L → s + x = T → Sf n (tgs f) (Mof T h) (Mof s st) L n (fun _ => False) → (σ.2.2.2.1 w).2 = 2048 → (∀ k, k < n → σ.1 w k = f k) → ∃ σ' T' h' st' L' y, lp (fun z : (Int32 × cl_S) => lc_X7_leastBad_32 15 (some w) x3 z.1 z.2) (nI x, σ) = some (y, σ') ∧ CS n σ' T' 0 h' st' L' ∧ Fr3 σ σ' ∧ Sf n (tgs f) (Mof T' h') (Mof 0 st') L' n (fun _ => False) := by
  intro m
  induction m with
  | zero =>
    intro x σ T s h st L hm hx C hT S hl hw
    have x2 : x = 2048 := by omega
    subst x2
    have tn := pigeon n T h C.hn C.inj
    have s0 : s = 0 := by omega
    subst s0
    have e : lc_X7_leastBad_32 15 (some w) x3 (nI 2048) σ = some (.inr (nI 2048, σ)) := by
      unfold lc_X7_leastBad_32
      rw [if_pos (show (2048:Int32) ≤ nI 2048 from (n_le (a := 2048) (b := 2048) (by omega) (by omega)).mpr (by omega))]
    exact ⟨σ, T, h, st, L, _, lp_end (s := (nI 2048, σ)) e, C, ⟨fun _ _ _ _ => rfl, rfl⟩, S⟩
  | succ m ih =>
    intro x σ T s h st L hm hx C hT S hl hw
    have tn := pigeon n T h C.hn C.inj
    by_cases s0 : s = 0
    · subst s0
      have e : lc_X7_leastBad_32 15 (some w) x3 (nI x) σ = some (.inr (nI x, σ)) := by
        unfold lc_X7_leastBad_32
        rw [if_neg (show ¬ (2048:Int32) ≤ nI x from fun q => by have := (n_le (a := 2048) (b := x) (by omega) (by omega)).mp q; omega), C.n2, if_pos (show nI 0 ≤ (0:Int32) from (n_le (a := 0) (b := 0) (by omega) (by omega)).mpr (by omega))]
      exact ⟨σ, T, h, st, L, _, lp_end (s := (nI x, σ)) e, C, ⟨fun _ _ _ _ => rfl, rfl⟩, S⟩
    · obtain ⟨t, ht, et⟩ := C.sm (s - 1) (by omega)
      have hin : st (s - 1) < n := by rw [← et]; exact C.hn t ht
      have C1 : CS n (cl_w σ 15 2 (nI (s - 1))) T (s - 1) h st L := ⟨by rw [r_wk (by decide)]; exact C.n3, r_ws, by rw [r_wk (by decide)]; exact C.l4, C.lb, fun k hk => by rw [r_w (by decide)]; exact C.stk k (by omega), fun k hk => C.sm k (by omega), by rw [r_w (by decide)]; exact C.m1, by rw [r_w (by decide)]; exact C.m0, C.hn, C.inj, by have := C.ss; omega⟩
      have S1 : Sf n (tgs f) (Mof T h) (Mof (s - 1) st) L (st (s - 1)) (fun _ => False) := S.take (fun j ⟨k, q1, q2⟩ hne => ⟨k, by
        have : k ≠ s - 1 := fun e => hne (by rw [← q2, e])
        omega, q2⟩)
      obtain ⟨σ2, T2, s2, h2, st2, L2, e2, C2, F2, hs2, S2⟩ := c_follow (σ := cl_w σ 15 2 (nI (s - 1))) (w := w) C1 hn hin ⟨t, ht, et⟩ S1 hl (fun k hk => by rw [r_w hw0.1]; exact hw k hk)
      have e : lc_X7_leastBad_32 15 (some w) x3 (nI x) σ = some (.inl (nI (x + 1), σ2)) := by
        unfold lc_X7_leastBad_32
        simp only [Nat.reduceAdd]
        rw [if_neg (show ¬ (2048:Int32) ≤ nI x from fun q => by have := (n_le (a := 2048) (b := x) (by omega) (by omega)).mp q; omega), C.n2, if_neg (show ¬ nI s ≤ (0:Int32) from fun q => by have := (n_le (a := s) (b := 0) (by omega) (by omega)).mp q; omega), show nI s - (1:Int32) = nI (s - 1) from n_sub (a := s) (b := 1) (by omega), vln, r_ws, n_ix (show s - 1 < 2048 by omega) (by omega), n_cl (show s - 1 < 2147483648 by omega), r_w (by decide), C.stk (s - 1) (by omega), e2, bd1n, vln, show nI x + (1:Int32) = nI (x + 1) from n_add x 1]
      have Fw : Fr3 σ σ2 := Fr3.trans ⟨fun d h1 _ _ => r_w h1, rfl⟩ F2
      obtain ⟨σ', T', h', st', L', y, g1, g2, g3, g4⟩ := ih (x + 1) σ2 T2 s2 h2 st2 L2 (by omega) (by omega) C2 (by omega) S2 (by rw [Fw.2]; exact hl) (fun k hk => by rw [Fw.1 w hw0.1 hw0.2.1 hw0.2.2]; exact hw k hk)
      exact ⟨σ', T', h', st', L', y, by rw [lp_next (s := (nI x, σ)) e]; exact g1, g2, Fw.trans g3, g4⟩
end Z2_X3
