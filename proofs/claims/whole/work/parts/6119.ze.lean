section Z2_ZE
variable {σ σ' σ1 : cl_S} {ρ ρ' ρ1 : rf_S} {x : Nat → Nat} {n c i m l u o : Nat} {pd : Option Bool}
/-- an instruction -/
theorem s_instr (h : PR σ1 ρ1 x n c i m l u none σ ρ) (X : PX σ1 ρ1 x n c) (hm : m < 2048) (h1 : 1 ≤ o) (h39 : o ≤ 39) : SO σ1 ρ1 x n c i l (bd2 (fc_X0_readInstruction 6 (nI o) σ) (fun r_9 σ_8 => bc_X0_readStatement_86 6 r_9 σ_8)) (bq_one_172 (nI o) (nI o <<< ((26:Int32) &&& 31)) ρ) := by
  have ho : o < 64 := by omega
  have e : ∀ d, d < 64 → (nI o = nI d ↔ o = d) := fun d hd => eq_l ho hd
  have on := op_nz o ho h1
  unfold fc_X0_readInstruction bc_X0_readInstruction_0 bq_one_172
  rw [vl_eq, has_D ho, bd2_eq, if_neg (show ¬ nI o = (40:Int32) from fun q => by have := (e 40 (by omega)).mp q; omega)]
  by_cases c38 : 38 ≤ o
  · rw [if_neg (show ¬ (1 ≤ o ∧ o ≤ 37) by omega), if_pos rfl, if_pos (show (38:Int32) ≤ nI o from (le_l (o := 38) (c := o) (by omega) ho).mpr c38)]
    unfold bc_X0_readInstruction_22 bc_X0_readInstruction_43 bc_X0_readInstruction_64
    rw [has_A ho, bd2_eq, if_neg (show ¬ (1 ≤ o ∧ o ≤ 37 ∧ o ≠ 21 ∧ o ≠ 36) by omega), if_pos rfl, has_B ho, bd2_eq, if_neg (show ¬ (1 ≤ o ∧ o ≤ 11) by omega), if_pos rfl, has_M ho, bd2_eq]
    by_cases c8 : o = 38
    · rw [if_pos (show 12 ≤ o ∧ o ≤ 38 by omega), if_neg (by decide), has_D ho, bd2_eq, if_neg (show ¬ (1 ≤ o ∧ o ≤ 37) by omega), if_pos rfl, if_pos (show nI o = (38:Int32) from (e 38 (by omega)).mpr c8)]
      unfold bc_X0_readInstruction_82
      obtain ⟨v, σ', ρ', e1, e2, R⟩ := h.vnum X ho (Or.inl (by rw [c8]; decide))
      have el : loV o = 0 := by rw [c8]; rfl
      have eh : hiV o = 131071 := by rw [c8]; rfl
      rw [el, eh] at e2 R
      rw [e1, e2, bd2_eq, vl_eq, bd2_eq, bd2_eq, vl_eq]
      rcases R with ⟨i', hi, R, b1, b2⟩ | ⟨-, R⟩
      · obtain ⟨a, a0, a1, rfl⟩ := L_rng (lo := 0) (hi := 131071) (by omega) (by omega) b1 b2
        rw [L_i32 (by omega), show nI a &&& (262143:Int32) = nI a by
          have := n_and (q := a) (k := 18) (by omega) (by omega)
          rw [show nI (2 ^ 18 - 1) = (262143:Int32) from rfl, Nat.mod_eq_of_lt (by omega)] at this
          exact this]
        exact (SO.push R hm (fun q => by cases q) (fun q => by cases q)).mono hi
      · exact SO.fault R
    · rw [if_neg (show ¬ (12 ≤ o ∧ o ≤ 38) by omega), if_pos rfl, if_neg (show ¬ nI o = (38:Int32) from fun q => c8 ((e 38 (by omega)).mp q)), bd2_eq]
      exact SO.push h hm (fun q => by cases q) (fun q => by cases q)
  rw [if_pos (show 1 ≤ o ∧ o ≤ 37 by omega), if_neg (by decide), if_neg (show ¬ (38:Int32) ≤ nI o from fun q => c38 ((le_l (o := 38) (c := o) (by omega) ho).mp q))]
  obtain ⟨rd, σ2, ρ2, e1, e2, R⟩ := h.reg X
  rw [e1, e2, bd2_eq, bd2_eq, vl_eq, vl_eq]
  rcases R with R | R
  rotate_left
  · obtain ⟨w', ew⟩ := R.i22 (o := o) (w := nI o <<< ((26:Int32) &&& 31) ||| rd <<< ((22:Int32) &&& 31)) ho
    unfold bq_one_244
    rw [if_neg R.nz.2.1, if_neg R.nz.2.1, ew, bd2_eq]
    exact SO.fault R
  rw [if_pos R.ft.2]
  have wn : nI o <<< ((26:Int32) &&& 31) ||| rd <<< ((22:Int32) &&& 31) ≠ 0 := fun q => on (or_0 q)
  generalize nI o <<< ((26:Int32) &&& 31) ||| rd <<< ((22:Int32) &&& 31) = w at *
  obtain ⟨σ3, ρ3, e3, e4, R3⟩ := R.comma X
  rw [e4, bd1_eq]
  unfold bq_one_244
  have eA : (o = 21 ∨ o = 36) → bc_X0_readInstruction_22 6 (nI o) w σ2 = bc_X0_readInstruction_82 6 (nI o) w σ3 := by
    intro q
    unfold bc_X0_readInstruction_22 bc_X0_readInstruction_43 bc_X0_readInstruction_64
    rw [has_A ho, bd2_eq, if_neg (show ¬ (1 ≤ o ∧ o ≤ 37 ∧ o ≠ 21 ∧ o ≠ 36) by omega), if_pos rfl, has_B ho, bd2_eq, if_neg (show ¬ (1 ≤ o ∧ o ≤ 11) by omega), if_pos rfl, has_M ho, bd2_eq, if_pos (show 12 ≤ o ∧ o ≤ 38 by omega), if_neg (by decide), has_D ho, bd2_eq, if_pos (show 1 ≤ o ∧ o ≤ 37 by omega), if_neg (by decide), e3, bd1_eq]
  have eB : ¬ (o = 21 ∨ o = 36) → bc_X0_readInstruction_22 6 (nI o) w σ2 = bd2 (fc_X0_readRegister 6 σ3) (fun r_68 σ_67 => vl (w ||| (r_68 <<< ((18:Int32) &&& 31))) (fun x2_73 => bc_X0_readInstruction_43 6 (nI o) x2_73 σ_67)) := by
    intro q
    unfold bc_X0_readInstruction_22
    rw [has_A ho, bd2_eq, if_pos (show 1 ≤ o ∧ o ≤ 37 ∧ o ≠ 21 ∧ o ≠ 36 by omega), if_neg (by decide), e3, bd1_eq]
  rcases R3 with R3 | R3
  · rw [if_pos R3.ft.2]
    exact (s_rest R3 X hm h1 (by omega) wn _ eA eB).mono (by omega)
  · rw [if_neg R3.nz.2.1]
    have : ∃ w', bc_X0_readInstruction_22 6 (nI o) w σ2 = some (w', σ3) := by
      by_cases q : o = 21 ∨ o = 36
      · rw [eA q]; exact R3.i82
      · rw [eB q, R3.reg, bd2_eq, vl_eq]; exact R3.i43 ho
    obtain ⟨w', ew⟩ := this
    rw [ew, bd2_eq]
    exact SO.fault R3
/-- the statement word -/
theorem s_word (h : PR σ1 ρ1 x n c i m l u none σ ρ) (X : PX σ1 ρ1 x n c) (hm : m < 2048) : SO σ1 ρ1 x n c i l (bd2 (fc_X0_readValue 6 (40:Int32) σ) (fun r_26 σ_25 => bc_X0_readStatement_86 6 (r_26.toInt32) σ_25)) (bq_one_172 (40:Int32) (0:Int32) ρ) := by
  unfold bq_one_172
  rw [if_pos rfl]
  obtain ⟨k1, k2⟩ := h.kd 2 (by omega)
  by_cases q : tK x n i = 2
  · rw [if_pos (show ρ.1 0 44 = (1:Int32) from k2.mpr q)]
    obtain ⟨σ', ρ', e1, e2, R⟩ := h.vlab (o := 40) (b := true) X (by omega) hm (by decide) q
    rw [show (1:Int32) = bI true from rfl, show (40:Int32) = nI 40 from rfl, e1, e2, bd2_eq, bd1_eq]
    exact (SO.push R hm (fun _ => rfl) (fun q => by cases q)).mono (by omega)
  · rw [if_neg (show ¬ ρ.1 0 44 = (1:Int32) from fun w => q (k2.mp w))]
    obtain ⟨v, σ', ρ', e1, e2, R⟩ := h.vnum (o := 40) X (by omega) (Or.inr q)
    rw [show loV 40 = -2147483648 from rfl, show hiV 40 = 4294967295 from rfl] at e2 R
    rw [show (40:Int32) = nI 40 from rfl, e1, e2, bd2_eq, bd2_eq, vl_eq]
    rcases R with ⟨i', hi, R, b1, b2⟩ | ⟨-, R⟩
    · exact (SO.push R hm (fun q => by cases q) (fun q => by cases q)).mono hi
    · exact SO.fault R
/-- making room: the reference -/
theorem q_room {a : Nat} (h30 : ρ.1 0 30 = nI m) (h39 : ρ.1 0 39 = 0) (ha : m + a ≤ 2048) : ∃ ρ', bq_one_112 (nI a) ρ = some ρ' ∧ ρ'.1 0 30 = nI (m + a) ∧ (∀ j, j ≠ 30 → ρ'.1 0 j = ρ.1 0 j) ∧ (∀ d, d ≠ 0 → d ≠ 18 → ρ'.1 d = ρ.1 d) ∧ (∀ j, j < m → ρ'.1 18 j = ρ.1 18 j) ∧ (∀ j, m ≤ j → j < m + a → ρ'.1 18 j = 0) ∧ ρ'.2 = ρ.2 := by
  obtain ⟨ρ', e, k⟩ := lp_cnt (S := rf_S) (f := fun x6 ρ => lq_one_115 (nI a) x6 ρ) (n := a) (fun i ρ' => ρ'.1 0 30 = nI (m + i) ∧ (∀ j, j ≠ 30 → ρ'.1 0 j = ρ.1 0 j) ∧ (∀ d, d ≠ 0 → d ≠ 18 → ρ'.1 d = ρ.1 d) ∧ (∀ j, j < m → ρ'.1 18 j = ρ.1 18 j) ∧ (∀ j, m ≤ j → j < m + i → ρ'.1 18 j = 0) ∧ ρ'.2 = ρ.2) (fun i ρ' hi ⟨a1, a2, a3, a4, a5, a6⟩ => by
    refine ⟨rf_w (rf_w ρ' 18 (m + i) (0:Int32)) 0 30 (nI (m + i + 1)), ?_, q_ws, fun j hj => by rw [q_wk hj, q_w (by decide)]; exact a2 j hj, fun d h0 h18 => by rw [q_w h0, q_w h18]; exact a3 d h0 h18, fun j hj => by rw [q_w (by decide), q_wk (by omega)]; exact a4 j hj, fun j h1 h2 => ?_, a6⟩
    · show lq_one_115 (nI a) (nI i) ρ' = _
      unfold lq_one_115
      rw [if_neg (fun q => by have := (n_le (by omega) (by omega)).mp q; omega), if_pos (by rw [a2 39 (by decide)]; exact h39), a1, n_ix (show m + i < 2048 by omega) (by omega), vl_eq, vl_eq, vl_eq, n_cl (show m + i < 2147483648 by omega), q_w (show 0 ≠ 18 by decide), a1, show nI (m + i) + (1:Int32) = nI (m + i + 1) from n_add _ 1, show nI i + (1:Int32) = nI (i + 1) from n_add i 1]
    · rw [q_w (by decide)]
      by_cases c : j = m + i
      · rw [c, q_ws]
      · rw [q_wk c]; exact a5 j h1 (by omega)) (fun ρ' _ => by
    show lq_one_115 (nI a) (nI a) ρ' = _
    unfold lq_one_115
    rw [if_pos (Int32.le_refl _)]) a 0 ρ (by omega) (by omega) ⟨h30, fun _ _ => rfl, fun _ _ _ => rfl, fun _ _ => rfl, fun j h1 h2 => absurd h2 (by omega), rfl⟩
  refine ⟨ρ', ?_, k⟩
  unfold bq_one_112 bq_one_115
  rw [show lp (fun z : (Int32 × rf_S) => lq_one_115 (nI a) z.1 z.2) ((0:Int32), ρ) = _ from e, Option.bind_some]
  rfl
theorem q_room0 {a : Int32} (h39 : ¬ ρ.1 0 39 = 0) : bq_one_112 a ρ = some ρ := by
  unfold bq_one_112 bq_one_115
  have : lp (fun z : (Int32 × rf_S) => lq_one_115 a z.1 z.2) ((0:Int32), ρ) = some ((0:Int32), ρ) := by
    refine lp_end (s := ((0:Int32), ρ)) ?_
    show lq_one_115 a (0:Int32) ρ = _
    unfold lq_one_115
    by_cases q : a ≤ 0
    · rw [if_pos q]
    · rw [if_neg q, if_neg h39]
  rw [this, Option.bind_some]
  rfl
end Z2_ZE
