section Z2_ZD
variable {σ σ' σ1 : cl_S} {ρ ρ' ρ1 : rf_S} {x : Nat → Nat} {n c i m l u o : Nat} {pd : Option Bool}
/-! the class goes on after a fault -/
theorem FR.i82 {w : Int32} (h : FR σ1 σ ρ1 ρ c) : ∃ w', bc_X0_readInstruction_82 6 (nI o) w σ = some (w', σ) := by
  unfold bc_X0_readInstruction_82
  rw [h.val, bd2_eq, vl_eq]; exact ⟨_, rfl⟩
theorem FR.i64 {w : Int32} (h : FR σ1 σ ρ1 ρ c) (ho : o < 64) : ∃ w', bc_X0_readInstruction_64 6 (nI o) w σ = some (w', σ) := by
  unfold bc_X0_readInstruction_64
  rw [has_M ho, bd2_eq, has_D ho, bd2_eq, h.comma, bd1_eq]
  generalize (if 12 ≤ o ∧ o ≤ 38 then (1:Int32) else 0) = a
  generalize (if 1 ≤ o ∧ o ≤ 37 then (1:Int32) else 0) = b
  by_cases q : a = 0
  · rw [if_pos q]; exact ⟨_, rfl⟩
  rw [if_neg q]
  by_cases q : b = 0
  · rw [if_pos q]; exact h.i82
  · rw [if_neg q]; exact h.i82
theorem FR.i43 {w : Int32} (h : FR σ1 σ ρ1 ρ c) (ho : o < 64) : ∃ w', bc_X0_readInstruction_43 6 (nI o) w σ = some (w', σ) := by
  unfold bc_X0_readInstruction_43
  rw [has_B ho, bd2_eq, h.comma, bd1_eq, h.reg, bd2_eq, vl_eq]
  generalize (if 1 ≤ o ∧ o ≤ 11 then (1:Int32) else 0) = a
  by_cases q : a = 0
  · rw [if_pos q]; exact h.i64 ho
  · rw [if_neg q]; exact h.i64 ho
theorem FR.i22 {w : Int32} (h : FR σ1 σ ρ1 ρ c) (ho : o < 64) : ∃ w', bc_X0_readInstruction_22 6 (nI o) w σ = some (w', σ) := by
  unfold bc_X0_readInstruction_22
  rw [has_A ho, bd2_eq, h.comma, bd1_eq, h.reg, bd2_eq, vl_eq]
  generalize (if 1 ≤ o ∧ o ≤ 37 ∧ o ≠ 21 ∧ o ≠ 36 then (1:Int32) else 0) = a
  by_cases q : a = 0
  · rw [if_pos q]; exact h.i43 ho
  · rw [if_neg q]; exact h.i43 ho
/-- the outcome of a statement -/
def SO (σ1 : cl_S) (ρ1 : rf_S) (x : Nat → Nat) (n c i l : Nat) (A : Option cl_S) (B : Option rf_S) : Prop := ∃ σ' ρ', A = some σ' ∧ B = some ρ' ∧ ((∃ i' m' u', i ≤ i' ∧ PR σ1 ρ1 x n c i' m' l u' none σ' ρ') ∨ FR σ1 σ' ρ1 ρ' c)
theorem SO.mono {i' : Nat} {A : Option cl_S} {B : Option rf_S} (h : SO σ1 ρ1 x n c i' l A B) (hi : i ≤ i') : SO σ1 ρ1 x n c i l A B := by
  obtain ⟨σ', ρ', e1, e2, r⟩ := h
  exact ⟨σ', ρ', e1, e2, r.imp (fun ⟨j, m', u', hj, w⟩ => ⟨j, m', u', by omega, w⟩) id⟩
theorem SO.push {v : Int32} (h : PR σ1 ρ1 x n c i m l u pd σ ρ) (hm : m < 2048) (hv : pd = some true → v = 0) (hv' : pd = some false → v ≠ 0) : SO σ1 ρ1 x n c i l (bc_X0_readStatement_86 6 v σ) (bq_one_286 v ρ) := by
  obtain ⟨σ', ρ', e1, e2, R⟩ := h.push hm hv hv'
  exact ⟨σ', ρ', e1, e2, Or.inl ⟨_, _, _, Nat.le_refl _, R⟩⟩
theorem SO.fault {v w : Int32} (h : FR σ1 σ ρ1 ρ c) : SO σ1 ρ1 x n c i l (bc_X0_readStatement_86 6 v σ) (bq_one_286 w ρ) := ⟨σ, ρ, h.push, h.pushq, Or.inr h⟩
/-- what stands behind the first comma -/
theorem s_rest {w : Int32} (h : PR σ1 ρ1 x n c i m l u none σ ρ) (X : PX σ1 ρ1 x n c) (hm : m < 2048) (h1 : 1 ≤ o) (h37 : o ≤ 37) (hw : w ≠ 0) (A : Option (Int32 × cl_S))
    (hA : (o = 21 ∨ o = 36) → A = bc_X0_readInstruction_82 6 (nI o) w σ) (hB : ¬ (o = 21 ∨ o = 36) → A = bd2 (fc_X0_readRegister 6 σ) (fun r_68 σ_67 => vl (w ||| (r_68 <<< ((18:Int32) &&& 31))) (fun x2_73 => bc_X0_readInstruction_43 6 (nI o) x2_73 σ_67))) : SO σ1 ρ1 x n c i l (bd2 A (fun r_9 σ_8 => bc_X0_readStatement_86 6 r_9 σ_8)) (bd2 (fq_rest (nI o) ρ) (fun r_11 ρ_10 => vl (w ||| r_11) (fun x5_12 => bq_one_286 x5_12 ρ_10))) := by
  have ho : o < 64 := by omega
  have e : ∀ d, d < 64 → (nI o = nI d ↔ o = d) := fun d hd => eq_l ho hd
  have wn : ∀ b : Int32, w ||| b ≠ 0 := fun b q => hw (or_0 q)
  unfold fq_rest bq_rest_0
  by_cases c21 : o = 21
  · rw [if_pos (show nI o = (21:Int32) from (e 21 (by omega)).mpr c21), hA (Or.inl c21)]
    obtain ⟨v, σ', ρ', e1, e2, R⟩ := h.vnum X ho (Or.inl (by rw [c21]; decide))
    have el : loV o = 0 := by rw [c21]; rfl
    have eh : hiV o = 262143 := by rw [c21]; rfl
    rw [el, eh] at e2 R
    unfold bc_X0_readInstruction_82
    rw [e1, e2, bd2_eq, bd2_eq, vl_eq, bd2_eq, bd2_eq, vl_eq]
    rcases R with ⟨i', hi, R, b1, b2⟩ | ⟨-, R⟩
    · obtain ⟨a, a0, a1, rfl⟩ := L_rng (lo := 0) (hi := 262143) (by omega) (by omega) b1 b2
      rw [L_i32 (by omega), show nI a &&& (262143:Int32) = nI a by
        have := n_and (q := a) (k := 18) (by omega) (by omega)
        rw [show nI (2 ^ 18 - 1) = (262143:Int32) from rfl, Nat.mod_eq_of_lt (by omega)] at this
        exact this]
      exact (SO.push R hm (fun q => by cases q) (fun q => by cases q)).mono hi
    · exact SO.fault R
  rw [if_neg (show ¬ nI o = (21:Int32) from fun q => c21 ((e 21 (by omega)).mp q))]
  -- a way: a label or a number
  have way : ∀ {i σ ρ} (h : PR σ1 ρ1 x n c i m l u none σ ρ) (hl : tlb o = true) (n40 : o ≠ 40), ∃ v σ' ρ', fc_X0_readValue 6 (nI o) σ = some (v, σ') ∧ fq_wantsWay ρ = some (v, ρ') ∧ ((∃ i' pd, i ≤ i' ∧ pd ≠ some true ∧ PR σ1 ρ1 x n c i' m l u pd σ' ρ') ∨ FR σ1 σ' ρ1 ρ' c) := by
    intro i σ ρ h hl n40
    unfold fq_wantsWay bq_wantsWay_0
    obtain ⟨k1, k2⟩ := h.kd 2 (by omega)
    by_cases q : tK x n i = 2
    · rw [if_pos (show ρ.1 0 44 = (1:Int32) from k2.mpr q)]
      obtain ⟨σ', ρ', e1, e2, R⟩ := h.vlab (b := false) X ho hm hl q
      rw [show (0:Int32) = bI false from rfl, e1, e2, bd1_eq]
      exact ⟨0, σ', ρ', rfl, rfl, Or.inl ⟨_, _, Nat.le_succ _, fun w => (by cases w), R⟩⟩
    · rw [if_neg (show ¬ ρ.1 0 44 = (1:Int32) from fun w => q (k2.mp w))]
      obtain ⟨v, σ', ρ', e1, e2, R⟩ := h.vnum X ho (Or.inr q)
      have ob : 30 ≤ o ∧ o ≤ 36 := by unfold tlb at hl; simp at hl; omega
      have el : loV o = -131072 := by unfold loV; rw [if_neg (by omega), if_neg (by omega), if_neg (by omega), if_neg (by omega)]
      have eh : hiV o = 131071 := by unfold hiV; rw [if_neg (by omega), if_neg (by omega), if_neg (by omega)]
      rw [el, eh] at e2 R
      rw [e1, e2, bd2_eq]
      rcases R with ⟨i', hi, R, -⟩ | ⟨-, R⟩
      · exact ⟨v, σ', ρ', rfl, rfl, Or.inl ⟨i', none, hi, fun w => (by cases w), R⟩⟩
      · exact ⟨v, σ', ρ', rfl, rfl, Or.inr R⟩
  by_cases c36 : o = 36
  · rw [if_pos (show nI o = (36:Int32) from (e 36 (by omega)).mpr c36), hA (Or.inr c36)]
    obtain ⟨v, σ', ρ', e1, e2, R⟩ := way h (by rw [c36]; decide) (by omega)
    unfold bc_X0_readInstruction_82
    rw [e1, e2, bd2_eq, bd2_eq, vl_eq, bd2_eq, bd2_eq, vl_eq]
    rcases R with ⟨i', pd, hi, hp, R⟩ | R
    · exact (SO.push R hm (fun q => absurd q hp) (fun _ => wn _)).mono hi
    · exact SO.fault R
  rw [if_neg (show ¬ nI o = (36:Int32) from fun q => c36 ((e 36 (by omega)).mp q)), hB (by omega)]
  obtain ⟨ra, σ2, ρ2, e1, e2, R⟩ := h.reg X
  rw [e1, e2, bd2_eq, bd2_eq, vl_eq, vl_eq]
  rcases R with R | R
  rotate_left
  · obtain ⟨w', ew⟩ := R.i43 (o := o) (w := w ||| ra <<< ((18:Int32) &&& 31)) ho
    rw [if_neg R.nz.2.1]
    unfold bq_rest_52
    rw [if_neg R.nz.2.2, ew, bd2_eq, bd2_eq, vl_eq]
    exact SO.fault R
  rw [if_pos R.ft.2]
  obtain ⟨σ3, ρ3, e3, e4, R3⟩ := R.comma X
  rw [e4, bd1_eq]
  unfold bq_rest_52
  by_cases c11 : o ≤ 11
  · -- a third register
    have eq43 : bc_X0_readInstruction_43 6 (nI o) (w ||| ra <<< ((18:Int32) &&& 31)) σ2 = bd2 (fc_X0_readRegister 6 σ3) (fun r_54 σ_53 => vl ((w ||| ra <<< ((18:Int32) &&& 31)) ||| (r_54 <<< ((14:Int32) &&& 31))) (fun x2_59 => bc_X0_readInstruction_64 6 (nI o) x2_59 σ_53)) := by
      unfold bc_X0_readInstruction_43
      rw [has_B ho, bd2_eq, if_pos (show 1 ≤ o ∧ o ≤ 11 by omega), if_neg (by decide), e3, bd1_eq]
    have e64 : ∀ (w : Int32) (σ : cl_S), bc_X0_readInstruction_64 6 (nI o) w σ = some (w, σ) := by
      intro w σ
      unfold bc_X0_readInstruction_64
      rw [has_M ho, bd2_eq, if_neg (show ¬ (12 ≤ o ∧ o ≤ 38) by omega), if_pos rfl]
    rw [eq43]
    rcases R3 with R3 | R3
    rotate_left
    · rw [if_neg R3.nz.2.2, R3.reg, bd2_eq, vl_eq, e64, bd2_eq, bd2_eq, vl_eq]
      exact SO.fault R3
    obtain ⟨rb, σ4, ρ4, e5, e6, R4⟩ := R3.reg X
    rw [if_pos (show ρ3.1 0 39 ≤ 0 by rw [R3.ft.2]; exact Int32.le_refl _), if_neg (show ¬ (12:Int32) ≤ nI o from fun q => by have := (le_l (o := 12) (c := o) (by omega) ho).mp q; omega), e5, e6, bd2_eq, vl_eq, bd2_eq, e64, bd2_eq, bd2_eq, vl_eq, Int32.or_assoc]
    rcases R4 with R4 | R4
    · exact (SO.push R4 hm (fun q => by cases q) (fun q => by cases q)).mono (by omega)
    · exact SO.fault R4
  -- a value
  have eq43 : bc_X0_readInstruction_43 6 (nI o) (w ||| ra <<< ((18:Int32) &&& 31)) σ2 = bc_X0_readInstruction_82 6 (nI o) (w ||| ra <<< ((18:Int32) &&& 31)) σ3 := by
    unfold bc_X0_readInstruction_43 bc_X0_readInstruction_64
    rw [has_B ho, bd2_eq, if_neg (show ¬ (1 ≤ o ∧ o ≤ 11) by omega), if_pos rfl, has_M ho, bd2_eq, if_pos (show 12 ≤ o ∧ o ≤ 38 by omega), if_neg (by decide), has_D ho, bd2_eq, if_pos (show 1 ≤ o ∧ o ≤ 37 by omega), if_neg (by decide), e3, bd1_eq]
  rw [eq43]
  rcases R3 with R3 | R3
  rotate_left
  · obtain ⟨w', ew⟩ := R3.i82 (o := o) (w := w ||| ra <<< ((18:Int32) &&& 31))
    rw [if_neg R3.nz.2.2, ew, bd2_eq, bd2_eq, vl_eq]
    exact SO.fault R3
  rw [if_pos (show ρ3.1 0 39 ≤ 0 by rw [R3.ft.2]; exact Int32.le_refl _), if_pos (show (12:Int32) ≤ nI o from (le_l (o := 12) (c := o) (by omega) ho).mpr (by omega))]
  unfold bc_X0_readInstruction_82 bq_rest_97 bq_rest_107
  by_cases cw : 30 ≤ o ∧ o ≤ 35
  · rw [if_neg (show ¬ nI o < (30:Int32) from fun q => by have := (lt_l (c := 30) ho (by omega)).mp q; omega), if_neg (show ¬ (35:Int32) < nI o from fun q => by have := (lt_l (o := 35) (c := o) (by omega) ho).mp q; omega)]
    obtain ⟨v, σ4, ρ4, e5, e6, R4⟩ := way R3 (by unfold tlb; simp; omega) (by omega)
    rw [e5, e6, bd2_eq, vl_eq, bd2_eq, bd2_eq, bd2_eq, vl_eq, Int32.or_assoc]
    rcases R4 with ⟨i', pd, hi, hp, R4⟩ | R4
    · exact (SO.push R4 hm (fun q => absurd q hp) (fun _ => wn _)).mono (by omega)
    · exact SO.fault R4
  · have hl : tlb o = false := by
      unfold tlb; simp; omega
    obtain ⟨v, σ4, ρ4, e5, e6, R4⟩ := R3.vnum X ho (Or.inl hl)
    have el : loV o = -131072 := by unfold loV; rw [if_neg (by omega), if_neg (by omega), if_neg (by omega), if_neg (by omega)]
    have eh : hiV o = 131071 := by unfold hiV; rw [if_neg (by omega), if_neg (by omega), if_neg (by omega)]
    rw [el, eh] at e6
    rw [e5, e6, bd2_eq, vl_eq, bd2_eq, bd2_eq]
    have fin : SO σ1 ρ1 x n c i l (bc_X0_readStatement_86 6 ((w ||| ra <<< ((18:Int32) &&& 31)) ||| (v.toInt32 &&& (262143:Int32))) σ4) (bd2 (some ((ra <<< ((18:Int32) &&& 31)) ||| (v.toInt32 &&& (262143:Int32)), ρ4)) (fun r_11 ρ_10 => vl (w ||| r_11) (fun x5_12 => bq_one_286 x5_12 ρ_10))) := by
      rw [bd2_eq, vl_eq, Int32.or_assoc]
      rcases R4 with ⟨i', hi, R4, -⟩ | ⟨-, R4⟩
      · exact (SO.push R4 hm (fun q => by cases q) (fun q => by cases q)).mono (by omega)
      · exact SO.fault R4
    by_cases c30 : nI o < (30:Int32)
    · rw [if_pos c30]; exact fin
    · rw [if_neg c30, if_pos (show (35:Int32) < nI o from (lt_l (o := 35) (c := o) (by omega) ho).mpr (by
        have : ¬ o < 30 := fun w => c30 ((lt_l (c := 30) ho (by omega)).mpr w)
        omega))]
      exact fin
end Z2_ZD
