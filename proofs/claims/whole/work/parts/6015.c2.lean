section Z2_C2
theorem res_eq {o : Nat} (h : 1 ≤ o ∧ o ≤ 11) (x y : Int32) (σ : cl_S) (ρ : rf_S) : ∃ v, fc_X2_result (nI o) x y σ = some (v, σ) ∧ fq_reckon (nI o) x y ρ = some (v, ρ) := by
  unfold fc_X2_result bc_X2_result_0 bc_X2_result_116 bc_X2_result_123 bc_X2_result_130 bc_X2_result_137 bc_X2_result_148 fc_X2_isBelow bc_X2_isBelow_0 fq_reckon bq_reckon_0
  have q : o = 1 ∨ o = 2 ∨ o = 3 ∨ o = 4 ∨ o = 5 ∨ o = 6 ∨ o = 7 ∨ o = 8 ∨ o = 9 ∨ o = 10 ∨ o = 11 := by omega
  have z1 : ¬ (1:Int32) = 0 := by decide
  rcases q with rfl | rfl | rfl | rfl | rfl | rfl | rfl | rfl | rfl | rfl | rfl
  all_goals simp (decide := true) only [if_true, if_false, reduceIte]
  iterate 8 (· exact ⟨_, rfl, rfl⟩)
  · by_cases q : y ≤ x
    · exact ⟨0, by rw [if_pos q], by rw [if_pos q]⟩
    · exact ⟨1, by rw [if_neg q], by rw [if_neg q]⟩
  · by_cases q : y + (-2147483648:Int32) ≤ x + (-2147483648:Int32)
    · exact ⟨0, by rw [if_pos q, bd2_eq, if_pos rfl], by rw [if_pos q]⟩
    · exact ⟨1, by rw [if_neg q, bd2_eq, if_neg z1], by rw [if_neg q]⟩
  · exact ⟨_, rfl, rfl⟩
theorem res_eq2 {o : Nat} (h : 12 ≤ o ∧ o ≤ 20) (x y : Int32) (σ : cl_S) (ρ : rf_S) : ∃ v u, fq_plainOf (nI o) ρ = some (u, ρ) ∧ fc_X2_result (nI o) x y σ = some (v, σ) ∧ fq_reckon u x y ρ = some (v, ρ) := by
  have key : ∀ e, 1 ≤ e ∧ e ≤ 11 → fq_plainOf (nI o) ρ = some (nI e, ρ) → fc_X2_result (nI o) x y σ = fc_X2_result (nI e) x y σ → ∃ v u, fq_plainOf (nI o) ρ = some (u, ρ) ∧ fc_X2_result (nI o) x y σ = some (v, σ) ∧ fq_reckon u x y ρ = some (v, ρ) := by
    intro e he h1 h2
    obtain ⟨v, e1, e2⟩ := res_eq he x y σ ρ
    exact ⟨v, nI e, h1, h2.trans e1, e2⟩
  have q : o = 12 ∨ o = 13 ∨ o = 14 ∨ o = 15 ∨ o = 16 ∨ o = 17 ∨ o = 18 ∨ o = 19 ∨ o = 20 := by omega
  unfold fc_X2_result bc_X2_result_0 fq_plainOf bq_plainOf_0 at key
  unfold fc_X2_result bc_X2_result_0 fq_plainOf bq_plainOf_0
  have d : ∀ a b, b ≤ a → nI a - nI b = nI (a - b) := fun a b h => n_sub h
  have d13 : nI 13 - (10:Int32) = nI 3 := d 13 10 (by omega)
  have d14 : nI 14 - (10:Int32) = nI 4 := d 14 10 (by omega)
  have d15 : nI 15 - (10:Int32) = nI 5 := d 15 10 (by omega)
  have d16 : nI 16 - (10:Int32) = nI 6 := d 16 10 (by omega)
  have d17 : nI 17 - (10:Int32) = nI 7 := d 17 10 (by omega)
  have d18 : nI 18 - (10:Int32) = nI 8 := d 18 10 (by omega)
  have d19 : nI 19 - (10:Int32) = nI 9 := d 19 10 (by omega)
  have d20 : nI 20 - (10:Int32) = nI 10 := d 20 10 (by omega)
  rcases q with rfl | rfl | rfl | rfl | rfl | rfl | rfl | rfl | rfl
  · exact key 1 (by omega) (by simp (decide := true) only [if_true, if_false, reduceIte]; rfl) (by simp (decide := true) only [if_true, if_false, reduceIte])
  · exact key 3 (by omega) (by simp (decide := true) only [if_true, if_false, reduceIte, d13]) (by simp (decide := true) only [if_true, if_false, reduceIte])
  · exact key 4 (by omega) (by simp (decide := true) only [if_true, if_false, reduceIte, d14]) (by simp (decide := true) only [if_true, if_false, reduceIte])
  · exact key 5 (by omega) (by simp (decide := true) only [if_true, if_false, reduceIte, d15]) (by simp (decide := true) only [if_true, if_false, reduceIte])
  · exact key 6 (by omega) (by simp (decide := true) only [if_true, if_false, reduceIte, d16]) (by simp (decide := true) only [if_true, if_false, reduceIte])
  · exact key 7 (by omega) (by simp (decide := true) only [if_true, if_false, reduceIte, d17]) (by simp (decide := true) only [if_true, if_false, reduceIte])
  · exact key 8 (by omega) (by simp (decide := true) only [if_true, if_false, reduceIte, d18]) (by simp (decide := true) only [if_true, if_false, reduceIte])
  · exact key 9 (by omega) (by simp (decide := true) only [if_true, if_false, reduceIte, d19]) (by simp (decide := true) only [if_true, if_false, reduceIte])
  · exact key 10 (by omega) (by simp (decide := true) only [if_true, if_false, reduceIte, d20]) (by simp (decide := true) only [if_true, if_false, reduceIte])
variable {W : Wd} {s p : Nat} {σ σ' : cl_S} {ρ ρ' : rf_S}
/-- the place after an instruction -/
theorem c_fin {σ0 : cl_S} {ρ0 : rf_S} (h : Ctx W s p σ ρ) (F : CoF W s p σ0 σ ρ0 ρ) {v : Int32} (hv : ρ.1 0 121 = v) : Sim (some (cl_w σ (84 + 135 * s + 12 * p) 3 v)) (bq_step_522 ρ) (CoO W s p σ0 ρ0) := by
  rw [c_522 h, hv]
  have h1 := h.fl (f := 3) (by omega) v
  exact Sim.mk ⟨h1.1, F.trans h1.2⟩
theorem c_reckon {o d ra : Nat} {w m pc : Int32} (h : Ctx W s p σ ρ) (ho : 1 ≤ o ∧ o ≤ 21) (hd : d < 16) (hra : ra < 16) (ed : ((w.toUInt32 >>> ((22:Int32).toUInt32 &&& Int32.toUInt32 31)).toInt32) &&& (15:Int32) = nI d) (era : ((w.toUInt32 >>> ((18:Int32).toUInt32 &&& Int32.toUInt32 31)).toInt32) &&& (15:Int32) = nI ra) (epc : σ.1 (84 + 135 * s + 12 * p) 3 = pc) (ej : ρ.1 0 121 = pc + 4) :
    Sim (fc_X2_reckon (84 + 135 * s + 12 * p) w (nI o) m σ) (bq_step_183 (nI p) pc w (nI o) (nI d) (nI ra) m ρ) (CoO W s p σ ρ) := by
  have k11 : ∀ o', o' < 100 → ((11:Int32) < nI o' ↔ 11 < o') := fun o' h' => by rw [show (11:Int32) = nI 11 from rfl, n_lt (by omega) (by omega)]
  have k12 : ∀ o', o' < 100 → ((12:Int32) ≤ nI o' ↔ 12 ≤ o') := fun o' h' => by rw [show (12:Int32) = nI 12 from rfl, n_le (by omega) (by omega)]
  have k21 : ∀ o', o' < 100 → ((21:Int32) ≤ nI o' ↔ 21 ≤ o') := fun o' h' => by rw [show (21:Int32) = nI 21 from rfl, n_le (by omega) (by omega)]
  have k21' : ∀ o', o' < 100 → (nI o' = (21:Int32) ↔ o' = 21) := fun o' h' => by rw [show (21:Int32) = nI 21 from rfl, n_eq (by omega) (by omega)]
  have fin : ∀ v : Int32, Sim (bc_X2_reckon_70 (84 + 135 * s + 12 * p) (some (84 + 135 * s + 12 * p)) (nI d) v σ) (bd1 (fq_give (nI d) v ρ) (fun ρ_54 => bq_step_522 ρ_54)) (CoO W s p σ ρ) := by
    intro v
    obtain ⟨σ1, ρ1, e1, e2, h1, F1, e3, e4⟩ := c_write h hd v
    unfold bc_X2_reckon_70
    rw [nn_eq, e1, bd1_eq, vl_eq, e2, bd1_eq, e3, epc]
    exact c_fin h1 F1 (e4.trans ej)
  unfold fc_X2_reckon bc_X2_reckon_0 bc_X2_reckon_36 bq_step_183
  rw [era, ed, n_ix hra (by omega), n_cl (by omega), vl_eq]
  by_cases q1 : 11 < o
  · rw [if_pos ((k11 o (by omega)).mpr q1), if_pos ((k12 o (by omega)).mpr (by omega))]
    by_cases q2 : o = 21
    · rw [if_pos ((k21' o (by omega)).mpr q2), if_pos ((k21 o (by omega)).mpr (by omega)), if_pos ((k21' o (by omega)).mpr q2)]
      exact fin _
    · rw [if_neg (fun q => q2 ((k21' o (by omega)).mp q)), if_neg (fun q => by have := (k21 o (by omega)).mp q; omega)]
      obtain ⟨v, u, e1, e2, e3⟩ := res_eq2 (o := o) (by omega) (σ.1 (84 + 135 * s + 12 * p + 2) ra) m σ ρ
      rw [e2, bd2_eq, e1, bd2_eq, c_reg h hra, bd2_eq, e3, bd2_eq]
      exact fin v
  · have q12 : ¬ (12:Int32) ≤ nI o := fun q => q1 (by have := (k12 o (by omega)).mp q; omega)
    have q21 : ¬ nI o = (21:Int32) := fun q => by have := (k21' o (by omega)).mp q; omega
    rw [if_neg (fun q => q1 ((k11 o (by omega)).mp q)), if_neg q12]
    obtain ⟨rb, hrb, erb⟩ := n_and15 ((w.toUInt32 >>> ((14:Int32).toUInt32 &&& Int32.toUInt32 31)).toInt32)
    rw [erb, n_ix hrb (by omega), n_cl (by omega), if_neg q21]
    obtain ⟨v, e2, e3⟩ := res_eq (o := o) (by omega) (σ.1 (84 + 135 * s + 12 * p + 2) ra) (σ.1 (84 + 135 * s + 12 * p + 2) rb) σ ρ
    rw [e2, bd2_eq, c_reg h hra, bd2_eq, c_reg h hrb, bd2_eq, e3, bd2_eq]
    exact fin v
theorem cmp_eq {o : Nat} (h : 30 ≤ o ∧ o ≤ 35) (x y : Int32) (σ : cl_S) (ρ : rf_S) : ∃ v, fc_X2_compare (nI o) x y σ = some (v, σ) ∧ fq_branches (nI o) x y ρ = some (v, ρ) := by
  unfold fc_X2_compare bc_X2_compare_0 fc_X2_isBelow bc_X2_isBelow_0 fq_branches bq_branches_0 bq_branches_13 bq_branches_28
  have q : o = 30 ∨ o = 31 ∨ o = 32 ∨ o = 33 ∨ o = 34 ∨ o = 35 := by omega
  have z1 : ¬ (1:Int32) = 0 := by decide
  have r30 : nI 30 - nI 30 / (2:Int32) * (2:Int32) = 0 := by decide
  have r32 : nI 32 - nI 32 / (2:Int32) * (2:Int32) = 0 := by decide
  have r34 : nI 34 - nI 34 / (2:Int32) * (2:Int32) = 0 := by decide
  have r33 : nI 33 - nI 33 / (2:Int32) * (2:Int32) = 1 := by decide
  have r35 : nI 35 - nI 35 / (2:Int32) * (2:Int32) = 1 := by decide
  rcases q with rfl | rfl | rfl | rfl | rfl | rfl
  all_goals simp (decide := true) only [if_true, if_false, reduceIte, r32, r33, r34, r35, Int32.add_zero, z1]
  · by_cases c : x = y
    · exact ⟨1, by rw [if_pos c], by rw [if_pos c, ite_self]⟩
    · exact ⟨0, by rw [if_neg c], by rw [if_neg c, ite_self]⟩
  · by_cases c : x = y
    · exact ⟨0, by rw [if_pos c], by rw [if_pos c, ite_self]⟩
    · exact ⟨1, by rw [if_neg c], by rw [if_neg c, ite_self]⟩
  · by_cases c : y ≤ x
    · exact ⟨0, by rw [if_pos c], by rw [if_pos c]; exact nb_0 _⟩
    · exact ⟨1, by rw [if_neg c], by rw [if_neg c]; exact nb_1 _⟩
  · by_cases c : y ≤ x
    · exact ⟨1, by rw [if_neg (Int32.not_lt.mpr c)], by rw [if_pos c]⟩
    · exact ⟨0, by rw [if_pos (Int32.not_le.mp c)], by rw [if_neg c]⟩
  · by_cases c : y + (-2147483648:Int32) ≤ x + (-2147483648:Int32)
    · exact ⟨0, by rw [if_pos c, bd2_eq]; exact nb_0 _, by rw [if_pos c]; exact nb_0 _⟩
    · exact ⟨1, by rw [if_neg c, bd2_eq]; exact nb_1 _, by rw [if_neg c]; exact nb_1 _⟩
  · by_cases c : y + (-2147483648:Int32) ≤ x + (-2147483648:Int32)
    · exact ⟨1, by rw [if_pos c, bd2_eq, if_pos rfl], by rw [if_pos c]⟩
    · exact ⟨0, by rw [if_neg c, bd2_eq, if_neg z1], by rw [if_neg c]⟩
end Z2_C2
