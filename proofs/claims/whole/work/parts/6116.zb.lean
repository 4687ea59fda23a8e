section Z2_ZB
variable {σ σ' σ1 : cl_S} {ρ ρ' ρ1 : rf_S} {x : Nat → Nat} {n c i m l u : Nat} {pd : Option Bool}
theorem FR.comma (h : FR σ1 σ ρ1 ρ c) : fc_X0_readComma 6 σ = some σ := by
  unfold fc_X0_readComma bc_X0_readComma_0
  rw [if_neg h.nz.1]
theorem FR.reg (h : FR σ1 σ ρ1 ρ c) : fc_X0_readRegister 6 σ = some (0, σ) := by
  unfold fc_X0_readRegister bc_X0_readRegister_0
  rw [if_neg h.nz.1]
theorem FR.val {o : Int32} (h : FR σ1 σ ρ1 ρ c) : fc_X0_readValue 6 o σ = some (0, σ) := by
  unfold fc_X0_readValue bc_X0_readValue_0
  rw [if_neg h.nz.1]
theorem nf {k : Nat} (h1 : k ≠ 0) (h2 : k ≠ 7) : ¬ fnl k := fun q => q.elim h1 h2
/-- a comma -/
theorem PR.comma (h : PR σ1 ρ1 x n c i m l u pd σ ρ) (X : PX σ1 ρ1 x n c) : ∃ σ' ρ', fc_X0_readComma 6 σ = some σ' ∧ fq_wants (3:Int32) ρ = some ρ' ∧ (PR σ1 ρ1 x n c (i + 1) m l u pd σ' ρ' ∨ FR σ1 σ' ρ1 ρ' c) := by
  unfold fc_X0_readComma bc_X0_readComma_0 fq_wants bq_wants_0
  rw [if_pos h.ft.1, h.tok X, bd2_eq]
  obtain ⟨k1, k2⟩ := h.kd 4 (by omega)
  by_cases q : tK x n i = 4
  · rw [if_pos (show nI (tK x n i) = (4:Int32) from k1.mpr q), if_pos (show ρ.1 0 44 = (3:Int32) from k2.mpr q)]
    obtain ⟨σ', ρ', e1, e2, R⟩ := h.adv X (X.lt h.ic (nf (by omega) (by omega)))
    rw [e1, e2, bd1_eq, bd1_eq]
    exact ⟨σ', ρ', rfl, rfl, Or.inl R⟩
  · rw [if_neg (show ¬ nI (tK x n i) = (4:Int32) from fun w => q (k1.mp w)), if_neg (show ¬ ρ.1 0 44 = (3:Int32) from fun w => q (k2.mp w))]
    obtain ⟨σ', ρ', e1, e2, R⟩ := h.fat X
    rw [e1, e2, bd1_eq, bd1_eq]
    exact ⟨σ', ρ', rfl, rfl, Or.inr R⟩
/-- the end of a line -/
theorem PR.line (h : PR σ1 ρ1 x n c i m l u pd σ ρ) (X : PX σ1 ρ1 x n c) (h0 : tK x n i ≠ 0) : ∃ σ' ρ', bc_X0_readLine_141 6 σ = some σ' ∧ fq_wants (6:Int32) ρ = some ρ' ∧ ((tK x n i = 1 ∧ PR σ1 ρ1 x n c (i + 1) m l u pd σ' ρ') ∨ FR σ1 σ' ρ1 ρ' c) := by
  unfold bc_X0_readLine_141 fq_wants bq_wants_0
  rw [h.tok X, bd2_eq]
  obtain ⟨k1, k2⟩ := h.kd 1 (by omega)
  by_cases q : tK x n i = 1
  · rw [if_pos (show nI (tK x n i) = (1:Int32) from k1.mpr q), if_pos (show ρ.1 0 44 = (6:Int32) from k2.mpr q)]
    obtain ⟨σ', ρ', e1, e2, R⟩ := h.adv X (X.lt h.ic (nf (by omega) (by omega)))
    rw [e1, e2, bd1_eq, bd1_eq]
    exact ⟨σ', ρ', rfl, rfl, Or.inl ⟨q, R⟩⟩
  · rw [if_neg (show ¬ nI (tK x n i) = (1:Int32) from fun w => q (k1.mp w)), if_neg (show ¬ ρ.1 0 44 = (6:Int32) from fun w => q (k2.mp w)), h.tok X, bd2_eq, if_neg (show ¬ nI (tK x n i) = (0:Int32) from fun w => h0 ((h.kd 0 (by omega)).1.mp w))]
    obtain ⟨σ', ρ', e1, e2, R⟩ := h.fat X
    rw [e1, e2, bd1_eq, bd1_eq]
    exact ⟨σ', ρ', rfl, rfl, Or.inr R⟩
theorem PR.lend (h : PR σ1 ρ1 x n c i m l u pd σ ρ) (X : PX σ1 ρ1 x n c) (h0 : tK x n i = 0) : bc_X0_readLine_141 6 σ = some σ := by
  unfold bc_X0_readLine_141
  rw [h.tok X, bd2_eq, h0, if_neg (by decide), h.tok X, bd2_eq, h0, if_pos (show nI 0 = (0:Int32) from rfl)]
theorem FR.lend (h : FR σ1 σ ρ1 ρ c) (X : PX σ1 ρ1 x n c) : ∃ σ', bc_X0_readLine_141 6 σ = some σ' ∧ FR σ1 σ' ρ1 ρ c := by
  obtain ⟨k, ek⟩ := h.tok X
  unfold bc_X0_readLine_141
  rw [ek, bd2_eq]
  by_cases q : k = (1:Int32)
  · rw [if_pos q]
    obtain ⟨σ', e, R⟩ := h.adv X
    rw [e, bd1_eq]; exact ⟨σ', rfl, R⟩
  · rw [if_neg q, ek, bd2_eq, h.fat X, bd1_eq]
    exact ⟨σ, by split <;> rfl, h⟩
/-- a register -/
theorem PR.reg (h : PR σ1 ρ1 x n c i m l u pd σ ρ) (X : PX σ1 ρ1 x n c) : ∃ v σ' ρ', fc_X0_readRegister 6 σ = some (v, σ') ∧ fq_wantsRegister ρ = some (v, ρ') ∧ (PR σ1 ρ1 x n c (i + 1) m l u pd σ' ρ' ∨ FR σ1 σ' ρ1 ρ' c) := by
  have c6 := X.c6
  have ic := h.ic
  unfold fc_X0_readRegister bc_X0_readRegister_0 fq_wantsRegister bq_wantsRegister_0
  rw [if_pos h.ft.1, h.tok X, bd2_eq]
  obtain ⟨k1, k2⟩ := h.kd 2 (by omega)
  by_cases q : tK x n i = 2
  rotate_left
  · rw [if_neg (show ¬ nI (tK x n i) = (2:Int32) from fun w => q (k1.mp w)), if_neg (show ¬ ρ.1 0 44 = (1:Int32) from fun w => q (k2.mp w))]
    obtain ⟨σ', ρ', e1, e2, R⟩ := h.fat X
    rw [e1, e2, bd1_eq, bd1_eq]
    exact ⟨0, σ', ρ', rfl, rfl, Or.inr R⟩
  rw [if_pos (show nI (tK x n i) = (2:Int32) from k1.mpr q), if_pos (show ρ.1 0 44 = (1:Int32) from k2.mpr q), h.a, n_ix (show i < 6001 by omega) (by omega), n_cl (show i < 2147483648 by omega), show (1 + 4) = 5 from rfl, h.F.val, X.v2 i h.ic q]
  obtain ⟨nm, nb, n0⟩ := tK_2 q
  unfold bq_wantsRegister_18
  rcases tk_reg nm nb n0 σ with ⟨k, hk, et, e⟩ | ⟨hk, e⟩
  · obtain ⟨y, ey⟩ := tk_regq nm (h.tv2 q) (nI k) (Or.inl ⟨k, hk, et, rfl⟩)
    rw [e, bd2_eq, ey, Option.bind_some]
    unfold eq_wantsRegister_18
    have p0 : (0:Int32) ≤ nI k := (n_le (a := 0) (b := k) (by omega) (by omega)).mpr (by omega)
    obtain ⟨σ', ρ', e1, e2, R⟩ := h.adv X (X.lt h.ic (nf (by omega) (by omega)))
    rw [if_pos p0, if_pos p0, e1, e2, bd1_eq, bd1_eq]
    exact ⟨nI k, σ', ρ', rfl, rfl, Or.inl R⟩
  · obtain ⟨y, ey⟩ := tk_regq nm (h.tv2 q) (-1) (Or.inr ⟨hk, rfl⟩)
    rw [e, bd2_eq, ey, Option.bind_some]
    unfold eq_wantsRegister_18
    obtain ⟨σ', ρ', e1, e2, R⟩ := h.fail (f := 3) (v := nI (tp x n i)) (by omega) (by omega)
    rw [if_neg r_neg, if_neg r_neg, h.a, n_ix (show i < 6001 by omega) (by omega), n_cl (show i < 2147483648 by omega), show (1 + 3) = 4 from rfl, h.F.plc X h.ic, h.tpl, show (3:Int32) = nI 3 from rfl, e1, e2, bd1_eq, bd1_eq]
    exact ⟨0, σ', ρ', rfl, rfl, Or.inr R⟩
/-- a number within bounds -/
theorem PR.num {o : Int32} {lo hi : Int64} (h : PR σ1 ρ1 x n c i m l u pd σ ρ) (X : PX σ1 ρ1 x n c) (hlo : ∀ σ, fc_X0_least o σ = some (lo, σ)) (hhi : ∀ σ, fc_X0_most o σ = some (hi, σ)) : ∃ v σ' ρ', bc_X0_readValue_34 6 o σ = some (v, σ') ∧ fq_wantsNumber lo hi ρ = some (v, ρ') ∧ ((∃ i', i ≤ i' ∧ PR σ1 ρ1 x n c i' m l u pd σ' ρ' ∧ ¬ lg_cmp v lo < 0 ∧ lg_cmp v hi ≤ 0) ∨ (v = 0 ∧ FR σ1 σ' ρ1 ρ' c)) := by
  have c6 := X.c6
  -- at the number itself
  have t57 : ∀ (b : Bool) {i : Nat} {σ : cl_S} {ρ : rf_S}, PR σ1 ρ1 x n c i m l u pd σ ρ → ∃ v σ' ρ', bc_X0_readValue_57 6 o (bI b) σ = some (v, σ') ∧ bq_wantsNumber_24 lo hi (bI b) ρ = some (v, ρ') ∧ ((∃ i', i ≤ i' ∧ PR σ1 ρ1 x n c i' m l u pd σ' ρ' ∧ ¬ lg_cmp v lo < 0 ∧ lg_cmp v hi ≤ 0) ∨ (v = 0 ∧ FR σ1 σ' ρ1 ρ' c)) := by
    intro b i σ ρ h
    have ic := h.ic
    unfold bc_X0_readValue_57 bq_wantsNumber_24
    rw [h.tok X, bd2_eq]
    obtain ⟨k1, k2⟩ := h.kd 3 (by omega)
    by_cases q : tK x n i = 3
    rotate_left
    · rw [if_neg (show ¬ nI (tK x n i) = (3:Int32) from fun w => q (k1.mp w)), if_neg (show ¬ ρ.1 0 44 = (2:Int32) from fun w => q (k2.mp w))]
      obtain ⟨σ', ρ', e1, e2, R⟩ := h.fat X
      rw [e1, e2, bd1_eq, bd1_eq]
      exact ⟨0, σ', ρ', rfl, rfl, Or.inr ⟨rfl, R⟩⟩
    rw [if_pos (show nI (tK x n i) = (3:Int32) from k1.mpr q), if_pos (show ρ.1 0 44 = (2:Int32) from k2.mpr q), h.a, n_ix (show i < 6001 by omega) (by omega), n_ix (show i < 6001 by omega) (by omega), n_cl (show i < 2147483648 by omega), show (1 + 4) = 5 from rfl, h.F.val, X.v3 i h.ic q, h.tv3 q]
    have t : ∀ v : Int64, ∃ v' σ' ρ', bc_X0_readValue_103 6 o v σ = some (v', σ') ∧ bq_wantsNumber_55 lo hi v ρ = some (v', ρ') ∧ ((∃ i', i ≤ i' ∧ PR σ1 ρ1 x n c i' m l u pd σ' ρ' ∧ ¬ lg_cmp v' lo < 0 ∧ lg_cmp v' hi ≤ 0) ∨ (v' = 0 ∧ FR σ1 σ' ρ1 ρ' c)) := by
      intro v
      unfold bc_X0_readValue_103 bq_wantsNumber_55
      rw [hlo, bd2_eq]
      have bad : ∃ v' σ' ρ', bc_X0_readValue_122 6 σ = some (v', σ') ∧ bq_wantsNumber_71 ρ = some (v', ρ') ∧ ((∃ i', i ≤ i' ∧ PR σ1 ρ1 x n c i' m l u pd σ' ρ' ∧ ¬ lg_cmp v' lo < 0 ∧ lg_cmp v' hi ≤ 0) ∨ (v' = 0 ∧ FR σ1 σ' ρ1 ρ' c)) := by
        unfold bc_X0_readValue_122 bq_wantsNumber_71
        obtain ⟨σ', ρ', e1, e2, R⟩ := h.fail (f := 5) (v := nI (tp x n i)) (by omega) (by omega)
        rw [h.a, n_ix (show i < 6001 by omega) (by omega), n_cl (show i < 2147483648 by omega), show (1 + 3) = 4 from rfl, h.F.plc X h.ic, h.tpl, show (5:Int32) = nI 5 from rfl, e1, e2, bd1_eq, bd1_eq]
        exact ⟨0, σ', ρ', rfl, rfl, Or.inr ⟨rfl, R⟩⟩
      by_cases c1 : lg_cmp v lo < 0
      · rw [if_pos c1, if_pos c1]; exact bad
      rw [if_neg c1, if_neg c1, hhi, bd2_eq]
      by_cases c2 : lg_cmp v hi ≤ 0
      · rw [if_pos c2, if_pos c2]
        obtain ⟨σ', ρ', e1, e2, R⟩ := h.adv X (X.lt h.ic (nf (by omega) (by omega)))
        rw [e1, e2, bd1_eq, bd1_eq]
        exact ⟨v, σ', ρ', rfl, rfl, Or.inl ⟨_, Nat.le_succ _, R, c1, c2⟩⟩
      · rw [if_neg c2, if_neg c2]; exact bad
    cases b
    · exact t _
    · exact t _
  unfold bc_X0_readValue_34 bc_X0_readValue_48 fq_wantsNumber bq_wantsNumber_0 bq_wantsNumber_13
  rw [h.tok X, bd2_eq]
  obtain ⟨k1, k2⟩ := h.kd 6 (by omega)
  by_cases q : tK x n i = 6
  · rw [if_pos (show nI (tK x n i) = (6:Int32) from k1.mpr q), if_pos (show ρ.1 0 44 = (5:Int32) from k2.mpr q), if_neg (by decide), if_neg (by decide)]
    obtain ⟨σ', ρ', e1, e2, R⟩ := h.adv X (X.lt h.ic (nf (by omega) (by omega)))
    rw [e1, e2, bd1_eq, bd1_eq]
    obtain ⟨v, σ2, ρ2, f1, f2, r⟩ := t57 true R
    exact ⟨v, σ2, ρ2, f1, f2, r.imp (fun ⟨i', hi, w⟩ => ⟨i', by omega, w⟩) id⟩
  · rw [if_neg (show ¬ nI (tK x n i) = (6:Int32) from fun w => q (k1.mp w)), if_neg (show ¬ ρ.1 0 44 = (5:Int32) from fun w => q (k2.mp w)), if_pos rfl, if_pos rfl]
    exact t57 false h
/-- a label is used -/
theorem PR.use {b : Bool} (h : PR σ1 ρ1 x n c i m l u none σ ρ) (X : PX σ1 ρ1 x n c) (hm : m < 2048) (q : tK x n i = 2) : ∃ σ2 σ' ρ', fc_X0_noteUse 6 σ = some σ2 ∧ fc_X0_advance 6 σ2 = some σ' ∧ fq_use_ (bI b) ρ = some ρ' ∧ PR σ1 ρ1 x n c (i + 1) m l u (some b) σ' ρ' := by
  have c6 := X.c6
  have ic := h.ic
  have u3 := h.u3
  have e11 : σ.1 6 11 = nI u := h.u1
  have e38 : ρ.1 0 38 = nI u := h.u2
  have hu : u < 2048 := by omega
  have bn : vp_nar .boolean (bI b) = bI b := by cases b <;> decide
  obtain ⟨nm, nb, n0⟩ := tK_2 q
  have eC : fc_X0_noteUse 6 σ = some (cl_w (cl_w (cl_w (cl_wl σ 11 u (Int64.ofNat (enc 256 (tokN x n (tp x n i))))) 12 u (nI m)) 13 u (nI (tp x n i))) 6 11 (nI (u + 1))) := by
    unfold fc_X0_noteUse bc_X0_noteUse_0
    rw [e11, if_neg (show ¬ (2048:Int32) ≤ nI u from fun w => by have := (n_le (a := 2048) (b := u) (by omega) (by omega)).mp w; omega), h.a, n_ix (show i < 6001 by omega) (by omega), n_ix hu (by omega), vl_eq, n_cl (show i < 2147483648 by omega), n_cl (show u < 2147483648 by omega), show (1 + 4) = 5 from rfl, show (6 + 5) = 11 from rfl, h.F.val, X.v2 i h.ic q, r_lI, e11, n_ix hu (by omega), vl_eq, n_cl (show u < 2147483648 by omega), h.m1, show (6 + 6) = 12 from rfl, r_w (show 6 ≠ 12 by decide), r_lI, h.a, e11, n_ix (show i < 6001 by omega) (by omega), n_ix hu (by omega), vl_eq, n_cl (show i < 2147483648 by omega), n_cl (show u < 2147483648 by omega), show (6 + 7) = 13 from rfl, show (1 + 3) = 4 from rfl, r_w (show 4 ≠ 12 by decide), r_lI, h.F.plc X h.ic, vl_eq, r_w (show 6 ≠ 13 by decide), r_w (show 6 ≠ 12 by decide), r_lI, e11, show nI u + (1:Int32) = nI (u + 1) from n_add u 1]
  have P : PR σ1 ρ1 x n c i m l u (some b) (cl_w (cl_w (cl_w (cl_wl σ 11 u (Int64.ofNat (enc 256 (tokN x n (tp x n i))))) 12 u (nI m)) 13 u (nI (tp x n i))) 6 11 (nI (u + 1))) (rf_w (rf_w (rf_wl (rf_w (rf_w ρ 21 u (nI m)) 22 u (nI (tp x n i))) 23 u (Int64.ofNat (enc 128 (tokN x n (tp x n i))))) 24 u (bI b)) 0 38 (nI (u + 1))) := by
    have w6 : ∀ j, j ≠ 11 → (cl_w (cl_w (cl_w (cl_wl σ 11 u (Int64.ofNat (enc 256 (tokN x n (tp x n i))))) 12 u (nI m)) 13 u (nI (tp x n i))) 6 11 (nI (u + 1))).1 6 j = σ.1 6 j := fun j hj => by rw [r_wk hj, r_w (by decide), r_w (by decide), r_lI]
    have wd : ∀ d, d ≠ 6 → d ≠ 12 → d ≠ 13 → (cl_w (cl_w (cl_w (cl_wl σ 11 u (Int64.ofNat (enc 256 (tokN x n (tp x n i))))) 12 u (nI m)) 13 u (nI (tp x n i))) 6 11 (nI (u + 1))).1 d = σ.1 d := fun d a b c => by rw [r_w a, r_w c, r_w b, r_lI]
    have w12 : ∀ j, j ≠ u → (cl_w (cl_w (cl_w (cl_wl σ 11 u (Int64.ofNat (enc 256 (tokN x n (tp x n i))))) 12 u (nI m)) 13 u (nI (tp x n i))) 6 11 (nI (u + 1))).1 12 j = σ.1 12 j := fun j hj => by rw [r_w (by decide), r_w (by decide), r_wk hj, r_lI]
    have w12u : (cl_w (cl_w (cl_w (cl_wl σ 11 u (Int64.ofNat (enc 256 (tokN x n (tp x n i))))) 12 u (nI m)) 13 u (nI (tp x n i))) 6 11 (nI (u + 1))).1 12 u = nI m := by rw [r_w (by decide), r_w (by decide), r_ws]
    have w13 : ∀ j, j ≠ u → (cl_w (cl_w (cl_w (cl_wl σ 11 u (Int64.ofNat (enc 256 (tokN x n (tp x n i))))) 12 u (nI m)) 13 u (nI (tp x n i))) 6 11 (nI (u + 1))).1 13 j = σ.1 13 j := fun j hj => by rw [r_w (by decide), r_wk hj, r_w (by decide), r_lI]
    have w13u : (cl_w (cl_w (cl_w (cl_wl σ 11 u (Int64.ofNat (enc 256 (tokN x n (tp x n i))))) 12 u (nI m)) 13 u (nI (tp x n i))) 6 11 (nI (u + 1))).1 13 u = nI (tp x n i) := by rw [r_w (by decide), r_ws]
    have q0 : ∀ j, j ≠ 38 → (rf_w (rf_w (rf_wl (rf_w (rf_w ρ 21 u (nI m)) 22 u (nI (tp x n i))) 23 u (Int64.ofNat (enc 128 (tokN x n (tp x n i))))) 24 u (bI b)) 0 38 (nI (u + 1))).1 0 j = ρ.1 0 j := fun j hj => by rw [q_wk hj, q_w (by decide), q_lI, q_w (by decide), q_w (by decide)]
    have qd : ∀ d, d ≠ 0 → d ≠ 21 → d ≠ 22 → d ≠ 24 → (rf_w (rf_w (rf_wl (rf_w (rf_w ρ 21 u (nI m)) 22 u (nI (tp x n i))) 23 u (Int64.ofNat (enc 128 (tokN x n (tp x n i))))) 24 u (bI b)) 0 38 (nI (u + 1))).1 d = ρ.1 d := fun d a b c e => by rw [q_w a, q_w e, q_lI, q_w c, q_w b]
    have q21 : ∀ j, j ≠ u → (rf_w (rf_w (rf_wl (rf_w (rf_w ρ 21 u (nI m)) 22 u (nI (tp x n i))) 23 u (Int64.ofNat (enc 128 (tokN x n (tp x n i))))) 24 u (bI b)) 0 38 (nI (u + 1))).1 21 j = ρ.1 21 j := fun j hj => by rw [q_w (by decide), q_w (by decide), q_lI, q_w (by decide), q_wk hj]
    have q22 : ∀ j, j ≠ u → (rf_w (rf_w (rf_wl (rf_w (rf_w ρ 21 u (nI m)) 22 u (nI (tp x n i))) 23 u (Int64.ofNat (enc 128 (tokN x n (tp x n i))))) 24 u (bI b)) 0 38 (nI (u + 1))).1 22 j = ρ.1 22 j := fun j hj => by rw [q_w (by decide), q_w (by decide), q_lI, q_wk hj, q_w (by decide)]
    have q24 : ∀ j, j ≠ u → (rf_w (rf_w (rf_wl (rf_w (rf_w ρ 21 u (nI m)) 22 u (nI (tp x n i))) 23 u (Int64.ofNat (enc 128 (tokN x n (tp x n i))))) 24 u (bI b)) 0 38 (nI (u + 1))).1 24 j = ρ.1 24 j := fun j hj => by rw [q_w (by decide), q_wk hj, q_lI, q_w (by decide), q_w (by decide)]
    have ql : ∀ d, d ≠ 23 → (rf_w (rf_w (rf_wl (rf_w (rf_w ρ 21 u (nI m)) 22 u (nI (tp x n i))) 23 u (Int64.ofNat (enc 128 (tokN x n (tp x n i))))) 24 u (bI b)) 0 38 (nI (u + 1))).2 d = ρ.2 d := fun d hd => by rw [q_wL, q_wL, q_l hd, q_wL, q_wL]
    have F' : PF σ1 (cl_w (cl_w (cl_w (cl_wl σ 11 u (Int64.ofNat (enc 256 (tokN x n (tp x n i))))) 12 u (nI m)) 13 u (nI (tp x n i))) 6 11 (nI (u + 1))) ρ1 (rf_w (rf_w (rf_wl (rf_w (rf_w ρ 21 u (nI m)) 22 u (nI (tp x n i))) 23 u (Int64.ofNat (enc 128 (tokN x n (tp x n i))))) 24 u (bI b)) 0 38 (nI (u + 1))) := (((((((((h.F.wl (Or.inr rfl)).wa (by omega)).wa (by omega)).w6 (by omega)).qa (by omega)).qa (by omega)).ql (Or.inr rfl)).qa (by omega)).q0 (by omega))
    refine ⟨F', by rw [w6 2 (by decide)]; exact h.a, h.ic, by rw [q0 44 (by decide)]; exact h.tk, by rw [q0 45 (by decide)]; exact h.tpl, fun w => by rw [ql 0 (by decide)]; exact h.tv2 w, fun w => by rw [ql 0 (by decide)]; exact h.tv3 w, by rw [q0 48 (by decide)]; exact h.te, by rw [w6 4 (by decide)]; exact h.m1, by rw [q0 30 (by decide)]; exact h.m2, h.m3, fun j hj => by rw [wd 8 (by decide) (by decide) (by decide), qd 18 (by decide) (by decide) (by decide) (by decide)]; exact h.w j hj, by rw [w6 7 (by decide)]; exact h.l1, by rw [q0 33 (by decide)]; exact h.l2, h.l3, fun j hj => ?_, ?_, ?_, h.u3, fun j hj => ?_, fun j hj => ?_, fun j k a b => ?_, fun b' hb' => ?_, ⟨by rw [w6 12 (by decide)]; exact h.ft.1, by rw [q0 39 (by decide)]; exact h.ft.2⟩, by rw [w6 13 (by decide)]; exact h.fp⟩
    · rw [wd 10 (by decide) (by decide) (by decide), qd 20 (by decide) (by decide) (by decide) (by decide), ql 19 (by decide), r_wL, r_wL, r_wL, r_l (show 9 ≠ 11 by decide)]; exact h.ln j hj
    · rw [if_neg (by simp), r_ws]
    · rw [if_neg (by simp), q_ws]
    · rw [if_neg (by simp)] at hj
      by_cases cj : j = u
      · subst cj
        refine ⟨⟨tokN x n (tp x n i), nm, by rw [r_wL, r_wL, r_wL, r_ls], by rw [q_wL, q_wL, q_ls]⟩, ?_⟩
        rw [w13u, q_w (by decide), q_w (by decide), q_lI, q_ws]
      · obtain ⟨⟨t, a1, a2, a3⟩, a4⟩ := h.un j (by rw [if_pos rfl]; omega)
        exact ⟨⟨t, a1, by rw [r_wL, r_wL, r_wL, r_lk cj]; exact a2, by rw [q_wL, q_wL, q_lk cj]; exact a3⟩, by rw [w13 j cj, q22 j cj]; exact a4⟩
    · rw [w12 j (by omega), q21 j (by omega), q24 j (by omega), wd 8 (by decide) (by decide) (by decide)]; exact h.uw j hj
    · rw [w12 j (by omega), w12 k (by omega)]; exact h.ui j k a b
    · cases hb'
      exact ⟨w12u, by rw [q_w (by decide), q_w (by decide), q_lI, q_w (by decide), q_ws], by rw [q_w (by decide), q_ws]⟩
  obtain ⟨σ', ρ', e1, e2, R⟩ := P.adv X (X.lt h.ic (nf (by omega) (by omega)))
  refine ⟨_, σ', ρ', eC, e1, ?_, R⟩
  unfold fq_use_ bq_use__0
  have hE : fq_next (rf_w (rf_w (rf_wl (rf_w (rf_w ρ 21 u (nI m)) 22 u (nI (tp x n i))) 23 u (Int64.ofNat (enc 128 (tokN x n (tp x n i))))) 24 u (bI b)) 0 38 (nI (u + 1))) = some ρ' := e2
  rw [e38, n_ix hu (by omega), vl_eq, n_cl (show u < 2147483648 by omega), h.m2, q_w (show 0 ≠ 21 by decide), e38, n_ix hu (by omega), vl_eq, n_cl (show u < 2147483648 by omega), h.tpl, q_w (show 0 ≠ 22 by decide), q_w (show 0 ≠ 21 by decide), e38, n_ix hu (by omega), vl_eq, n_cl (show u < 2147483648 by omega), q_wL, q_wL, h.tv2 q, q_lI, q_w (show 0 ≠ 22 by decide), q_w (show 0 ≠ 21 by decide), e38, n_ix hu (by omega), vl_eq, n_cl (show u < 2147483648 by omega), vl_eq, bn, q_w (show 0 ≠ 24 by decide), q_lI, q_w (show 0 ≠ 22 by decide), q_w (show 0 ≠ 21 by decide), e38, show nI u + (1:Int32) = nI (u + 1) from n_add u 1, hE, bd1_eq]
end Z2_ZB
