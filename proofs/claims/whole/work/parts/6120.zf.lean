section Z2_ZF
variable {σ σ' σ1 : cl_S} {ρ ρ' ρ1 : rf_S} {x : Nat → Nat} {n c i m l u o : Nat} {pd : Option Bool}
/-- the class fills with zeros -/
theorem c_zero {a : Nat} (t8 : (σ.2.2.2.1 8).2 = 2048) (ha : m + a ≤ 2048) : ∃ σ', fc_J7_fill_fda19 (some 8) (nI m) (nI (m + a)) (0:Int32) σ = some σ' ∧ (∀ d, d ≠ 8 → σ'.1 d = σ.1 d) ∧ (∀ j, j < m → σ'.1 8 j = σ.1 8 j) ∧ (∀ j, m ≤ j → j < m + a → σ'.1 8 j = 0) ∧ σ'.2 = σ.2 := by
  obtain ⟨σ', e, k⟩ := lp_cnt (S := cl_S) (f := fun x4 σ => lc_J7_fill_fda19_10 (some 8) (nI (m + a)) (0:Int32) x4 σ) (n := m + a) (fun i σ' => m ≤ i ∧ (∀ d, d ≠ 8 → σ'.1 d = σ.1 d) ∧ (∀ j, j < m → σ'.1 8 j = σ.1 8 j) ∧ (∀ j, m ≤ j → j < i → σ'.1 8 j = 0) ∧ σ'.2 = σ.2) (fun i σ' hi ⟨a0, a1, a2, a3, a4⟩ => by
    refine ⟨cl_w σ' 8 i (0:Int32), ?_, by omega, fun d hd => by rw [r_w hd]; exact a1 d hd, fun j hj => by rw [r_wk (by omega)]; exact a2 j hj, fun j h1 h2 => ?_, a4⟩
    · show lc_J7_fill_fda19_10 (some 8) (nI (m + a)) (0:Int32) (nI i) σ' = _
      unfold lc_J7_fill_fda19_10
      rw [if_neg (fun q => by have := (n_le (by omega) (by omega)).mp q; omega)]
      simp only [nn_eq]
      rw [a4, t8, n_ix (show i < 2048 by omega) (by omega), vl_eq, vl_eq, n_cl (show i < 2147483648 by omega), show nI i + (1:Int32) = nI (i + 1) from n_add i 1]
    · by_cases c : j = i
      · rw [c, r_ws]
      · rw [r_wk c]; exact a3 j h1 (by omega)) (fun σ' _ => by
    show lc_J7_fill_fda19_10 (some 8) (nI (m + a)) (0:Int32) (nI (m + a)) σ' = _
    unfold lc_J7_fill_fda19_10
    rw [if_pos (Int32.le_refl _)]) a m σ (by omega) (by omega) ⟨Nat.le_refl _, fun _ _ => rfl, fun _ _ => rfl, fun j h1 h2 => absurd h2 (by omega), rfl⟩
  refine ⟨σ', ?_, k.2⟩
  unfold fc_J7_fill_fda19 bc_J7_fill_fda19_0 fc_J7_rangeCheck_23922 bc_J7_rangeCheck_23922_0
  simp only [nn_eq]
  rw [t8, if_pos ((n_le (by omega) (by omega)).mpr (by omega)), if_pos (show (0:Int32) ≤ nI m from (n_le (a := 0) (b := m) (by omega) (by omega)).mpr (by omega)), if_pos ((n_le (by omega) (by omega)).mpr (by omega)), bd1_eq]
  unfold bc_J7_fill_fda19_10
  rw [show lp (fun z : (Int32 × cl_S) => lc_J7_fill_fda19_10 (some 8) (nI (m + a)) (0:Int32) z.1 z.2) (nI m, σ) = _ from e, Option.bind_some]
  rfl
/-- room -/
theorem s_room {pl : Int32} (h : PR σ1 ρ1 x n c i m l u none σ ρ) (X : PX σ1 ρ1 x n c) : SO σ1 ρ1 x n c i l (bd2 (fc_X0_readValue 6 (41:Int32) σ) (fun r_37 σ_36 => bd1 (fc_X0_makeRoom 6 (r_37.toInt32) pl σ_36) (fun σ_42 => some σ_42))) (bq_one_67 pl (41:Int32) ρ) := by
  unfold bq_one_67
  rw [if_pos rfl]
  obtain ⟨v, σ', ρ', e1, e2, R⟩ := h.vnum (o := 41) X (by omega) (Or.inl (by decide))
  rw [show loV 41 = 1 from rfl, show hiV 41 = 2048 from rfl] at e2 R
  rw [show (41:Int32) = nI 41 from rfl, e1, e2, bd2_eq, bd2_eq, vl_eq]
  unfold fc_X0_makeRoom bc_X0_makeRoom_0 bc_X0_makeRoom_24
  rcases R with ⟨i', hi, R, b1, b2⟩ | ⟨-, R⟩
  rotate_left
  · rw [if_neg R.nz.1, if_neg R.nz.2.1, bd1_eq, q_room0 R.nz.2.1]
    exact ⟨σ', ρ', rfl, rfl, Or.inr R⟩
  obtain ⟨a, a0, a1, rfl⟩ := L_rng (lo := 1) (hi := 2048) (by omega) (by omega) b1 b2
  have m3 := R.m3
  rw [L_i32 (by omega), if_pos R.ft.1, if_pos R.ft.2, if_neg (n_nneg (by omega)), R.m1, R.m2, n_add]
  by_cases q : m + a ≤ 2048
  rotate_left
  · have nq : ¬ nI (m + a) ≤ (2048:Int32) := fun w => q ((n_le (a := m + a) (b := 2048) (by omega) (by omega)).mp w)
    obtain ⟨σ2, ρ2, f1, f2, R2⟩ := R.fail (f := 6) (v := pl) (by omega) (by omega)
    rw [if_neg nq, if_neg nq, show (6:Int32) = nI 6 from rfl, f1, f2, bd1_eq, bd1_eq, bd1_eq, q_room0 R2.nz.2.1]
    exact ⟨σ2, ρ2, rfl, rfl, Or.inr R2⟩
  have pq : nI (m + a) ≤ (2048:Int32) := (n_le (a := m + a) (b := 2048) (by omega) (by omega)).mpr q
  obtain ⟨σ2, f1, w1, w2, w3, w4⟩ := c_zero (σ := σ') (m := m) (a := a) (by rw [show σ'.2.2.2.1 8 = σ1.2.2.2.1 8 by rw [R.F.r]]; exact X.t8) q
  obtain ⟨ρ2, f2, g1, g2, g3, g4, g5, g6⟩ := q_room R.m2 R.ft.2 q
  rw [if_pos pq, if_pos pq, show (6 + 2) = 8 from rfl, f1, f2, bd1_eq, vl_eq, bd1_eq, w1 6 (by decide), R.m1, n_add]
  have w6 : ∀ j, j ≠ 4 → (cl_w σ2 6 4 (nI (m + a))).1 6 j = σ'.1 6 j := fun j hj => by rw [r_wk hj, w1 6 (by decide)]
  have wd : ∀ d, d ≠ 6 → d ≠ 8 → (cl_w σ2 6 4 (nI (m + a))).1 d = σ'.1 d := fun d h1 h2 => by rw [r_w h1, w1 d h2]
  have w8 : ∀ j, j < m → (cl_w σ2 6 4 (nI (m + a))).1 8 j = σ'.1 8 j := fun j hj => by rw [r_w (by decide), w2 j hj]
  have wL : (cl_w σ2 6 4 (nI (m + a))).2 = σ'.2 := by rw [r_wL, w4]
  have F' : PF σ1 (cl_w σ2 6 4 (nI (m + a))) ρ1 ρ2 := by
    have F := R.F
    refine ⟨fun d j h8 h10 h12 h13 h6 => ?_, fun d a b => by rw [wL]; exact F.L d a b, by rw [wL]; exact F.r, fun j a b c d e f g h => by rw [g2 j a]; exact F.f j a b c d e f g h, fun d a b c e f g => by rw [g3 d a b]; exact F.q d a b c e f g, fun d a b c => by rw [g6]; exact F.lq d a b c⟩
    by_cases d6 : d = 6
    · subst d6
      rw [w6 j (fun w => h6 ⟨rfl, by omega⟩)]; exact F.I 6 j h8 h10 h12 h13 h6
    · rw [wd d d6 h8]; exact F.I d j h8 h10 h12 h13 h6
  refine ⟨_, ρ2, rfl, rfl, Or.inl ⟨i', m + a, u, hi, F', by rw [w6 2 (by decide)]; exact R.a, R.ic, by rw [g2 44 (by decide)]; exact R.tk, by rw [g2 45 (by decide)]; exact R.tpl, fun w => by rw [g6]; exact R.tv2 w, fun w => by rw [g6]; exact R.tv3 w, by rw [g2 48 (by decide)]; exact R.te, r_ws, g1, q, fun j hj => ?_, by rw [w6 7 (by decide)]; exact R.l1, by rw [g2 33 (by decide)]; exact R.l2, R.l3, fun j hj => ?_, by rw [w6 11 (by decide)]; exact R.u1, by rw [g2 38 (by decide)]; exact R.u2, by have := R.u3; omega, fun j hj => ?_, fun j hj => ?_, fun j k a b => ?_, fun b' hb' => (by cases hb'), ⟨by rw [w6 12 (by decide)]; exact R.ft.1, by rw [g2 39 (by decide)]; exact R.ft.2⟩, by rw [w6 13 (by decide)]; exact R.fp⟩⟩
  · by_cases c : j < m
    · rw [w8 j c, g4 j c]; exact R.w j c
    · rw [r_w (by decide), w3 j (by omega) hj, g5 j (by omega) hj]
  · rw [wd 10 (by decide) (by decide), g3 20 (by decide) (by decide), wL, g6]; exact R.ln j hj
  · rw [wd 13 (by decide) (by decide), g3 22 (by decide) (by decide), wL, g6]; exact R.un j hj
  · obtain ⟨w, c1, c2, c3, c4⟩ := R.uw j hj
    rw [wd 12 (by decide) (by decide), g3 21 (by decide) (by decide), g3 24 (by decide) (by decide)]
    exact ⟨w, by omega, c2, c3, by rw [w8 w c1]; exact c4⟩
  · rw [wd 12 (by decide) (by decide)]; exact R.ui j k a b
/-- a statement -/
theorem s_stmt {pl : Int32} {t : List Nat} (h : PR σ1 ρ1 x n c i m l u none σ ρ) (X : PX σ1 ρ1 x n c) (ht : Nm t) : SO σ1 ρ1 x n c i l (fc_X0_readStatement 6 (Int64.ofNat (enc 256 t)) pl σ) (fq_one (Int64.ofNat (enc 128 t)) pl ρ) := by
  have nC : ∀ o, 0 < o → o < 42 → σ.2.1 7 o = Int64.ofNat (enc 256 (opN o)) := fun o a b => by rw [h.F.L 7 (by decide) (by decide)]; exact X.nC o a b
  have nQ : ∀ o, 0 < o → o < 42 → ρ.2 13 o = Int64.ofNat (enc 128 (opN o)) := fun o a b => by rw [h.F.lq 13 (by decide) (by decide) (by decide)]; exact X.nQ o a b
  unfold fc_X0_readStatement bc_X0_readStatement_0
  have m3 := h.m3
  rcases op_both t with ⟨o, o0, o42, eo, oo⟩ | no
  rotate_left
  · rw [c_op ht nC 0 (Or.inr ⟨rfl, no⟩), bd2_eq, q_op ht nQ 42 (Or.inr ⟨rfl, no⟩), if_pos (show nI 0 = (0:Int32) from rfl)]
    unfold bq_one_28
    obtain ⟨σ2, ρ2, f1, f2, R2⟩ := h.fail (f := 3) (v := pl) (by omega) (by omega)
    rw [if_pos (show nI 42 = (42:Int32) from rfl), show (3:Int32) = nI 3 from rfl, f1, f2, bd1_eq, bd1_eq]
    exact ⟨σ2, ρ2, rfl, rfl, Or.inr R2⟩
  have ho : o < 64 := by omega
  have e : ∀ d, d < 64 → (nI o = nI d ↔ o = d) := fun d hd => eq_l ho hd
  rw [c_op ht nC o (Or.inl ⟨o0, o42, eo, oo⟩), bd2_eq, q_op ht nQ o (Or.inl ⟨o0, o42, eo, oo⟩), if_neg (show ¬ nI o = (0:Int32) from fun q => by have := (e 0 (by omega)).mp q; omega)]
  unfold bq_one_28
  rw [if_neg (show ¬ nI o = (42:Int32) from fun q => by have := (e 42 (by omega)).mp q; omega), h.m1, h.m2]
  by_cases c41 : o = 41
  · subst c41
    rw [if_pos (show nI 41 = (41:Int32) from rfl), if_pos (show (41:Int32) ≤ nI 41 by decide)]
    have := s_room (pl := pl) h X
    rw [show (if nI m = (2048:Int32) then bq_one_67 pl (nI 41) ρ else bq_one_67 pl (nI 41) ρ) = bq_one_67 pl (41:Int32) ρ by split <;> rfl]
    exact this
  rw [if_neg (show ¬ nI o = (41:Int32) from fun q => c41 ((e 41 (by omega)).mp q)), if_neg (show ¬ (41:Int32) ≤ nI o from fun q => by have := (le_l (o := 41) (c := o) (by omega) ho).mp q; omega)]
  by_cases cm : m = 2048
  · obtain ⟨σ2, ρ2, f1, f2, R2⟩ := h.fail (f := 6) (v := pl) (by omega) (by omega)
    rw [if_neg (show ¬ nI m < (2048:Int32) from fun q => by have := (n_lt (a := m) (b := 2048) (by omega) (by omega)).mp q; omega), if_pos (show nI m = (2048:Int32) by rw [cm]; rfl), show (6:Int32) = nI 6 from rfl, f1, f2, bd1_eq, bd1_eq]
    exact ⟨σ2, ρ2, rfl, rfl, Or.inr R2⟩
  have hm : m < 2048 := by omega
  rw [if_pos (show nI m < (2048:Int32) from (n_lt (a := m) (b := 2048) (by omega) (by omega)).mpr hm), if_neg (show ¬ nI m = (2048:Int32) from fun q => cm ((n_eq (a := m) (b := 2048) (by omega) (by omega)).mp q))]
  unfold bq_one_67
  rw [if_neg (show ¬ nI o = (41:Int32) from fun q => c41 ((e 41 (by omega)).mp q))]
  by_cases c40 : o = 40
  · subst c40
    rw [if_pos (show nI 40 = (40:Int32) from rfl), if_pos (show nI 40 = (40:Int32) from rfl)]
    exact s_word h X hm
  · rw [if_neg (show ¬ nI o = (40:Int32) from fun q => c40 ((e 40 (by omega)).mp q)), if_neg (show ¬ nI o = (40:Int32) from fun q => c40 ((e 40 (by omega)).mp q))]
    exact s_instr h X hm (by omega) (by omega)
end Z2_ZF
