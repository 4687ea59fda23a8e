section Z2_ZC
variable {σ σ' σ1 : cl_S} {ρ ρ' ρ1 : rf_S} {x : Nat → Nat} {n c i m l u o : Nat} {pd : Option Bool}
/-- a word is put behind -/
theorem PR.push {v : Int32} (h : PR σ1 ρ1 x n c i m l u pd σ ρ) (hm : m < 2048) (hv : pd = some true → v = 0) (hv' : pd = some false → v ≠ 0) : ∃ σ' ρ', bc_X0_readStatement_86 6 v σ = some σ' ∧ bq_one_286 v ρ = some ρ' ∧ PR σ1 ρ1 x n c i (m + 1) l (if pd = none then u else u + 1) none σ' ρ' := by
  unfold bc_X0_readStatement_86 bq_one_286
  rw [if_pos h.ft.1, if_pos h.ft.2, h.m1, h.m2, n_ix hm (by omega), n_ix hm (by omega), vl_eq, vl_eq, vl_eq, vl_eq, n_cl (show m < 2147483648 by omega), show (6 + 2) = 8 from rfl, r_w (show 6 ≠ 8 by decide), q_w (show 0 ≠ 18 by decide), h.m1, h.m2, show nI m + (1:Int32) = nI (m + 1) from n_add m 1]
  have F' : PF σ1 (cl_w (cl_w σ 8 m v) 6 4 (nI (m + 1))) ρ1 (rf_w (rf_w ρ 18 m v) 0 30 (nI (m + 1))) := ((((h.F.wa (by omega)).w6 (by omega)).qa (by omega)).q0 (by omega))
  have w6 : ∀ j, j ≠ 4 → (cl_w (cl_w σ 8 m v) 6 4 (nI (m + 1))).1 6 j = σ.1 6 j := fun j hj => by rw [r_wk hj, r_w (by decide)]
  have wd : ∀ d, d ≠ 6 → d ≠ 8 → (cl_w (cl_w σ 8 m v) 6 4 (nI (m + 1))).1 d = σ.1 d := fun d a b => by rw [r_w a, r_w b]
  have w8 : ∀ j, j ≠ m → (cl_w (cl_w σ 8 m v) 6 4 (nI (m + 1))).1 8 j = σ.1 8 j := fun j hj => by rw [r_w (by decide), r_wk hj]
  have w8m : (cl_w (cl_w σ 8 m v) 6 4 (nI (m + 1))).1 8 m = v := by rw [r_w (by decide), r_ws]
  have q0 : ∀ j, j ≠ 30 → (rf_w (rf_w ρ 18 m v) 0 30 (nI (m + 1))).1 0 j = ρ.1 0 j := fun j hj => by rw [q_wk hj, q_w (by decide)]
  have qd : ∀ d, d ≠ 0 → d ≠ 18 → (rf_w (rf_w ρ 18 m v) 0 30 (nI (m + 1))).1 d = ρ.1 d := fun d a b => by rw [q_w a, q_w b]
  refine ⟨_, _, rfl, rfl, F', by rw [w6 2 (by decide)]; exact h.a, h.ic, by rw [q0 44 (by decide)]; exact h.tk, by rw [q0 45 (by decide)]; exact h.tpl, h.tv2, h.tv3, by rw [q0 48 (by decide)]; exact h.te, r_ws, q_ws, by omega, fun j hj => ?_, by rw [w6 7 (by decide)]; exact h.l1, by rw [q0 33 (by decide)]; exact h.l2, h.l3, fun j hj => ?_, ?_, ?_, ?_, fun j hj => ?_, fun j hj => ?_, fun j k a b => ?_, fun b' hb' => (by cases hb'), ⟨by rw [w6 12 (by decide)]; exact h.ft.1, by rw [q0 39 (by decide)]; exact h.ft.2⟩, by rw [w6 13 (by decide)]; exact h.fp⟩
  · by_cases c : j = m
    · rw [c, w8m, q_w (by decide), q_ws]
    · rw [w8 j c, q_w (by decide), q_wk c]; exact h.w j (by omega)
  · rw [wd 10 (by decide) (by decide), qd 20 (by decide) (by decide)]; exact h.ln j hj
  · rw [if_pos rfl, w6 11 (by decide)]; exact h.u1
  · rw [if_pos rfl, q0 38 (by decide)]; exact h.u2
  · have := h.u3; split <;> omega
  · rw [if_pos rfl] at hj
    rw [wd 13 (by decide) (by decide), qd 22 (by decide) (by decide)]; exact h.un j hj
  · rw [wd 12 (by decide) (by decide), qd 21 (by decide) (by decide), qd 24 (by decide) (by decide)]
    by_cases c : j < u
    · obtain ⟨w, a1, a2, a3, a4⟩ := h.uw j c
      exact ⟨w, by omega, a2, a3, by rw [w8 w (by omega)]; exact a4⟩
    · cases pd with
      | none => rw [if_pos rfl] at hj; exact absurd hj c
      | some b =>
        rw [if_neg (by simp)] at hj
        have : j = u := by omega
        subst this
        obtain ⟨p1, p2, p3⟩ := h.pe b rfl
        refine ⟨m, by omega, p1, p2, ?_⟩
        rw [w8m, p3]
        cases b
        · exact Or.inl ⟨rfl, hv' rfl⟩
        · exact Or.inr ⟨rfl, hv rfl⟩
  · rw [wd 12 (by decide) (by decide)]
    by_cases c : k < u
    · exact h.ui j k a c
    · cases pd with
      | none => rw [if_pos rfl] at b; exact absurd b c
      | some b' =>
        rw [if_neg (by simp)] at b
        have : k = u := by omega
        subst this
        obtain ⟨w, a1, a2, a3, a4⟩ := h.uw j a
        rw [a2, (h.pe b' rfl).1]
        intro q
        have := (n_eq (by omega) (by omega)).mp q
        omega
theorem FR.push {v : Int32} (h : FR σ1 σ ρ1 ρ c) : bc_X0_readStatement_86 6 v σ = some σ := by
  unfold bc_X0_readStatement_86
  rw [if_neg h.nz.1]
theorem FR.pushq {v : Int32} (h : FR σ1 σ ρ1 ρ c) : bq_one_286 v ρ = some ρ := by
  unfold bq_one_286
  rw [if_neg h.nz.2.1]
/-! values -/
def tlb (o : Nat) : Bool := (decide (30 ≤ o) && decide (o ≤ 36)) || decide (o = 40)
theorem c_tl (ho : o < 64) (σ : cl_S) : fc_X0_takesLabel (nI o) σ = some (bI (tlb o), σ) := by
  have : ∀ o, o < 64 → (if nI o < (30:Int32) then (if nI o = (40:Int32) then (1:Int32) else 0) else (if nI o ≤ (36:Int32) then (1:Int32) else (if nI o = (40:Int32) then (1:Int32) else 0))) = bI (tlb o) := by decide
  rw [← this o ho]
  unfold fc_X0_takesLabel bc_X0_takesLabel_0 bc_X0_takesLabel_12
  by_cases c1 : nI o < (30:Int32)
  · rw [if_pos c1, if_pos c1]; split <;> rfl
  · rw [if_neg c1, if_neg c1]
    by_cases c2 : nI o ≤ (36:Int32)
    · rw [if_pos c2, if_pos c2]
    · rw [if_neg c2, if_neg c2]; split <;> rfl
def loV (o : Nat) : Int64 := if o = 21 then 0 else if o = 38 then 0 else if o = 40 then -2147483648 else if o = 41 then 1 else -131072
def hiV (o : Nat) : Int64 := if o = 21 then 262143 else if o = 40 then 4294967295 else if o = 41 then 2048 else 131071
theorem c_lo (ho : o < 64) (σ : cl_S) : fc_X0_least (nI o) σ = some (loV o, σ) := by
  unfold fc_X0_least bc_X0_least_0 loV
  have e : ∀ d, d < 64 → (nI o = nI d ↔ o = d) := fun d hd => eq_l ho hd
  by_cases c1 : o = 21
  · rw [if_pos (show nI o = (21:Int32) from (e 21 (by omega)).mpr c1), if_pos c1]
  rw [if_neg (show ¬ nI o = (21:Int32) from fun q => c1 ((e 21 (by omega)).mp q)), if_neg c1]
  by_cases c2 : o = 38
  · rw [if_pos (show nI o = (38:Int32) from (e 38 (by omega)).mpr c2), if_pos c2]
  rw [if_neg (show ¬ nI o = (38:Int32) from fun q => c2 ((e 38 (by omega)).mp q)), if_neg c2]
  by_cases c3 : o = 40
  · rw [if_pos (show nI o = (40:Int32) from (e 40 (by omega)).mpr c3), if_pos c3]
  rw [if_neg (show ¬ nI o = (40:Int32) from fun q => c3 ((e 40 (by omega)).mp q)), if_neg c3]
  by_cases c4 : o = 41
  · rw [if_pos (show nI o = (41:Int32) from (e 41 (by omega)).mpr c4), if_pos c4]
  rw [if_neg (show ¬ nI o = (41:Int32) from fun q => c4 ((e 41 (by omega)).mp q)), if_neg c4]
theorem c_hi (ho : o < 64) (σ : cl_S) : fc_X0_most (nI o) σ = some (hiV o, σ) := by
  unfold fc_X0_most bc_X0_most_0 hiV
  have e : ∀ d, d < 64 → (nI o = nI d ↔ o = d) := fun d hd => eq_l ho hd
  by_cases c1 : o = 21
  · rw [if_pos (show nI o = (21:Int32) from (e 21 (by omega)).mpr c1), if_pos c1]
  rw [if_neg (show ¬ nI o = (21:Int32) from fun q => c1 ((e 21 (by omega)).mp q)), if_neg c1]
  by_cases c3 : o = 40
  · rw [if_pos (show nI o = (40:Int32) from (e 40 (by omega)).mpr c3), if_pos c3]
  rw [if_neg (show ¬ nI o = (40:Int32) from fun q => c3 ((e 40 (by omega)).mp q)), if_neg c3]
  by_cases c4 : o = 41
  · rw [if_pos (show nI o = (41:Int32) from (e 41 (by omega)).mpr c4), if_pos c4]
  rw [if_neg (show ¬ nI o = (41:Int32) from fun q => c4 ((e 41 (by omega)).mp q)), if_neg c4]
/-- a value where no label may stand -/
theorem PR.vnum (h : PR σ1 ρ1 x n c i m l u pd σ ρ) (X : PX σ1 ρ1 x n c) (ho : o < 64) (hl : tlb o = false ∨ tK x n i ≠ 2) : ∃ v σ' ρ', fc_X0_readValue 6 (nI o) σ = some (v, σ') ∧ fq_wantsNumber (loV o) (hiV o) ρ = some (v, ρ') ∧ ((∃ i', i ≤ i' ∧ PR σ1 ρ1 x n c i' m l u pd σ' ρ' ∧ ¬ lg_cmp v (loV o) < 0 ∧ lg_cmp v (hiV o) ≤ 0) ∨ (v = 0 ∧ FR σ1 σ' ρ1 ρ' c)) := by
  obtain ⟨v, σ', ρ', e1, e2, R⟩ := h.num X (c_lo ho) (c_hi ho)
  refine ⟨v, σ', ρ', ?_, e2, R⟩
  unfold fc_X0_readValue bc_X0_readValue_0
  rw [if_pos h.ft.1, h.tok X, bd2_eq, c_tl ho, bd2_eq, e1]
  obtain ⟨k1, -⟩ := h.kd 2 (by omega)
  by_cases q : tK x n i = 2
  · rw [if_pos (show nI (tK x n i) = (2:Int32) from k1.mpr q)]
    rcases hl with w | w
    · rw [if_pos (bI_0.mpr w)]
    · exact absurd q w
  · rw [if_neg (show ¬ nI (tK x n i) = (2:Int32) from fun w => q (k1.mp w))]
/-- a value where a label may stand: the label -/
theorem PR.vlab {b : Bool} (h : PR σ1 ρ1 x n c i m l u none σ ρ) (X : PX σ1 ρ1 x n c) (ho : o < 64) (hm : m < 2048) (hl : tlb o = true) (q : tK x n i = 2) : ∃ σ' ρ', fc_X0_readValue 6 (nI o) σ = some (0, σ') ∧ fq_use_ (bI b) ρ = some ρ' ∧ PR σ1 ρ1 x n c (i + 1) m l u (some b) σ' ρ' := by
  obtain ⟨σ2, σ', ρ', e1, e2, e3, R⟩ := h.use (b := b) X hm q
  refine ⟨σ', ρ', ?_, e3, R⟩
  unfold fc_X0_readValue bc_X0_readValue_0
  obtain ⟨k1, -⟩ := h.kd 2 (by omega)
  rw [if_pos h.ft.1, h.tok X, bd2_eq, if_pos (show nI (tK x n i) = (2:Int32) from k1.mpr q), c_tl ho, bd2_eq, if_neg (fun w => by rw [bI_0.mp w] at hl; cases hl), e1, bd1_eq, e2, bd1_eq]
theorem L_rng {v : Int64} {lo hi : Nat} (hlo : lo < 4294967296) (hhi : hi < 4294967296) (h1 : ¬ lg_cmp v (Int64.ofNat lo) < 0) (h2 : lg_cmp v (Int64.ofNat hi) ≤ 0) : ∃ a, lo ≤ a ∧ a ≤ hi ∧ v = Int64.ofNat a := by
  have p1 : (lo : Int) ≤ v.toInt := by
    apply Classical.byContradiction
    intro q
    apply h1
    have : v < Int64.ofNat lo := Int64.lt_iff_toInt_lt.mpr (by rw [L_toInt (by omega)]; omega)
    unfold lg_cmp
    rw [if_neg (fun w => by have := Int64.lt_iff_toInt_lt.mp w; rw [L_toInt (by omega)] at this; omega), if_neg (fun w => by rw [w, L_toInt (by omega)] at q; omega)]
    decide
  have p2 : v.toInt ≤ (hi : Int) := by
    apply Classical.byContradiction
    intro q
    have : Int64.ofNat hi < v := Int64.lt_iff_toInt_lt.mpr (by rw [L_toInt (by omega)]; omega)
    unfold lg_cmp at h2
    rw [if_pos this] at h2
    exact absurd h2 (by decide)
  refine ⟨v.toInt.toNat, by omega, by omega, ?_⟩
  rw [← Int64.toInt_inj, L_toInt (by omega)]
  omega
theorem or_0 {a b : Int32} (h : a ||| b = 0) : a = 0 := by
  apply Int32.toBitVec.inj
  have := congrArg Int32.toBitVec h
  rw [Int32.toBitVec_or] at this
  apply BitVec.eq_of_getLsbD_eq
  intro i hi
  have := congrArg (fun z : BitVec 32 => z.getLsbD i) this
  simp only [BitVec.getLsbD_or] at this
  rw [show (Int32.toBitVec 0) = 0#32 from rfl, BitVec.getLsbD_zero] at this ⊢
  exact (Bool.or_eq_false_iff.mp this).1
theorem op_nz : ∀ o, o < 64 → 0 < o → nI o <<< ((26:Int32) &&& 31) ≠ 0 := by decide
end Z2_ZC
