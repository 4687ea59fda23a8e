section Z2_ZH
variable {σ σ' σ1 : cl_S} {ρ ρ' ρ1 : rf_S} {x : Nat → Nat} {n c i m l u o : Nat} {pd : Option Bool} {t : List Nat}
/-- the outcome of a line -/
def LO (σ1 : cl_S) (ρ1 : rf_S) (x : Nat → Nat) (n c i : Nat) (A : Option cl_S) (B : Option (rf_S ⊕ rf_S)) : Prop := ∃ σ' ρ', A = some σ' ∧ B = some (.inl ρ') ∧ ((∃ i' m' l' u', (i < i' ∨ tK x n i' = 0) ∧ PR σ1 ρ1 x n c i' m' l' u' none σ' ρ') ∨ FR σ1 σ' ρ1 ρ' c)
/-- the end of a line, on both sides -/
theorem l_end (h : PR σ1 ρ1 x n c i m l u none σ ρ) (X : PX σ1 ρ1 x n c) {i0 : Nat} (h0 : i0 ≤ i) : LO σ1 ρ1 x n c i0 (bc_X0_readLine_141 6 σ) (bq_assemble_55i29 ρ) := by
  unfold bq_assemble_55i29
  rw [if_pos h.ft.2]
  obtain ⟨k1, k2⟩ := h.kd 0 (by omega)
  by_cases q : tK x n i = 0
  · rw [if_pos (show ρ.1 0 44 = 0 from k2.mpr q), h.lend X q]
    exact ⟨σ, ρ, rfl, rfl, Or.inl ⟨i, m, l, u, Or.inr q, h⟩⟩
  · rw [if_neg (show ¬ ρ.1 0 44 = 0 from fun w => q (k2.mp w))]
    obtain ⟨σ', ρ', e1, e2, R⟩ := h.line X q
    rw [e1, e2, bd1_eq]
    refine ⟨σ', ρ', rfl, rfl, ?_⟩
    rcases R with ⟨-, R⟩ | R
    · exact Or.inl ⟨i + 1, m, l, u, Or.inl (by omega), R⟩
    · exact Or.inr R
theorem l_endF (h : FR σ1 σ ρ1 ρ c) (X : PX σ1 ρ1 x n c) {i0 : Nat} : LO σ1 ρ1 x n c i0 (bc_X0_readLine_141 6 σ) (bq_assemble_55i29 ρ) := by
  unfold bq_assemble_55i29
  rw [if_neg h.nz.2.1]
  obtain ⟨σ', e, R⟩ := h.lend X
  exact ⟨σ', ρ, e, rfl, Or.inr R⟩
theorem l_stmt {A : Option cl_S} {B : Option rf_S} (X : PX σ1 ρ1 x n c) {i0 : Nat} (h0 : i0 ≤ i) (h : SO σ1 ρ1 x n c i l A B) : LO σ1 ρ1 x n c i0 (bd1 A (fun σ_54 => bc_X0_readLine_141 6 σ_54)) (bd1 (bd1 B (fun ρ_4 => some ρ_4)) (fun ρ_8 => bq_assemble_55i29 ρ_8)) := by
  obtain ⟨σ', ρ', rfl, rfl, r⟩ := h
  rw [bd1_eq, bd1_eq, bd1_eq]
  rcases r with ⟨i', m', u', hi, R⟩ | R
  · exact l_end R X (by omega)
  · exact l_endF R X
/-- the class at a name that begins a statement -/
theorem c_88 (h : PR σ1 ρ1 x n c i m l u none σ ρ) (X : PX σ1 ρ1 x n c) (q : tK x n i = 2) (hs : fc_X0_advance 6 σ = some σ') : bc_X0_readLine_88 6 σ = bd1 (fc_X0_readStatement 6 (Int64.ofNat (enc 256 (tokN x n (tp x n i)))) (nI (tp x n i)) σ') (fun σ_54 => bc_X0_readLine_141 6 σ_54) := by
  have c6 := X.c6
  have ic := h.ic
  unfold bc_X0_readLine_88
  obtain ⟨k1, k2⟩ := h.kd 2 (by omega)
  rw [h.tok X, bd2_eq, if_pos (show nI (tK x n i) = (2:Int32) from k1.mpr q), if_pos h.ft.1, h.a, n_ix (show i < 6001 by omega) (by omega), vl_eq, n_ix (show i < 6001 by omega) (by omega), vl_eq, n_cl (show i < 2147483648 by omega), show (1 + 4) = 5 from rfl, show (1 + 3) = 4 from rfl, h.F.val, X.v2 i h.ic q, h.F.plc X h.ic, hs, bd1_eq]
theorem c_88n (h : PR σ1 ρ1 x n c i m l u none σ ρ) (X : PX σ1 ρ1 x n c) (q : ¬ tK x n i = 2) : bc_X0_readLine_88 6 σ = bc_X0_readLine_141 6 σ := by
  unfold bc_X0_readLine_88
  obtain ⟨k1, k2⟩ := h.kd 2 (by omega)
  rw [h.tok X, bd2_eq, if_neg (show ¬ nI (tK x n i) = (2:Int32) from fun w => q (k1.mp w))]
theorem c_88F (h : FR σ1 σ ρ1 ρ c) (X : PX σ1 ρ1 x n c) : bc_X0_readLine_88 6 σ = bc_X0_readLine_141 6 σ := by
  obtain ⟨k, ek⟩ := h.tok X
  unfold bc_X0_readLine_88
  rw [ek, bd2_eq]
  by_cases q : k = (2:Int32)
  · rw [if_pos q, if_neg h.nz.1]
  · rw [if_neg q]
/-- one line -/
theorem PR.aline (h : PR σ1 ρ1 x n c i m l u none σ ρ) (X : PX σ1 ρ1 x n c) (h0 : tK x n i ≠ 0) : LO σ1 ρ1 x n c i (fc_X0_readLine 6 σ) (lq_assemble_29 ρ) := by
  have c6 := X.c6
  have ic := h.ic
  obtain ⟨z1, z2⟩ := h.kd 0 (by omega)
  obtain ⟨k1, k2⟩ := h.kd 2 (by omega)
  have e16 : σ.1 1 6 = nI (c + 1) := by rw [h.F.I 1 6 (by decide) (by decide) (by decide) (by decide) (by decide), X.cn]
  -- whether the next is a colon
  have hl : fc_X0_readLine 6 σ = bc_X0_readLine_39 6 (bI (decide (i < c ∧ tK x n (i + 1) = 5))) σ := by
    unfold fc_X0_readLine bc_X0_readLine_0 bc_X0_readLine_38
    rw [e16, h.a, show nI i + (1:Int32) = nI (i + 1) from n_add i 1]
    by_cases q : i < c
    · rw [if_neg (fun w => by have := (n_le (by omega) (by omega)).mp w; omega), n_ix (show i + 1 < 6001 by omega) (by omega), n_cl (show i + 1 < 2147483648 by omega), show (1 + 2) = 3 from rfl, h.F.I 3 (i + 1) (by decide) (by decide) (by decide) (by decide) (by omega), X.k (i + 1) (by omega)]
      have kl := tK_lt (x := x) (n := n) (i + 1)
      by_cases w : tK x n (i + 1) = 5
      · rw [if_pos (show nI (tK x n (i + 1)) = (5:Int32) by rw [w]; rfl)]
        have : decide (i < c ∧ tK x n (i + 1) = 5) = true := decide_eq_true ⟨q, w⟩
        rw [this]; rfl
      · rw [if_neg (show ¬ nI (tK x n (i + 1)) = (5:Int32) from fun r => w ((n_eq (a := tK x n (i + 1)) (b := 5) (by omega) (by omega)).mp r))]
        have : decide (i < c ∧ tK x n (i + 1) = 5) = false := decide_eq_false (fun r => w r.2)
        rw [this]; rfl
    · rw [if_pos ((n_le (by omega) (by omega)).mpr (by omega))]
      have : decide (i < c ∧ tK x n (i + 1) = 5) = false := decide_eq_false (fun r => q r.1)
      rw [this]; rfl
  rw [hl]
  unfold bc_X0_readLine_39 lq_assemble_29
  rw [h.tok X, bd2_eq, if_neg (show ¬ ρ.1 0 44 = 0 from fun w => h0 (z2.mp w)), if_pos h.ft.2]
  by_cases q : tK x n i = 2
  rotate_left
  · rw [if_neg (show ¬ nI (tK x n i) = (2:Int32) from fun w => q (k1.mp w)), if_neg (show ¬ ρ.1 0 44 = (1:Int32) from fun w => q (k2.mp w)), c_88n h X q]
    exact l_end h X (Nat.le_refl _)
  rw [if_pos (show nI (tK x n i) = (2:Int32) from k1.mpr q), if_pos (show ρ.1 0 44 = (1:Int32) from k2.mpr q)]
  have hc : i < c := X.lt h.ic (nf (by omega) (by omega))
  obtain ⟨σa, ρa, a1, a2, Ra⟩ := h.adv X hc
  obtain ⟨nm, nb, n0⟩ := tK_2 q
  unfold fq_line bq_line_0
  rw [vl_eq, vl_eq, a2, bd1_eq, h.tv2 q, h.tpl]
  obtain ⟨c1, c2⟩ := Ra.kd 5 (by omega)
  by_cases w : tK x n (i + 1) = 5
  rotate_left
  · have : decide (i < c ∧ tK x n (i + 1) = 5) = false := decide_eq_false (fun r => w r.2)
    rw [this, if_pos (show bI false = 0 from rfl), if_neg (show ¬ ρa.1 0 44 = (4:Int32) from fun r => w (c2.mp r)), c_88 h X q a1]
    unfold bq_line_62
    exact l_stmt X (Nat.le_succ i) (s_stmt Ra X nm)
  have : decide (i < c ∧ tK x n (i + 1) = 5) = true := decide_eq_true ⟨hc, w⟩
  rw [this, if_neg (show ¬ bI true = 0 by decide), if_pos (show ρa.1 0 44 = (4:Int32) from c2.mpr w), h.a, n_ix (show i < 6001 by omega) (by omega), n_ix (show i < 6001 by omega) (by omega), n_cl (show i < 2147483648 by omega), show (1 + 4) = 5 from rfl, show (1 + 3) = 4 from rfl, h.F.val, X.v2 i h.ic q, h.F.plc X h.ic]
  -- the class tells before it goes on
  have ea : σa = cl_w σ 6 2 (nI (i + 1)) := by
    unfold fc_X0_advance bc_X0_advance_0 at a1
    rw [h.a, e16, show nI i + (1:Int32) = nI (i + 1) from n_add i 1, if_neg (fun w => by have := (n_le (by omega) (by omega)).mp w; omega), vl_eq] at a1
    exact (Option.some.inj a1).symm
  obtain ⟨σb, ρb, b1, b2, Rb⟩ := Ra.label (pl := nI (tp x n i)) nm
  rw [ea] at b1
  obtain ⟨σt, t1, t2, t3, t4⟩ := c_tell_adv nm h.l1 h.l3 (fun j hj => by obtain ⟨s, a, b, -⟩ := h.ln j hj; exact ⟨s, a, b⟩) h.m1 h.ft.1 b1
  have t5 : fc_X0_advance 6 σt = some σb := by
    unfold fc_X0_advance bc_X0_advance_0
    rw [t3, t4, h.a, e16, show nI i + (1:Int32) = nI (i + 1) from n_add i 1, if_neg (fun w => by have := (n_le (by omega) (by omega)).mp w; omega), vl_eq, t2]
  rw [t1, bd1_eq, t5, bd1_eq, b2, bd1_eq]
  rcases Rb with Rb | ⟨Rb, hb48⟩
  · -- the label is told
    obtain ⟨σd, ρd, d1, d2, Rd⟩ := Rb.adv X (X.lt Rb.ic (nf (by omega) (by omega)))
    rw [d1, d2, bd1_eq, bd1_eq]
    obtain ⟨e1, e2⟩ := Rd.kd 2 (by omega)
    by_cases r : tK x n (i + 1 + 1) = 2
    · rw [if_pos (show ρd.1 0 44 = (1:Int32) from e2.mpr r), if_pos (show ρd.1 0 39 ≤ 0 by rw [Rd.ft.2]; exact Int32.le_refl _)]
      obtain ⟨σf, ρf, f1, f2, Rf⟩ := Rd.adv X (X.lt Rd.ic (nf (by omega) (by omega)))
      obtain ⟨nm', -, -⟩ := tK_2 r
      rw [c_88 Rd X r f1, vl_eq, vl_eq, f2, bd1_eq, Rd.tv2 r, Rd.tpl]
      unfold bq_line_62
      exact l_stmt X (by omega) (s_stmt Rf X nm')
    · rw [if_neg (show ¬ ρd.1 0 44 = (1:Int32) from fun w => r (e2.mp w)), bd1_eq, c_88n Rd X r]
      exact l_end Rd X (by omega)
  · obtain ⟨σd, d1, Rd⟩ := Rb.adv X
    obtain ⟨ρd, d2, K⟩ := q_next (Rb.F.T X) (ep_le (x := x) (i + 1 + 1)) (by rw [hb48]; exact Ra.te)
    have Re : FR σ1 σd ρ1 ρd c := ⟨Rd.F.nx K, Rd.a, by rw [K.f 39 (by decide) (by decide) (by decide)]; exact Rd.ft, by rw [K.f 40 (by decide) (by decide) (by decide)]; exact Rd.fp⟩
    rw [d1, d2, bd1_eq, bd1_eq, c_88F Re X, if_neg Re.nz.2.2]
    rw [show (if ρd.1 0 44 = (1:Int32) then some ρd else some ρd) = some ρd by split <;> rfl, bd1_eq]
    exact l_endF Re X
/-- all lines -/
theorem PR.lines (X : PX σ1 ρ1 x n c) : ∀ q k i m l u σ ρ, c + 1 - i ≤ q → (k ≤ i ∨ tK x n i = 0) → k < 2000000000 → PR σ1 ρ1 x n c i m l u none σ ρ → ∃ σ' ρ' y, lp (fun z : (Int32 × cl_S) => lc_X0_translate_39 6 z.1 z.2) (nI k, σ) = some (y, σ') ∧ lp (fun z : rf_S => lq_assemble_29 z) ρ = some ρ' ∧ ((∃ i' m' l' u', PR σ1 ρ1 x n c i' m' l' u' none σ' ρ') ∨ FR σ1 σ' ρ1 ρ' c) := by
  have c6 := X.c6
  -- at the end of the text
  have stop : ∀ k i m l u σ ρ, PR σ1 ρ1 x n c i m l u none σ ρ → tK x n i = 0 → lp (fun z : (Int32 × cl_S) => lc_X0_translate_39 6 z.1 z.2) (nI k, σ) = some (nI k, σ) ∧ lp (fun z : rf_S => lq_assemble_29 z) ρ = some ρ := by
    intro k i m l u σ ρ h q
    obtain ⟨z1, z2⟩ := h.kd 0 (by omega)
    refine ⟨?_, ?_⟩
    · refine lp_end (s := (nI k, σ)) ?_
      show lc_X0_translate_39 6 (nI k) σ = _
      unfold lc_X0_translate_39
      rw [if_pos h.ft.1, h.tok X, bd2_eq, if_pos (show nI (tK x n i) = 0 from z1.mpr q)]
      split <;> rfl
    · refine lp_end ?_
      show lq_assemble_29 ρ = _
      unfold lq_assemble_29
      rw [if_pos (show ρ.1 0 44 = 0 from z2.mpr q)]
  have stopF : ∀ k σ ρ, FR σ1 σ ρ1 ρ c → lp (fun z : (Int32 × cl_S) => lc_X0_translate_39 6 z.1 z.2) (nI k, σ) = some (nI k, σ) ∧ lp (fun z : rf_S => lq_assemble_29 z) ρ = some ρ := by
    intro k σ ρ h
    refine ⟨?_, ?_⟩
    · refine lp_end (s := (nI k, σ)) ?_
      show lc_X0_translate_39 6 (nI k) σ = _
      unfold lc_X0_translate_39
      rw [if_neg h.nz.1]
      split <;> rfl
    · refine lp_end ?_
      show lq_assemble_29 ρ = _
      unfold lq_assemble_29
      rw [if_neg h.nz.2.1]
      split <;> rfl
  intro q
  induction q with
  | zero =>
    intro k i m l u σ ρ hq hk hk2 h
    have := h.ic
    omega
  | succ q ih =>
    intro k i m l u σ ρ hq hk hk2 h
    by_cases z : tK x n i = 0
    · obtain ⟨e1, e2⟩ := stop k i m l u σ ρ h z
      exact ⟨σ, ρ, nI k, e1, e2, Or.inl ⟨i, m, l, u, h⟩⟩
    have hki : k ≤ i := hk.resolve_right z
    have ic := h.ic
    obtain ⟨z1, z2⟩ := h.kd 0 (by omega)
    obtain ⟨σ2, ρ2, e1, e2, R⟩ := h.aline X z
    have st : lc_X0_translate_39 6 (nI k) σ = some (.inl (nI (k + 1), σ2)) := by
      unfold lc_X0_translate_39
      rw [if_neg (show ¬ (6000:Int32) < nI k from fun w => by have := (n_lt (a := 6000) (b := k) (by omega) (by omega)).mp w; omega), if_pos h.ft.1, h.tok X, bd2_eq, if_neg (show ¬ nI (tK x n i) = 0 from fun w => z (z1.mp w)), e1, bd1_eq, vl_eq, show nI k + (1:Int32) = nI (k + 1) from n_add k 1]
    rw [lp_next (s := (nI k, σ)) st, lp_next (s := ρ) e2]
    rcases R with ⟨i', m', l', u', hi, R⟩ | R
    · by_cases z' : tK x n i' = 0
      · obtain ⟨g1, g2⟩ := stop (k + 1) i' m' l' u' σ2 ρ2 R z'
        exact ⟨σ2, ρ2, nI (k + 1), g1, g2, Or.inl ⟨i', m', l', u', R⟩⟩
      · have hi' := hi.resolve_right z'
        exact ih (k + 1) i' m' l' u' σ2 ρ2 (by omega) (Or.inl (by omega)) (by have := R.ic; omega) R
    · obtain ⟨g1, g2⟩ := stopF (k + 1) σ2 ρ2 R
      exact ⟨σ2, ρ2, nI (k + 1), g1, g2, Or.inr R⟩
end Z2_ZH
