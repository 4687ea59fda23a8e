section Z2_ZI
variable {σ σ' σ1 : cl_S} {ρ ρ' ρ1 : rf_S} {x : Nat → Nat} {n c i m l u o k : Nat} {t : List Nat}
/-- the uses below k are settled -/
def SS (σ1 : cl_S) (ρ1 : rf_S) (m l u k : Nat) (σ : cl_S) (ρ : rf_S) : Prop := (PF σ1 σ ρ1 ρ) ∧ (σ.1 6 4 = nI m) ∧ (ρ.1 0 30 = nI m) ∧ (m ≤ 2048) ∧ (∀ j, j < m → σ.1 8 j = ρ.1 18 j) ∧ (σ.1 6 7 = nI l) ∧ (ρ.1 0 33 = nI l) ∧ (l ≤ 200) ∧ (∀ j, j < l → ∃ t, Nm t ∧ σ.2.1 9 j = Int64.ofNat (enc 256 t) ∧ ρ.2 19 j = Int64.ofNat (enc 128 t) ∧ ∃ w, w ≤ 2048 ∧ σ.1 10 j = nI w ∧ ρ.1 20 j = nI w) ∧ (σ.1 6 11 = nI u) ∧ (ρ.1 0 38 = nI u) ∧ (u ≤ m) ∧ (∀ j, j < u → (∃ t, Nm t ∧ σ.2.1 11 j = Int64.ofNat (enc 256 t) ∧ ρ.2 23 j = Int64.ofNat (enc 128 t)) ∧ σ.1 13 j = ρ.1 22 j) ∧ (∀ j, k ≤ j → j < u → ∃ w, w < m ∧ σ.1 12 j = nI w ∧ ρ.1 21 j = nI w ∧ ((ρ.1 24 j = 0 ∧ σ.1 8 w ≠ 0) ∨ (ρ.1 24 j = 1 ∧ σ.1 8 w = 0))) ∧ (∀ j k, j < k → k < u → σ.1 12 j ≠ σ.1 12 k) ∧ (σ.1 6 12 = 0 ∧ ρ.1 0 39 = 0) ∧ (σ.1 6 13 = -1)
theorem SS.F {σ1 : cl_S} {ρ1 : rf_S} {m l u k : Nat} {σ : cl_S} {ρ : rf_S} (hS : SS σ1 ρ1 m l u k σ ρ) : PF σ1 σ ρ1 ρ := hS.1
theorem SS.m1 {σ1 : cl_S} {ρ1 : rf_S} {m l u k : Nat} {σ : cl_S} {ρ : rf_S} (hS : SS σ1 ρ1 m l u k σ ρ) : σ.1 6 4 = nI m := hS.2.1
theorem SS.m2 {σ1 : cl_S} {ρ1 : rf_S} {m l u k : Nat} {σ : cl_S} {ρ : rf_S} (hS : SS σ1 ρ1 m l u k σ ρ) : ρ.1 0 30 = nI m := hS.2.2.1
theorem SS.m3 {σ1 : cl_S} {ρ1 : rf_S} {m l u k : Nat} {σ : cl_S} {ρ : rf_S} (hS : SS σ1 ρ1 m l u k σ ρ) : m ≤ 2048 := hS.2.2.2.1
theorem SS.w {σ1 : cl_S} {ρ1 : rf_S} {m l u k : Nat} {σ : cl_S} {ρ : rf_S} (hS : SS σ1 ρ1 m l u k σ ρ) : ∀ j, j < m → σ.1 8 j = ρ.1 18 j := hS.2.2.2.2.1
theorem SS.l1 {σ1 : cl_S} {ρ1 : rf_S} {m l u k : Nat} {σ : cl_S} {ρ : rf_S} (hS : SS σ1 ρ1 m l u k σ ρ) : σ.1 6 7 = nI l := hS.2.2.2.2.2.1
theorem SS.l2 {σ1 : cl_S} {ρ1 : rf_S} {m l u k : Nat} {σ : cl_S} {ρ : rf_S} (hS : SS σ1 ρ1 m l u k σ ρ) : ρ.1 0 33 = nI l := hS.2.2.2.2.2.2.1
theorem SS.l3 {σ1 : cl_S} {ρ1 : rf_S} {m l u k : Nat} {σ : cl_S} {ρ : rf_S} (hS : SS σ1 ρ1 m l u k σ ρ) : l ≤ 200 := hS.2.2.2.2.2.2.2.1
theorem SS.ln {σ1 : cl_S} {ρ1 : rf_S} {m l u k : Nat} {σ : cl_S} {ρ : rf_S} (hS : SS σ1 ρ1 m l u k σ ρ) : ∀ j, j < l → ∃ t, Nm t ∧ σ.2.1 9 j = Int64.ofNat (enc 256 t) ∧ ρ.2 19 j = Int64.ofNat (enc 128 t) ∧ ∃ w, w ≤ 2048 ∧ σ.1 10 j = nI w ∧ ρ.1 20 j = nI w := hS.2.2.2.2.2.2.2.2.1
theorem SS.u1 {σ1 : cl_S} {ρ1 : rf_S} {m l u k : Nat} {σ : cl_S} {ρ : rf_S} (hS : SS σ1 ρ1 m l u k σ ρ) : σ.1 6 11 = nI u := hS.2.2.2.2.2.2.2.2.2.1
theorem SS.u2 {σ1 : cl_S} {ρ1 : rf_S} {m l u k : Nat} {σ : cl_S} {ρ : rf_S} (hS : SS σ1 ρ1 m l u k σ ρ) : ρ.1 0 38 = nI u := hS.2.2.2.2.2.2.2.2.2.2.1
theorem SS.u3 {σ1 : cl_S} {ρ1 : rf_S} {m l u k : Nat} {σ : cl_S} {ρ : rf_S} (hS : SS σ1 ρ1 m l u k σ ρ) : u ≤ m := hS.2.2.2.2.2.2.2.2.2.2.2.1
theorem SS.un {σ1 : cl_S} {ρ1 : rf_S} {m l u k : Nat} {σ : cl_S} {ρ : rf_S} (hS : SS σ1 ρ1 m l u k σ ρ) : ∀ j, j < u → (∃ t, Nm t ∧ σ.2.1 11 j = Int64.ofNat (enc 256 t) ∧ ρ.2 23 j = Int64.ofNat (enc 128 t)) ∧ σ.1 13 j = ρ.1 22 j := hS.2.2.2.2.2.2.2.2.2.2.2.2.1
theorem SS.uw {σ1 : cl_S} {ρ1 : rf_S} {m l u k : Nat} {σ : cl_S} {ρ : rf_S} (hS : SS σ1 ρ1 m l u k σ ρ) : ∀ j, k ≤ j → j < u → ∃ w, w < m ∧ σ.1 12 j = nI w ∧ ρ.1 21 j = nI w ∧ ((ρ.1 24 j = 0 ∧ σ.1 8 w ≠ 0) ∨ (ρ.1 24 j = 1 ∧ σ.1 8 w = 0)) := hS.2.2.2.2.2.2.2.2.2.2.2.2.2.1
theorem SS.ui {σ1 : cl_S} {ρ1 : rf_S} {m l u k : Nat} {σ : cl_S} {ρ : rf_S} (hS : SS σ1 ρ1 m l u k σ ρ) : ∀ j k, j < k → k < u → σ.1 12 j ≠ σ.1 12 k := hS.2.2.2.2.2.2.2.2.2.2.2.2.2.2.1
theorem SS.ft {σ1 : cl_S} {ρ1 : rf_S} {m l u k : Nat} {σ : cl_S} {ρ : rf_S} (hS : SS σ1 ρ1 m l u k σ ρ) : σ.1 6 12 = 0 ∧ ρ.1 0 39 = 0 := hS.2.2.2.2.2.2.2.2.2.2.2.2.2.2.2.1
theorem SS.fp {σ1 : cl_S} {ρ1 : rf_S} {m l u k : Nat} {σ : cl_S} {ρ : rf_S} (hS : SS σ1 ρ1 m l u k σ ρ) : σ.1 6 13 = -1 := hS.2.2.2.2.2.2.2.2.2.2.2.2.2.2.2.2
/-- the end: no fault, or the same fault -/
def EN (σ1 : cl_S) (ρ1 : rf_S) (σ : cl_S) (ρ : rf_S) : Prop := PF σ1 σ ρ1 ρ ∧ ((σ.1 6 12 = 0 ∧ ρ.1 0 39 = 0 ∧ σ.1 6 13 = -1 ∧ ∃ m, m ≤ 2048 ∧ σ.1 6 4 = nI m ∧ ρ.1 0 30 = nI m ∧ ∀ j, j < m → σ.1 8 j = ρ.1 18 j) ∨ (∃ f, 0 < f ∧ f < 8 ∧ σ.1 6 12 = nI f ∧ ρ.1 0 39 = nI f ∧ σ.1 6 13 = ρ.1 0 40))
theorem FR.en (h : FR σ1 σ ρ1 ρ c) : EN σ1 ρ1 σ ρ := by
  obtain ⟨f, a, b, d, e⟩ := h.ft
  exact ⟨h.F, Or.inr ⟨f, a, b, d, e, h.fp⟩⟩
/-- the reference looks a label up for use k -/
theorem q_fnd {M : Nat → Prop} (l2 : ρ.1 0 33 = nI l) (l3 : l ≤ 200) (hk : k < 2048) (cmp : ∀ j, j < l → (lg_cmp (ρ.2 19 j) (ρ.2 23 k) = 0 ↔ M j)) (r : Nat) (h : (r < l ∧ M r ∧ ∀ j, j < r → ¬ M j) ∨ (r = l ∧ ∀ j, j < l → ¬ M j)) : lp (fun z : (Int32 × rf_S) => lq_assemble_97i80 (nI k) z.1 z.2) ((0:Int32), ρ) = some (nI r, ρ) := by
  have main : ∀ q j, l - j = q → j ≤ l → (∀ k, k < j → ¬ M k) → lp (fun z : (Int32 × rf_S) => lq_assemble_97i80 (nI k) z.1 z.2) (nI j, ρ) = some (nI r, ρ) := by
    intro q
    induction q with
    | zero =>
      intro j hq hj hb
      have e : j = l := by omega
      subst e
      have : r = j := by
        rcases h with ⟨a, b, -⟩ | ⟨e, -⟩
        · exact absurd b (hb r a)
        · exact e
      rw [this]
      refine lp_end (s := (nI j, ρ)) ?_
      show lq_assemble_97i80 (nI k) (nI j) ρ = _
      unfold lq_assemble_97i80
      rw [l2, if_pos (Int32.le_refl _)]
    | succ q ih =>
      intro j hq hj hb
      have st : lq_assemble_97i80 (nI k) (nI j) ρ = if lg_cmp (ρ.2 19 j) (ρ.2 23 k) = 0 then some (.inr (nI j, ρ)) else some (.inl (nI (j + 1), ρ)) := by
        unfold lq_assemble_97i80
        rw [l2, if_neg (fun q => by have := (n_le (by omega) (by omega)).mp q; omega), n_ix (show j < 200 by omega) (by omega), n_ix hk (by omega), n_cl (show j < 2147483648 by omega), n_cl (show k < 2147483648 by omega), vl_eq, show nI j + (1:Int32) = nI (j + 1) from n_add j 1]
      by_cases c : M j
      · rw [if_pos ((cmp j (by omega)).mpr c)] at st
        have : r = j := by
          rcases h with ⟨a, b, d⟩ | ⟨-, w⟩
          · rcases Nat.lt_trichotomy r j with q | q | q
            · exact absurd b (hb r q)
            · exact q
            · exact absurd c (d j q)
          · exact absurd c (w j (by omega))
        rw [this]
        exact lp_end (s := (nI j, ρ)) st
      · rw [if_neg (fun w => c ((cmp j (by omega)).mp w))] at st
        rw [lp_next (s := (nI j, ρ)) st]
        exact ih (j + 1) (by omega) (by omega) (fun k hk => by
          by_cases q : k = j
          · rw [q]; exact c
          · exact hb k (by omega))
  exact main l 0 (by omega) (by omega) (fun k hk => by omega)
/-- settling one use -/
theorem SS.one (h : SS σ1 ρ1 m l u k σ ρ) (hk : k < u) : ∃ σ' ρ', fc_X0_settleUse 6 (nI k) σ = some σ' ∧ bq_assemble_97i80 (nI k) (0:Int32) ρ = some (.inl (nI (k + 1), ρ')) ∧ (SS σ1 ρ1 m l u (k + 1) σ' ρ' ∨ (EN σ1 ρ1 σ' ρ' ∧ ¬ σ'.1 6 12 = 0 ∧ ¬ ρ'.1 0 39 = 0)) := by
  have m3 := h.m3
  have u3 := h.u3
  have l3 := h.l3
  have k48 : k < 2048 := by omega
  have ixk : ∀ {α : Type} (w : Option α), ix (nI k) 2048 w = w := fun w => n_ix k48 (by omega)
  have nck : (nI k).toNatClampNeg = k := n_cl (by omega)
  obtain ⟨⟨t, ht, et1, et2⟩, ep⟩ := h.un k hk
  have nm : ∀ j, j < l → ∃ s, Nm s ∧ σ.2.1 9 j = Int64.ofNat (enc 256 s) := fun j hj => by obtain ⟨s, a, b, -⟩ := h.ln j hj; exact ⟨s, a, b⟩
  have cmp : ∀ j, j < l → (lg_cmp (ρ.2 19 j) (ρ.2 23 k) = 0 ↔ Mt σ t j) := by
    intro j hj
    obtain ⟨s, a, b, d, -⟩ := h.ln j hj
    unfold Mt
    rw [d, b, et2, Nm.q a ht]
    refine ⟨?_, ?_⟩
    · intro q; rw [q]
    · intro q; exact (Nm.c a ht).mp (by rw [q, lg_v (ht.lt.1) (ht.lt.1), if_neg (Nat.lt_irrefl _), if_pos rfl])
  have t212 : ∀ ρ2 : rf_S, bq_assemble_212i80 (nI k) ρ2 = some (.inl (nI (k + 1), ρ2)) := by
    intro ρ2
    unfold bq_assemble_212i80
    rw [vl_eq, show nI k + (1:Int32) = nI (k + 1) from n_add k 1]
  unfold fc_X0_settleUse bc_X0_settleUse_0 bq_assemble_97i80
  rw [ixk, nck, show (6 + 5) = 11 from rfl, et1]
  rcases lab_first (Mt σ t) l with ⟨j, a, b, d⟩ | w
  rotate_left
  · -- not told
    rw [c_lab ht h.l1 h.l3 nm (-1) (Or.inr ⟨w, rfl⟩), bd2_eq, if_neg r_neg, q_fnd h.l2 h.l3 k48 cmp l (Or.inr ⟨rfl, w⟩), Option.bind_some]
    unfold eq_assemble_97i80 bq_assemble_127i80 fc_X0_fail bc_X0_fail_0 fq_fault bq_fault_0
    rw [h.l2, if_pos rfl, ixk, ixk, nck, if_pos h.ft.1, if_pos h.ft.2, vl_eq, vl_eq, vl_eq, vl_eq, bd1_eq, bd1_eq, t212, show (6 + 7) = 13 from rfl, ep]
    refine ⟨_, _, rfl, rfl, Or.inr ⟨⟨((((h.F.w6 (by omega)).w6 (by omega)).q0 (by omega)).q0 (by omega)), Or.inr ⟨7, by omega, by omega, by rw [r_wk (by decide), r_ws]; rfl, by rw [q_wk (by decide), q_ws]; rfl, by rw [r_ws, q_ws]⟩⟩, ?_, ?_⟩⟩
    · rw [r_wk (by decide), r_ws]; decide
    · rw [q_wk (by decide), q_ws]; decide
  rw [c_lab ht h.l1 h.l3 nm (nI j) (Or.inl ⟨j, a, b, d, rfl⟩), bd2_eq, if_pos (show (0:Int32) ≤ nI j from (n_le (a := 0) (b := j) (by omega) (by omega)).mpr (by omega)), q_fnd h.l2 h.l3 k48 cmp j (Or.inl ⟨a, b, d⟩), Option.bind_some]
  obtain ⟨-, -, -, -, tg, htg, eg1, eg2⟩ := h.ln j a
  obtain ⟨wu, hwu, ew1, ew2, fl⟩ := h.uw k (Nat.le_refl _) hk
  have ixw : ∀ {α : Type} (w : Option α), ix (nI wu) 2048 w = w := fun w => n_ix (by omega) (by omega)
  have ncw : (nI wu).toNatClampNeg = wu := n_cl (by omega)
  have ixj : ∀ {α : Type} (w : Option α), ix (nI j) 200 w = w := fun w => n_ix (by omega) (by omega)
  have ncj : (nI j).toNatClampNeg = j := n_cl (by omega)
  have eQ : bq_assemble_127i80 (nI k) (nI j) ρ = if ρ.1 24 k = 0 then some (.inl (nI (k + 1), rf_w ρ 18 wu ((ρ.1 18 wu) ||| ((nI tg - nI wu) &&& (262143:Int32))))) else some (.inl (nI (k + 1), rf_w ρ 18 wu ((4:Int32) * nI tg))) := by
    unfold bq_assemble_127i80
    rw [h.l2, if_neg (fun q => by have := (n_eq (by omega) (by omega)).mp q; omega), ixk, nck, ew2, ncj, eg2, ncw, vl_eq, vl_eq, t212, t212]
    simp only [ixk, ixw, ixj]
  have eC : ∀ (z : Option cl_S), (if σ.1 8 wu = 0 then some (cl_w σ 8 wu ((4:Int32) * nI tg)) else some (cl_w σ 8 wu ((σ.1 8 wu) ||| ((nI tg - nI wu) &&& (262143:Int32))))) = z → ix (nI k) 2048 (vl (σ.1 (6 + 6) k) (fun x3_12 => ix (nI j) 200 (vl (σ.1 (6 + 4) (nI j).toNatClampNeg) (fun x4_17 => ix x3_12 2048 ((if (σ.1 (6 + 2) x3_12.toNatClampNeg) = 0 then ix x3_12 2048 (vl (cl_w σ (6 + 2) x3_12.toNatClampNeg ((4:Int32) * x4_17)) (fun σ_30 => some σ_30)) else ix x3_12 2048 (ix x3_12 2048 (vl (cl_w σ (6 + 2) x3_12.toNatClampNeg ((σ.1 (6 + 2) x3_12.toNatClampNeg) ||| ((x4_17 - x3_12) &&& (262143:Int32)))) (fun σ_24 => some σ_24))))))))) = z := by
    intro z hz
    rw [ixk, vl_eq, show (6 + 6) = 12 from rfl, ew1, ixj, vl_eq, ncj, show (6 + 4) = 10 from rfl, eg1, ixw, ncw, show (6 + 2) = 8 from rfl, vl_eq, vl_eq]
    simp only [ixw]
    exact hz
  show ∃ σ' ρ', _ = some σ' ∧ bq_assemble_127i80 (nI k) (nI j) ρ = _ ∧ _
  rw [eQ, eC _ rfl]
  have fin : ∀ v : Int32, SS σ1 ρ1 m l u (k + 1) (cl_w σ 8 wu v) (rf_w ρ 18 wu v) := by
    intro v
    refine ⟨((h.F.wa (by omega)).qa (by omega)), by rw [r_w (by decide)]; exact h.m1, by rw [q_w (by decide)]; exact h.m2, h.m3, fun j hj => ?_, by rw [r_w (by decide)]; exact h.l1, by rw [q_w (by decide)]; exact h.l2, h.l3, fun j hj => by rw [r_w (show 10 ≠ 8 by decide), q_w (show 20 ≠ 18 by decide)]; exact h.ln j hj, by rw [r_w (by decide)]; exact h.u1, by rw [q_w (by decide)]; exact h.u2, h.u3, fun j hj => by rw [r_w (show 13 ≠ 8 by decide), q_w (show 22 ≠ 18 by decide)]; exact h.un j hj, fun j h1 h2 => ?_, fun j k a b => by rw [r_w (show 12 ≠ 8 by decide)]; exact h.ui j k a b, ⟨by rw [r_w (by decide)]; exact h.ft.1, by rw [q_w (by decide)]; exact h.ft.2⟩, by rw [r_w (by decide)]; exact h.fp⟩
    · by_cases c : j = wu
      · rw [c, r_ws, q_ws]
      · rw [r_wk c, q_wk c]; exact h.w j hj
    · obtain ⟨w', a1, a2, a3, a4⟩ := h.uw j (by omega) h2
      have ne : w' ≠ wu := fun q => h.ui k j (by omega) h2 (by rw [ew1, a2, q])
      rw [r_w (show 12 ≠ 8 by decide), q_w (show 21 ≠ 18 by decide), q_w (show 24 ≠ 18 by decide)]
      exact ⟨w', a1, a2, a3, by rw [r_wk ne]; exact a4⟩
  rcases fl with ⟨f1, f2⟩ | ⟨f1, f2⟩
  · rw [if_neg f2, f1, if_pos rfl, h.w wu hwu]
    exact ⟨_, _, rfl, rfl, Or.inl (fin _)⟩
  · rw [if_pos f2, f1, if_neg (by decide)]
    exact ⟨_, _, rfl, rfl, Or.inl (fin _)⟩
/-- settling all -/
theorem SS.all : ∀ q k σ ρ, u - k = q → k ≤ u → SS σ1 ρ1 m l u k σ ρ → ∃ σ' ρ' y y', lp (fun z : (Int32 × cl_S) => lc_X0_translate_72 6 z.1 z.2) (nI k, σ) = some (y, σ') ∧ lp (fun z : (Int32 × rf_S) => lq_assemble_80 z.1 z.2) (nI k, ρ) = some (y', ρ') ∧ EN σ1 ρ1 σ' ρ' := by
  intro q
  induction q with
  | zero =>
    intro k σ ρ hq hk h
    have e : k = u := by omega
    refine ⟨σ, ρ, nI k, nI k, lp_end (s := (nI k, σ)) ?_, lp_end (s := (nI k, ρ)) ?_, h.F, Or.inl ⟨h.ft.1, h.ft.2, h.fp, m, h.m3, h.m1, h.m2, h.w⟩⟩
    · show lc_X0_translate_72 6 (nI k) σ = _
      unfold lc_X0_translate_72
      rw [h.u1, e, if_pos (Int32.le_refl _)]
    · show lq_assemble_80 (nI k) ρ = _
      unfold lq_assemble_80
      rw [h.u2, e, if_pos (Int32.le_refl _)]
  | succ q ih =>
    intro k σ ρ hq hk h
    have m3 := h.m3
    have u3 := h.u3
    obtain ⟨σ2, ρ2, e1, e2, R⟩ := h.one (by omega)
    have s1 : lc_X0_translate_72 6 (nI k) σ = some (.inl (nI (k + 1), σ2)) := by
      unfold lc_X0_translate_72
      rw [h.u1, if_neg (fun q => by have := (n_le (by omega) (by omega)).mp q; omega), if_pos h.ft.1, e1, bd1_eq, vl_eq, show nI k + (1:Int32) = nI (k + 1) from n_add k 1]
    have s2 : lq_assemble_80 (nI k) ρ = some (.inl (nI (k + 1), ρ2)) := by
      unfold lq_assemble_80
      rw [h.u2, if_neg (fun q => by have := (n_le (by omega) (by omega)).mp q; omega), if_pos h.ft.2, e2]
    rw [lp_next (s := (nI k, σ)) s1, lp_next (s := (nI k, ρ)) s2]
    rcases R with R | ⟨R, n1, n2⟩
    · exact ih (k + 1) σ2 ρ2 (by omega) (by omega) R
    · refine ⟨σ2, ρ2, nI (k + 1), nI (k + 1), lp_end (s := (nI (k + 1), σ2)) ?_, lp_end (s := (nI (k + 1), ρ2)) ?_, R⟩
      · show lc_X0_translate_72 6 (nI (k + 1)) σ2 = _
        unfold lc_X0_translate_72
        rw [if_neg n1]; split <;> rfl
      · show lq_assemble_80 (nI (k + 1)) ρ2 = _
        unfold lq_assemble_80
        rw [if_neg n2]; split <;> rfl
theorem PR.ss (h : PR σ1 ρ1 x n c i m l u none σ ρ) : SS σ1 ρ1 m l u 0 σ ρ := ⟨h.F, h.m1, h.m2, h.m3, h.w, h.l1, h.l2, h.l3, h.ln, h.u1, h.u2, h.u3, h.un, fun j _ hj => h.uw j hj, h.ui, h.ft, h.fp⟩
/-- after a fault nothing is settled -/
theorem FR.skip (h : FR σ1 σ ρ1 ρ c) : (∃ y, lp (fun z : (Int32 × cl_S) => lc_X0_translate_72 6 z.1 z.2) ((0:Int32), σ) = some (y, σ)) ∧ (∃ y, lp (fun z : (Int32 × rf_S) => lq_assemble_80 z.1 z.2) ((0:Int32), ρ) = some (y, ρ)) := by
  refine ⟨⟨0, lp_end (s := ((0:Int32), σ)) ?_⟩, ⟨0, lp_end (s := ((0:Int32), ρ)) ?_⟩⟩
  · show lc_X0_translate_72 6 (0:Int32) σ = _
    unfold lc_X0_translate_72
    rw [if_neg h.nz.1]; split <;> rfl
  · show lq_assemble_80 (0:Int32) ρ = _
    unfold lq_assemble_80
    rw [if_neg h.nz.2.1]; split <;> rfl
end Z2_ZI
