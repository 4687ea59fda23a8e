section Z2_ZG
variable {σ σ' σ1 : cl_S} {ρ ρ' ρ1 : rf_S} {x : Nat → Nat} {n c i m l u o : Nat} {pd : Option Bool} {t : List Nat}
/-- label j has the name t, in the class -/
def Mt (σ : cl_S) (t : List Nat) (j : Nat) : Prop := σ.2.1 9 j = Int64.ofNat (enc 256 t)
theorem lab_first (P : Nat → Prop) (l : Nat) : (∃ j, j < l ∧ P j ∧ ∀ k, k < j → ¬ P k) ∨ (∀ j, j < l → ¬ P j) := by
  by_cases h : ∃ j, j < l ∧ P j
  · refine Or.inl ?_
    obtain ⟨j, h1, h2⟩ := h
    induction j using Nat.strongRecOn with
    | ind j ih =>
      by_cases w : ∀ k, k < j → ¬ P k
      · exact ⟨j, h1, h2, w⟩
      · obtain ⟨k, a, b⟩ : ∃ k, k < j ∧ P k := by
          apply Classical.byContradiction
          intro q
          exact w (fun k a b => q ⟨k, a, b⟩)
        exact ih k a (by omega) b
  · exact Or.inr (fun j a b => h ⟨j, a, b⟩)
/-- the class looks a label up -/
theorem c_lab (ht : Nm t) (l1 : σ.1 6 7 = nI l) (l3 : l ≤ 200) (nm : ∀ j, j < l → ∃ s, Nm s ∧ σ.2.1 9 j = Int64.ofNat (enc 256 s)) (r : Int32) (h : (∃ j, j < l ∧ Mt σ t j ∧ (∀ k, k < j → ¬ Mt σ t k) ∧ r = nI j) ∨ ((∀ j, j < l → ¬ Mt σ t j) ∧ r = -1)) : fc_X0_labelOf 6 (Int64.ofNat (enc 256 t)) σ = some (r, σ) := by
  have cmp : ∀ j, j < l → (lg_cmp (σ.2.1 9 j) (Int64.ofNat (enc 256 t)) = 0 ↔ Mt σ t j) := by
    intro j hj
    obtain ⟨s, hs, e⟩ := nm j hj
    unfold Mt
    rw [e, Nm.c hs ht]
    refine ⟨?_, ?_⟩
    · intro q; rw [q]
    · intro q; exact (Nm.c hs ht).mp (by rw [q, lg_v (ht.lt.1) (ht.lt.1), if_neg (Nat.lt_irrefl _), if_pos rfl])
  have main : ∀ q j, l - j = q → j ≤ l → (∀ k, k < j → ¬ Mt σ t k) → ∃ y, lp (fun z : (Int32 × cl_S) => lc_X0_labelOf_2 6 (Int64.ofNat (enc 256 t)) z.1 z.2) (nI j, σ) = some y ∧ Sum.elim (fun z => some z) (fun z : Int32 × cl_S => ec_X0_labelOf_2 6 (Int64.ofNat (enc 256 t)) z.1 z.2) y = some (r, σ) := by
    intro q
    induction q with
    | zero =>
      intro j hq hj hb
      have e : j = l := by omega
      refine ⟨_, lp_end (s := (nI j, σ)) (show lc_X0_labelOf_2 6 (Int64.ofNat (enc 256 t)) (nI j) σ = _ by unfold lc_X0_labelOf_2; rw [l1, e, if_pos (Int32.le_refl _)]), ?_⟩
      rcases h with ⟨k, a, b, -⟩ | ⟨-, e2⟩
      · exact absurd b (hb k (by omega))
      · rw [e2]; rfl
    | succ q ih =>
      intro j hq hj hb
      have st : lc_X0_labelOf_2 6 (Int64.ofNat (enc 256 t)) (nI j) σ = if lg_cmp (σ.2.1 9 j) (Int64.ofNat (enc 256 t)) = 0 then some (.inr (.inl (nI j, σ))) else some (.inl (nI (j + 1), σ)) := by
        unfold lc_X0_labelOf_2
        rw [l1, if_neg (fun q => by have := (n_le (by omega) (by omega)).mp q; omega), n_ix (show j < 200 by omega) (by omega), n_cl (show j < 2147483648 by omega), show (6 + 3) = 9 from rfl, vl_eq, show nI j + (1:Int32) = nI (j + 1) from n_add j 1]
      by_cases c : Mt σ t j
      · rw [if_pos ((cmp j (by omega)).mpr c)] at st
        refine ⟨_, lp_end (s := (nI j, σ)) st, ?_⟩
        rcases h with ⟨k, a, b, d, e⟩ | ⟨w, -⟩
        · have : k = j := by
            rcases Nat.lt_trichotomy k j with q | q | q
            · exact absurd b (hb k q)
            · exact q
            · exact absurd c (d j q)
          rw [e, this]; rfl
        · exact absurd c (w j (by omega))
      · rw [if_neg (fun w => c ((cmp j (by omega)).mp w))] at st
        obtain ⟨y, e, f⟩ := ih (j + 1) (by omega) (by omega) (fun k hk => by
          by_cases q : k = j
          · rw [q]; exact c
          · exact hb k (by omega))
        exact ⟨y, by rw [lp_next (s := (nI j, σ)) st]; exact e, f⟩
  obtain ⟨y, e, f⟩ := main l 0 (by omega) (by omega) (fun k hk => by omega)
  unfold fc_X0_labelOf bc_X0_labelOf_0 bc_X0_labelOf_2
  rw [show ((0:Int32), σ) = (nI 0, σ) from rfl, e, Option.bind_some]
  exact f
/-- the class tells a label -/
theorem c_tell {pl : Int32} (ht : Nm t) (l1 : σ.1 6 7 = nI l) (l3 : l ≤ 200) (nm : ∀ j, j < l → ∃ s, Nm s ∧ σ.2.1 9 j = Int64.ofNat (enc 256 s)) (m1 : σ.1 6 4 = nI m) (ft : σ.1 6 12 = 0) : fc_X0_tellLabel 6 (Int64.ofNat (enc 256 t)) pl σ = some (@ite cl_S (∃ j, j < l ∧ Mt σ t j) (Classical.propDecidable _) (cl_w (cl_w σ 6 12 (4:Int32)) 6 13 pl) (if l < 200 then cl_w (cl_w (cl_wl σ 9 l (Int64.ofNat (enc 256 t))) 10 l (nI m)) 6 7 (nI (l + 1)) else cl_w (cl_w σ 6 12 (6:Int32)) 6 13 pl)) := by
  unfold fc_X0_tellLabel bc_X0_tellLabel_0 fc_X0_fail bc_X0_fail_0
  rcases lab_first (Mt σ t) l with ⟨j, a, b, d⟩ | w
  · rw [c_lab ht l1 l3 nm (nI j) (Or.inl ⟨j, a, b, d, rfl⟩), bd2_eq, if_neg (n_nneg (by omega)), if_pos ft, vl_eq, vl_eq, bd1_eq, if_pos ⟨j, a, b⟩]
  · rw [c_lab ht l1 l3 nm (-1) (Or.inr ⟨w, rfl⟩), bd2_eq, if_pos (by decide), l1, if_neg (show ¬ ∃ j, j < l ∧ Mt σ t j from fun ⟨j, a, b⟩ => w j a b)]
    by_cases c : l < 200
    · rw [if_pos (show nI l < (200:Int32) from (n_lt (a := l) (b := 200) (by omega) (by omega)).mpr c), if_pos c, n_ix c (by omega), vl_eq, n_cl (show l < 2147483648 by omega), show (6 + 3) = 9 from rfl, r_lI, l1, n_ix c (by omega), vl_eq, n_cl (show l < 2147483648 by omega), show (6 + 4) = 10 from rfl, m1, vl_eq, r_w (show 6 ≠ 10 by decide), r_lI, l1, show nI l + (1:Int32) = nI (l + 1) from n_add l 1]
    · rw [if_neg (show ¬ nI l < (200:Int32) from fun q => c ((n_lt (a := l) (b := 200) (by omega) (by omega)).mp q)), if_neg c, if_pos ft, vl_eq, vl_eq, bd1_eq]
/-- the reference tells a label -/
theorem q_tell {pl : Int32} {M : Nat → Prop} (l2 : ρ.1 0 33 = nI l) (l3 : l ≤ 200) {nq : Int64} (cmp : ∀ j, j < l → (lg_cmp (ρ.2 19 j) nq = 0 ↔ M j)) (m2 : ρ.1 0 30 = nI m) (ft : ρ.1 0 39 = 0) : fq_label nq pl ρ = some (@ite rf_S (∃ j, j < l ∧ M j) (Classical.propDecidable _) (rf_w (rf_w ρ 0 39 (4:Int32)) 0 40 pl) (if l < 200 then rf_w (rf_w (rf_wl ρ 19 l nq) 20 l (nI m)) 0 33 (nI (l + 1)) else rf_w (rf_w ρ 0 39 (6:Int32)) 0 40 pl)) := by
  have f4 : fq_fault (4:Int32) pl ρ = some (rf_w (rf_w ρ 0 39 (4:Int32)) 0 40 pl) := by
    unfold fq_fault bq_fault_0
    rw [if_pos ft, vl_eq, vl_eq]
  have n4 : ¬ (rf_w (rf_w ρ 0 39 (4:Int32)) 0 40 pl).1 0 39 = 0 := by rw [q_wk (by decide), q_ws]; decide
  have f4' : ∀ v, fq_fault v pl (rf_w (rf_w ρ 0 39 (4:Int32)) 0 40 pl) = some (rf_w (rf_w ρ 0 39 (4:Int32)) 0 40 pl) := by
    intro v
    unfold fq_fault bq_fault_0
    rw [if_neg n4]
  have l4 : (rf_w (rf_w ρ 0 39 (4:Int32)) 0 40 pl).1 0 33 = nI l := by rw [q_wk (by decide), q_wk (by decide)]; exact l2
  have after : ∀ q j, l - j = q → j ≤ l → lp (fun z : (Int32 × rf_S) => lq_label_3 nq pl z.1 z.2) (nI j, rf_w (rf_w ρ 0 39 (4:Int32)) 0 40 pl) = some (nI l, rf_w (rf_w ρ 0 39 (4:Int32)) 0 40 pl) := by
    intro q
    induction q with
    | zero =>
      intro j hq hj
      have e : j = l := by omega
      subst e
      refine lp_end (s := (nI j, rf_w (rf_w ρ 0 39 (4:Int32)) 0 40 pl)) ?_
      show lq_label_3 nq pl (nI j) (rf_w (rf_w ρ 0 39 (4:Int32)) 0 40 pl) = _
      unfold lq_label_3
      rw [l4, if_pos (Int32.le_refl _)]
    | succ q ih =>
      intro j hq hj
      have st : lq_label_3 nq pl (nI j) (rf_w (rf_w ρ 0 39 (4:Int32)) 0 40 pl) = some (.inl (nI (j + 1), rf_w (rf_w ρ 0 39 (4:Int32)) 0 40 pl)) := by
        unfold lq_label_3 bq_label_30i3
        rw [l4, if_neg (fun q => by have := (n_le (by omega) (by omega)).mp q; omega), n_ix (show j < 200 by omega) (by omega), f4', bd1_eq, vl_eq, show nI j + (1:Int32) = nI (j + 1) from n_add j 1]
        split <;> rfl
      rw [lp_next (s := (nI j, rf_w (rf_w ρ 0 39 (4:Int32)) 0 40 pl)) st]
      exact ih (j + 1) (by omega) (by omega)
  have before : ∀ q j, l - j = q → j ≤ l → (∀ k, k < j → ¬ M k) → lp (fun z : (Int32 × rf_S) => lq_label_3 nq pl z.1 z.2) (nI j, ρ) = some (nI l, @ite rf_S (∃ j, j < l ∧ M j) (Classical.propDecidable _) (rf_w (rf_w ρ 0 39 (4:Int32)) 0 40 pl) ρ) := by
    intro q
    induction q with
    | zero =>
      intro j hq hj hb
      have e : j = l := by omega
      subst e
      rw [if_neg (show ¬ ∃ k, k < j ∧ M k from fun ⟨k, a, b⟩ => hb k a b)]
      refine lp_end (s := (nI j, ρ)) ?_
      show lq_label_3 nq pl (nI j) ρ = _
      unfold lq_label_3
      rw [l2, if_pos (Int32.le_refl _)]
    | succ q ih =>
      intro j hq hj hb
      have st : lq_label_3 nq pl (nI j) ρ = if lg_cmp (ρ.2 19 j) nq = 0 then some (.inl (nI (j + 1), rf_w (rf_w ρ 0 39 (4:Int32)) 0 40 pl)) else some (.inl (nI (j + 1), ρ)) := by
        unfold lq_label_3 bq_label_30i3
        rw [l2, if_neg (fun q => by have := (n_le (by omega) (by omega)).mp q; omega), n_ix (show j < 200 by omega) (by omega), n_cl (show j < 2147483648 by omega), f4, bd1_eq, vl_eq, vl_eq, show nI j + (1:Int32) = nI (j + 1) from n_add j 1]
      by_cases c : M j
      · rw [if_pos ((cmp j (by omega)).mpr c)] at st
        rw [lp_next (s := (nI j, ρ)) st, after _ (j + 1) rfl (by omega), if_pos (show ∃ k, k < l ∧ M k from ⟨j, by omega, c⟩)]
      · rw [if_neg (fun w => c ((cmp j (by omega)).mp w))] at st
        rw [lp_next (s := (nI j, ρ)) st]
        exact ih (j + 1) (by omega) (by omega) (fun k hk => by
          by_cases q : k = j
          · rw [q]; exact c
          · exact hb k (by omega))
  unfold fq_label bq_label_0 bq_label_3
  rw [show ((0:Int32), ρ) = (nI 0, ρ) from rfl, before l 0 (by omega) (by omega) (fun k hk => by omega), Option.bind_some]
  unfold eq_label_3 bq_label_53
  by_cases w : ∃ j, j < l ∧ M j
  · rw [if_pos w, if_pos w, l4, f4', bd1_eq]
    have : ¬ (rf_w (rf_w ρ 0 39 (4:Int32)) 0 40 pl).1 0 39 ≤ 0 := by rw [q_wk (by decide), q_ws]; decide
    rw [if_neg this]
    split <;> rfl
  · rw [if_neg w, if_neg w, l2]
    by_cases c : l < 200
    · rw [if_neg (show ¬ nI l = (200:Int32) from fun q => by have := (n_eq (a := l) (b := 200) (by omega) (by omega)).mp q; omega), if_pos (show ρ.1 0 39 ≤ 0 by rw [ft]; exact Int32.le_refl _), if_pos c, n_ix c (by omega), vl_eq, n_cl (show l < 2147483648 by omega), q_lI, l2, n_ix c (by omega), vl_eq, n_cl (show l < 2147483648 by omega), m2, vl_eq, q_w (show 0 ≠ 20 by decide), q_lI, l2, show nI l + (1:Int32) = nI (l + 1) from n_add l 1]
    · have el : l = 200 := by omega
      have f6 : fq_fault (6:Int32) pl ρ = some (rf_w (rf_w ρ 0 39 (6:Int32)) 0 40 pl) := by
        unfold fq_fault bq_fault_0
        rw [if_pos ft, vl_eq, vl_eq]
      have : ¬ (rf_w (rf_w ρ 0 39 (6:Int32)) 0 40 pl).1 0 39 ≤ 0 := by rw [q_wk (by decide), q_ws]; decide
      rw [if_pos (show nI l = (200:Int32) by rw [el]; rfl), f6, bd1_eq, if_neg this, if_neg c]
/-- a label is told: both sides -/
theorem PR.label {pl : Int32} (h : PR σ1 ρ1 x n c i m l u none σ ρ) (ht : Nm t) : (∃ σ' ρ', fc_X0_tellLabel 6 (Int64.ofNat (enc 256 t)) pl σ = some σ' ∧ fq_label (Int64.ofNat (enc 128 t)) pl ρ = some ρ' ∧ ((PR σ1 ρ1 x n c i m (l + 1) u none σ' ρ') ∨ (FR σ1 σ' ρ1 ρ' c ∧ ρ'.1 0 48 = ρ.1 0 48))) := by
  have nm : ∀ j, j < l → ∃ s, Nm s ∧ σ.2.1 9 j = Int64.ofNat (enc 256 s) := fun j hj => by obtain ⟨s, a, b, -⟩ := h.ln j hj; exact ⟨s, a, b⟩
  have cmp : ∀ j, j < l → (lg_cmp (ρ.2 19 j) (Int64.ofNat (enc 128 t)) = 0 ↔ Mt σ t j) := by
    intro j hj
    obtain ⟨s, a, b, d, -⟩ := h.ln j hj
    unfold Mt
    rw [d, b, Nm.q a ht]
    refine ⟨?_, ?_⟩
    · intro q; rw [q]
    · intro q; exact (Nm.c a ht).mp (by rw [q, lg_v (ht.lt.1) (ht.lt.1), if_neg (Nat.lt_irrefl _), if_pos rfl])
  have e1 := c_tell (pl := pl) ht h.l1 h.l3 nm h.m1 h.ft.1
  have e2 := q_tell (pl := pl) h.l2 h.l3 cmp h.m2 h.ft.2
  refine ⟨_, _, e1, e2, ?_⟩
  by_cases w : ∃ j, j < l ∧ Mt σ t j
  · rw [if_pos w, if_pos w]
    exact Or.inr ⟨⟨((((h.F.w6 (by omega)).w6 (by omega)).q0 (by omega)).q0 (by omega)), ⟨i, h.ic, by rw [r_wk (by decide), r_wk (by decide)]; exact h.a⟩, ⟨4, by omega, by omega, by rw [r_wk (by decide), r_ws]; rfl, by rw [q_wk (by decide), q_ws]; rfl⟩, by rw [r_ws, q_ws]⟩, by rw [q_wk (by decide), q_wk (by decide)]⟩
  rw [if_neg w, if_neg w]
  by_cases cl : l < 200
  rotate_left
  · rw [if_neg cl, if_neg cl]
    exact Or.inr ⟨⟨((((h.F.w6 (by omega)).w6 (by omega)).q0 (by omega)).q0 (by omega)), ⟨i, h.ic, by rw [r_wk (by decide), r_wk (by decide)]; exact h.a⟩, ⟨6, by omega, by omega, by rw [r_wk (by decide), r_ws]; rfl, by rw [q_wk (by decide), q_ws]; rfl⟩, by rw [r_ws, q_ws]⟩, by rw [q_wk (by decide), q_wk (by decide)]⟩
  rw [if_pos cl, if_pos cl]
  refine Or.inl ?_
  have w6 : ∀ j, j ≠ 7 → (cl_w (cl_w (cl_wl σ 9 l (Int64.ofNat (enc 256 t))) 10 l (nI m)) 6 7 (nI (l + 1))).1 6 j = σ.1 6 j := fun j hj => by rw [r_wk hj, r_w (by decide), r_lI]
  have wd : ∀ d, d ≠ 6 → d ≠ 10 → (cl_w (cl_w (cl_wl σ 9 l (Int64.ofNat (enc 256 t))) 10 l (nI m)) 6 7 (nI (l + 1))).1 d = σ.1 d := fun d a b => by rw [r_w a, r_w b, r_lI]
  have wL : ∀ d, d ≠ 9 → (cl_w (cl_w (cl_wl σ 9 l (Int64.ofNat (enc 256 t))) 10 l (nI m)) 6 7 (nI (l + 1))).2.1 d = σ.2.1 d := fun d hd => by rw [r_wL, r_wL, r_l hd]
  have q0 : ∀ j, j ≠ 33 → (rf_w (rf_w (rf_wl ρ 19 l (Int64.ofNat (enc 128 t))) 20 l (nI m)) 0 33 (nI (l + 1))).1 0 j = ρ.1 0 j := fun j hj => by rw [q_wk hj, q_w (by decide), q_lI]
  have qd : ∀ d, d ≠ 0 → d ≠ 20 → (rf_w (rf_w (rf_wl ρ 19 l (Int64.ofNat (enc 128 t))) 20 l (nI m)) 0 33 (nI (l + 1))).1 d = ρ.1 d := fun d a b => by rw [q_w a, q_w b, q_lI]
  have ql : ∀ d, d ≠ 19 → (rf_w (rf_w (rf_wl ρ 19 l (Int64.ofNat (enc 128 t))) 20 l (nI m)) 0 33 (nI (l + 1))).2 d = ρ.2 d := fun d hd => by rw [q_wL, q_wL, q_l hd]
  have F' : PF σ1 (cl_w (cl_w (cl_wl σ 9 l (Int64.ofNat (enc 256 t))) 10 l (nI m)) 6 7 (nI (l + 1))) ρ1 (rf_w (rf_w (rf_wl ρ 19 l (Int64.ofNat (enc 128 t))) 20 l (nI m)) 0 33 (nI (l + 1))) := ((((((h.F.wl (Or.inl rfl)).wa (by omega)).w6 (by omega)).ql (Or.inl rfl)).qa (by omega)).q0 (by omega))
  have m3 := h.m3
  refine ⟨F', by rw [w6 2 (by decide)]; exact h.a, h.ic, by rw [q0 44 (by decide)]; exact h.tk, by rw [q0 45 (by decide)]; exact h.tpl, fun q => by rw [ql 0 (by decide)]; exact h.tv2 q, fun q => by rw [ql 0 (by decide)]; exact h.tv3 q, by rw [q0 48 (by decide)]; exact h.te, by rw [w6 4 (by decide)]; exact h.m1, by rw [q0 30 (by decide)]; exact h.m2, h.m3, fun j hj => by rw [wd 8 (by decide) (by decide), qd 18 (by decide) (by decide)]; exact h.w j hj, r_ws, q_ws, by omega, fun j hj => ?_, by rw [w6 11 (by decide)]; exact h.u1, by rw [q0 38 (by decide)]; exact h.u2, h.u3, fun j hj => by rw [wL 11 (by decide), ql 23 (by decide), wd 13 (by decide) (by decide), qd 22 (by decide) (by decide)]; exact h.un j hj, fun j hj => by rw [wd 12 (by decide) (by decide), qd 21 (by decide) (by decide), qd 24 (by decide) (by decide), wd 8 (by decide) (by decide)]; exact h.uw j hj, fun j k a b => by rw [wd 12 (by decide) (by decide)]; exact h.ui j k a b, fun b hb => (by cases hb), ⟨by rw [w6 12 (by decide)]; exact h.ft.1, by rw [q0 39 (by decide)]; exact h.ft.2⟩, by rw [w6 13 (by decide)]; exact h.fp⟩
  by_cases cj : j = l
  · subst cj
    refine ⟨t, ht, by rw [r_wL, r_wL, r_ls], by rw [q_wL, q_wL, q_ls], m, h.m3, by rw [r_w (by decide), r_ws], by rw [q_w (by decide), q_ws]⟩
  · obtain ⟨s, a1, a2, a3, w', a4, a5, a6⟩ := h.ln j (by omega)
    exact ⟨s, a1, by rw [r_wL, r_wL, r_lk cj]; exact a2, by rw [q_wL, q_wL, q_lk cj]; exact a3, w', a4, by rw [r_w (by decide), r_wk cj, r_lI]; exact a5, by rw [q_w (by decide), q_wk cj, q_lI]; exact a6⟩
/-- telling and going on go past each other, in the class -/
theorem c_tell_adv {pl v : Int32} (ht : Nm t) (l1 : σ.1 6 7 = nI l) (l3 : l ≤ 200) (nm : ∀ j, j < l → ∃ s, Nm s ∧ σ.2.1 9 j = Int64.ofNat (enc 256 s)) (m1 : σ.1 6 4 = nI m) (ft : σ.1 6 12 = 0) {σ2 : cl_S} (h2 : fc_X0_tellLabel 6 (Int64.ofNat (enc 256 t)) pl (cl_w σ 6 2 v) = some σ2) : ∃ σ', fc_X0_tellLabel 6 (Int64.ofNat (enc 256 t)) pl σ = some σ' ∧ cl_w σ' 6 2 v = σ2 ∧ σ'.1 6 2 = σ.1 6 2 ∧ σ'.1 1 6 = σ.1 1 6 := by
  have e1 := c_tell (pl := pl) ht l1 l3 nm m1 ft
  have e2 := c_tell (σ := cl_w σ 6 2 v) (pl := pl) (l := l) (m := m) ht (by rw [r_wk (by decide)]; exact l1) l3 nm (by rw [r_wk (by decide)]; exact m1) (by rw [r_wk (by decide)]; exact ft)
  rw [e2] at h2
  have h2 := Option.some.inj h2
  have cm : ∀ {a b k j : Nat} {p q : Int32}, ¬ (a = b ∧ k = j) → cl_w (cl_w σ a k p) b j q = cl_w (cl_w σ b j q) a k p := by
    intro a b k j p q hn
    refine Prod.ext (funext fun d => funext fun e => ?_) rfl
    rw [g_w, g_w, g_w, g_w]
    by_cases w1 : d = b ∧ e = j
    · rw [if_pos w1, if_neg (fun w2 => hn ⟨w2.1.symm.trans w1.1, w2.2.symm.trans w1.2⟩), if_pos w1]
    · rw [if_neg w1, if_neg w1]
  refine ⟨_, e1, ?_⟩
  have me : (∃ j, j < l ∧ Mt (cl_w σ 6 2 v) t j) ↔ ∃ j, j < l ∧ Mt σ t j := Iff.rfl
  by_cases w : ∃ j, j < l ∧ Mt σ t j
  · rw [if_pos w]
    rw [if_pos (me.mpr w)] at h2
    refine ⟨?_, by rw [r_wk (by decide), r_wk (by decide)], by rw [r_w (by decide), r_w (by decide)]⟩
    rw [← h2]
    refine Prod.ext (funext fun d => funext fun e => ?_) rfl
    simp only [g_w]
    by_cases c1 : d = 6 ∧ e = 2
    · rw [if_pos c1, if_neg (by omega), if_neg (by omega), if_pos c1]
    · rw [if_neg c1, if_neg c1]
  rw [if_neg w]
  rw [if_neg (fun q => w (me.mp q))] at h2
  by_cases cl : l < 200
  · rw [if_pos cl]
    rw [if_pos cl] at h2
    refine ⟨?_, by rw [r_wk (by decide), r_w (by decide), r_lI], by rw [r_w (by decide), r_w (by decide), r_lI]⟩
    rw [← h2]
    refine Prod.ext (funext fun d => funext fun e => ?_) rfl
    simp only [g_w, r_lI]
    by_cases c1 : d = 6 ∧ e = 2
    · rw [if_pos c1, if_neg (by omega), if_neg (by omega), if_pos c1]
    · rw [if_neg c1, if_neg c1]
  · rw [if_neg cl]
    rw [if_neg cl] at h2
    refine ⟨?_, by rw [r_wk (by decide), r_wk (by decide)], by rw [r_w (by decide), r_w (by decide)]⟩
    rw [← h2]
    refine Prod.ext (funext fun d => funext fun e => ?_) rfl
    simp only [g_w]
    by_cases c1 : d = 6 ∧ e = 2
    · rw [if_pos c1, if_neg (by omega), if_neg (by omega), if_pos c1]
    · rw [if_neg c1, if_neg c1]
end Z2_ZG
