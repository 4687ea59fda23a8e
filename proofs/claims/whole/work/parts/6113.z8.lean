section Z2_Z8
variable {σ σ' σ0 : cl_S} {ρ ρ' ρ0 : rf_S} {x : Nat → Nat} {n : Nat} {t t' : List Nat}
theorem enc_app (b : Nat) (t : List Nat) (c : Nat) : enc b (t ++ [c]) = enc b t * b + c := by
  unfold enc; rw [List.foldl_append]; rfl
/-- a name: at most 8 octets, none 0, each below 128 -/
def Nm (t : List Nat) : Prop := t.length ≤ 8 ∧ ∀ c, c ∈ t → 0 < c ∧ c < 128
theorem enc_inj {b : Nat} (hb : 128 ≤ b) : ∀ m (t t' : List Nat), t.length = m → (∀ c, c ∈ t → 0 < c ∧ c < 128) → (∀ c, c ∈ t' → 0 < c ∧ c < 128) → enc b t = enc b t' → t = t' := by
  intro m
  induction m with
  | zero =>
    intro t t' hm h h' e
    have := List.eq_nil_of_length_eq_zero hm
    subst this
    rcases List.eq_nil_or_concat t' with q | ⟨s, c, q⟩
    · rw [q]
    · exfalso
      rw [q, List.concat_eq_append] at h' e
      rw [enc_app] at e
      have := h' c (by simp)
      have e0 : enc b [] = 0 := rfl
      omega
  | succ m ih =>
    intro t t' hm h h' e
    rcases List.eq_nil_or_concat t with q | ⟨s, c, q⟩
    · rw [q] at hm; cases hm
    rw [List.concat_eq_append] at q
    subst q
    have hc := h c (by simp)
    rcases List.eq_nil_or_concat t' with q' | ⟨s', c', q'⟩
    · exfalso
      rw [q', enc_app] at e
      have e0 : enc b [] = 0 := rfl
      omega
    rw [List.concat_eq_append] at q'
    subst q'
    have hc' := h' c' (by simp)
    rw [enc_app, enc_app] at e
    have m1 : (enc b s * b + c) % b = c := by rw [Nat.mul_comm, Nat.mul_add_mod]; exact Nat.mod_eq_of_lt (by omega)
    have m2 : (enc b s' * b + c') % b = c' := by rw [Nat.mul_comm, Nat.mul_add_mod]; exact Nat.mod_eq_of_lt (by omega)
    have ec : c = c' := by rw [← m1, e, m2]
    subst ec
    have d1 : enc b s = enc b s' := by
      have : enc b s * b = enc b s' * b := by omega
      exact Nat.eq_of_mul_eq_mul_right (by omega) this
    rw [ih s s' (by rw [List.length_append, List.length_singleton] at hm; omega) (fun a ha => h a (by simp [ha])) (fun a ha => h' a (by simp [ha])) d1]
theorem enc_256 : ∀ m (t : List Nat), t.length = m → (∀ c, c ∈ t → 0 < c ∧ c < 128) → 2 * enc 256 t + 1 ≤ 256 ^ m ∧ enc 128 t + 1 ≤ 128 ^ m := by
  intro m
  induction m with
  | zero =>
    intro t hm h
    have := List.eq_nil_of_length_eq_zero hm
    subst this
    exact ⟨by decide, by decide⟩
  | succ m ih =>
    intro t hm h
    rcases List.eq_nil_or_concat t with q | ⟨s, c, q⟩
    · rw [q] at hm; cases hm
    rw [List.concat_eq_append] at q
    subst q
    have hc := h c (by simp)
    obtain ⟨i1, i2⟩ := ih s (by rw [List.length_append, List.length_singleton] at hm; omega) (fun a ha => h a (by simp [ha]))
    rw [enc_app, enc_app, Nat.pow_succ, Nat.pow_succ]
    omega
theorem Nm.lt (h : Nm t) : enc 256 t < 9223372036854775808 ∧ enc 128 t < 9223372036854775808 := by
  obtain ⟨h1, h2⟩ := h
  obtain ⟨a, b⟩ := enc_256 t.length t rfl h2
  have c1 : 256 ^ t.length ≤ 256 ^ 8 := Nat.pow_le_pow_right (by omega) h1
  have c2 : 128 ^ t.length ≤ 128 ^ 8 := Nat.pow_le_pow_right (by omega) h1
  have d1 : (256:Nat) ^ 8 = 18446744073709551616 := by decide
  have d2 : (128:Nat) ^ 8 = 72057594037927936 := by decide
  omega
theorem lg_0 {a b : Nat} (ha : a < 9223372036854775808) (hb : b < 9223372036854775808) : lg_cmp (Int64.ofNat a) (Int64.ofNat b) = 0 ↔ a = b := by
  rw [lg_v ha hb]
  by_cases c : b < a
  · rw [if_pos c]; exact ⟨fun q => absurd q (by decide), fun q => by omega⟩
  rw [if_neg c]
  by_cases c2 : a = b
  · rw [if_pos c2]; exact ⟨fun _ => c2, fun _ => rfl⟩
  · rw [if_neg c2]; exact ⟨fun q => absurd q (by decide), fun q => absurd q c2⟩
theorem Nm.c (h : Nm t) (h' : Nm t') : lg_cmp (Int64.ofNat (enc 256 t)) (Int64.ofNat (enc 256 t')) = 0 ↔ t = t' := by
  rw [lg_0 h.lt.1 h'.lt.1]
  exact ⟨enc_inj (by omega) _ t t' rfl h.2 h'.2, fun q => by rw [q]⟩
theorem Nm.q (h : Nm t) (h' : Nm t') : lg_cmp (Int64.ofNat (enc 128 t)) (Int64.ofNat (enc 128 t')) = 0 ↔ t = t' := by
  rw [lg_0 h.lt.2 h'.lt.2]
  exact ⟨enc_inj (by omega) _ t t' rfl h.2 h'.2, fun q => by rw [q]⟩
theorem nm_op : ∀ op, op < 42 → 0 < op → (opN op).length ≤ 8 ∧ ∀ c, c ∈ opN op → 0 < c ∧ c < 128 := by decide
theorem nl_an : ∀ m p c, c ∈ nl x n m p → an c = true := by
  intro m
  induction m with
  | zero => intro p c h; exact absurd h List.not_mem_nil
  | succ m ih =>
    intro p c h
    unfold nl at h
    by_cases a : an (x p) = true
    · rw [if_pos a] at h
      rcases List.mem_cons.mp h with q | q
      · rw [q]; exact a
      · exact ih (p + 1) c q
    · rw [if_neg a] at h; exact absurd h List.not_mem_nil
theorem an_b {c : Nat} (h : an c = true) : (48 ≤ c ∧ c ≤ 57) ∨ (97 ≤ c ∧ c ≤ 122) := by
  unfold an at h
  rw [Bool.or_eq_true] at h
  rcases h with q | q
  · exact Or.inr (ltr_iff.mp q)
  · exact Or.inl (fg_iff.mp q)
/-- the name of a token -/
theorem tK_2 {i : Nat} (h : tK x n i = 2) : Nm (tokN x n (tp x n i)) ∧ (∀ c, c ∈ tokN x n (tp x n i) → (48 ≤ c ∧ c ≤ 57) ∨ (97 ≤ c ∧ c ≤ 122)) ∧ tokN x n (tp x n i) ≠ [] := by
  have hb : ∀ c, c ∈ tokN x n (tp x n i) → (48 ≤ c ∧ c ≤ 57) ∨ (97 ≤ c ∧ c ≤ 122) := fun c hc => an_b (nl_an _ _ c hc)
  unfold tK tokK at h
  by_cases c : n ≤ tp x n i
  · rw [if_pos c] at h; cases h
  rw [if_neg c] at h
  by_cases l : ltr (x (tp x n i)) = true
  · rw [if_pos l] at h
    by_cases w : (tokN x n (tp x n i)).length ≤ 8
    · refine ⟨⟨w, fun c hc => by have := hb c hc; omega⟩, hb, ?_⟩
      unfold tokN
      rw [show n - tp x n i = (n - tp x n i - 1) + 1 by omega]
      unfold nl
      rw [if_pos (show an (x (tp x n i)) = true by unfold an; rw [l]; rfl)]
      intro q; cases q
    · rw [if_neg w] at h; cases h
  rw [if_neg l] at h
  by_cases g : fg (x (tp x n i)) = true
  · rw [if_pos g] at h
    by_cases w : (tokF x n (tp x n i)).length ≤ (if isHex x n (tp x n i) then 8 else 10)
    · rw [if_pos w] at h; cases h
    · rw [if_neg w] at h; cases h
  · rw [if_neg g] at h; exact absurd h (sgn_le _).2.2.1
/-! the op of a name -/
theorem op_both (t : List Nat) : (∃ o, 0 < o ∧ o < 42 ∧ opN o = t ∧ ∀ o', 0 < o' → o' < o → opN o' ≠ t) ∨ (∀ o, 0 < o → o < 42 → opN o ≠ t) := by
  by_cases h : ∃ o, 0 < o ∧ o < 42 ∧ opN o = t
  · refine Or.inl ?_
    obtain ⟨o, h0, h1, h2⟩ := h
    induction o using Nat.strongRecOn with
    | ind o ih =>
      by_cases w : ∀ o', 0 < o' → o' < o → opN o' ≠ t
      · exact ⟨o, h0, h1, h2, w⟩
      · obtain ⟨o', a, b, c⟩ : ∃ o', 0 < o' ∧ o' < o ∧ opN o' = t := by
          apply Classical.byContradiction
          intro q
          exact w (fun o' a b c => q ⟨o', a, b, c⟩)
        exact ih o' b a (by omega) c
  · exact Or.inr (fun o a b c => h ⟨o, a, b, c⟩)
theorem c_op (ht : Nm t) (hN : ∀ o, 0 < o → o < 42 → σ.2.1 7 o = Int64.ofNat (enc 256 (opN o))) (r : Nat) (h : (0 < r ∧ r < 42 ∧ opN r = t ∧ ∀ o', 0 < o' → o' < r → opN o' ≠ t) ∨ (r = 0 ∧ ∀ o, 0 < o → o < 42 → opN o ≠ t)) : fc_X0_opOf 6 (Int64.ofNat (enc 256 t)) σ = some (nI r, σ) := by
  have main : ∀ m j, 42 - j = m → 0 < j → j ≤ 42 → (∀ o', 0 < o' → o' < j → opN o' ≠ t) → ∃ y, lp (fun z : (Int32 × cl_S) => lc_X0_opOf_2 6 (Int64.ofNat (enc 256 t)) z.1 z.2) (nI j, σ) = some y ∧ Sum.elim (fun z => some z) (fun z : Int32 × cl_S => ec_X0_opOf_2 6 (Int64.ofNat (enc 256 t)) z.1 z.2) y = some (nI r, σ) := by
    intro m
    induction m with
    | zero =>
      intro j hm h0 hj hb
      have e : j = 42 := by omega
      subst e
      refine ⟨_, lp_end (s := (nI 42, σ)) (show lc_X0_opOf_2 6 (Int64.ofNat (enc 256 t)) (nI 42) σ = _ by unfold lc_X0_opOf_2; rw [if_pos (show (41:Int32) < nI 42 by decide)]), ?_⟩
      rcases h with ⟨a, b, c, -⟩ | ⟨rfl, -⟩
      · exact absurd c (hb r a b)
      · rfl
    | succ m ih =>
      intro j hm h0 hj hb
      have st : lc_X0_opOf_2 6 (Int64.ofNat (enc 256 t)) (nI j) σ = if opN j = t then some (.inr (.inl (nI j, σ))) else some (.inl (nI (j + 1), σ)) := by
        unfold lc_X0_opOf_2
        rw [if_neg (show ¬ (41:Int32) < nI j from fun q => by have := (n_lt (a := 41) (b := j) (by omega) (by omega)).mp q; omega), n_ix (show j < 42 by omega) (by omega), n_cl (show j < 2147483648 by omega), show (6 + 1) = 7 from rfl, hN j h0 (by omega), vl_eq, show nI j + (1:Int32) = nI (j + 1) from n_add j 1]
        by_cases c : opN j = t
        · rw [if_pos ((Nm.c (nm_op j (by omega) h0) ht).mpr c), if_pos c]
        · rw [if_neg (fun q => c ((Nm.c (nm_op j (by omega) h0) ht).mp q)), if_neg c]
      by_cases c : opN j = t
      · rw [if_pos c] at st
        refine ⟨_, lp_end (s := (nI j, σ)) st, ?_⟩
        rcases h with ⟨a, b, c', d⟩ | ⟨-, w⟩
        · have : r = j := by
            rcases Nat.lt_trichotomy r j with q | q | q
            · exact absurd c' (hb r a q)
            · exact q
            · exact absurd c (d j h0 q)
          rw [this]; rfl
        · exact absurd c (w j h0 (by omega))
      · rw [if_neg c] at st
        obtain ⟨y, e, f⟩ := ih (j + 1) (by omega) (by omega) (by omega) (fun o' a b => by
          by_cases q : o' = j
          · rw [q]; exact c
          · exact hb o' a (by omega))
        exact ⟨y, by rw [lp_next (s := (nI j, σ)) st]; exact e, f⟩
  obtain ⟨y, e, f⟩ := main 41 1 (by omega) (by omega) (by omega) (fun o' a b => by omega)
  unfold fc_X0_opOf bc_X0_opOf_0 bc_X0_opOf_2
  rw [show ((1:Int32), σ) = (nI 1, σ) from rfl, e, Option.bind_some]
  exact f
theorem q_op {x3 : Int32} (ht : Nm t) (hN : ∀ o, 0 < o → o < 42 → ρ.2 13 o = Int64.ofNat (enc 128 (opN o))) (r : Nat) (h : (0 < r ∧ r < 42 ∧ opN r = t ∧ ∀ o', 0 < o' → o' < r → opN o' ≠ t) ∨ (r = 42 ∧ ∀ o, 0 < o → o < 42 → opN o ≠ t)) : fq_one (Int64.ofNat (enc 128 t)) x3 ρ = bq_one_28 x3 (nI r) ρ := by
  have main : ∀ m j, 42 - j = m → 0 < j → j ≤ 42 → (∀ o', 0 < o' → o' < j → opN o' ≠ t) → lp (fun z : (Int32 × rf_S) => lq_one_3 (Int64.ofNat (enc 128 t)) x3 z.1 z.2) (nI j, ρ) = some (nI r, ρ) := by
    intro m
    induction m with
    | zero =>
      intro j hm h0 hj hb
      have e : j = 42 := by omega
      subst e
      have : r = 42 := by
        rcases h with ⟨a, b, c, -⟩ | ⟨q, -⟩
        · exact absurd c (hb r a b)
        · exact q
      subst this
      refine lp_end (s := (nI 42, ρ)) ?_
      show lq_one_3 (Int64.ofNat (enc 128 t)) x3 (nI 42) ρ = _
      unfold lq_one_3
      rw [if_pos (show (42:Int32) ≤ nI 42 by decide)]
    | succ m ih =>
      intro j hm h0 hj hb
      have st : lq_one_3 (Int64.ofNat (enc 128 t)) x3 (nI j) ρ = if opN j = t then some (.inr (nI j, ρ)) else some (.inl (nI (j + 1), ρ)) := by
        unfold lq_one_3
        rw [if_neg (show ¬ (42:Int32) ≤ nI j from fun q => by have := (n_le (a := 42) (b := j) (by omega) (by omega)).mp q; omega), n_ix (show j < 42 by omega) (by omega), n_cl (show j < 2147483648 by omega), hN j h0 (by omega), vl_eq, show nI j + (1:Int32) = nI (j + 1) from n_add j 1]
        by_cases c : opN j = t
        · rw [if_pos ((Nm.q (nm_op j (by omega) h0) ht).mpr c), if_pos c]
        · rw [if_neg (fun q => c ((Nm.q (nm_op j (by omega) h0) ht).mp q)), if_neg c]
      by_cases c : opN j = t
      · rw [if_pos c] at st
        have : r = j := by
          rcases h with ⟨a, b, c', d⟩ | ⟨-, w⟩
          · rcases Nat.lt_trichotomy r j with q | q | q
            · exact absurd c' (hb r a q)
            · exact q
            · exact absurd c (d j h0 q)
          · exact absurd c (w j h0 (by omega))
        rw [this]
        exact lp_end (s := (nI j, ρ)) st
      · rw [if_neg c] at st
        rw [lp_next (s := (nI j, ρ)) st]
        exact ih (j + 1) (by omega) (by omega) (by omega) (fun o' a b => by
          by_cases q : o' = j
          · rw [q]; exact c
          · exact hb o' a (by omega))
  unfold fq_one bq_one_0 bq_one_3
  rw [show ((1:Int32), ρ) = (nI 1, ρ) from rfl, main 41 1 (by omega) (by omega) (by omega) (fun o' a b => by omega), Option.bind_some]
  rfl
end Z2_Z8
