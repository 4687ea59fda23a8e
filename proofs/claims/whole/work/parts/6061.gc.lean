section Z2_GC
variable {K : Bd} {W W' : Wd} {b : Bool} {k s p : Nat} {σ σ' : cl_S} {ρ ρ' : rf_S}
/-- a loop that counts -/
theorem lp_cnt {S : Type} {f : Int32 → S → Option ((Int32 × S) ⊕ (Int32 × S))} {n : Nat} (I : Nat → S → Prop) (hs : ∀ i s, i < n → I i s → ∃ s', f (nI i) s = some (.inl (nI (i + 1), s')) ∧ I (i + 1) s') (he : ∀ s, I n s → f (nI n) s = some (.inr (nI n, s))) : ∀ m i s, n - i = m → i ≤ n → I i s → ∃ s', lp (fun z : Int32 × S => f z.1 z.2) (nI i, s) = some (nI n, s') ∧ I n s' := by
  intro m
  induction m with
  | zero =>
    intro i s hm hi h
    have : i = n := by omega
    subst this
    exact ⟨s, lp_end (s := (nI i, s)) (he s h), h⟩
  | succ m ih =>
    intro i s hm hi h
    obtain ⟨s1, e1, h1⟩ := hs i s (by omega) h
    obtain ⟨s', e2, h2⟩ := ih (i + 1) s1 (by omega) (by omega) h1
    exact ⟨s', by rw [lp_next (s := (nI i, s)) e1]; exact e2, h2⟩
/-- the reference takes the partitions -/
theorem tk_parts {n : Nat} {bs sz ar : Nat → Nat} (hn : n ≤ 8) (h55 : ρ.1 0 55 = nI n) (hv : ∀ q, q < n → ρ.1 79 (3 * q) = nI (bs q) ∧ ρ.1 79 (3 * q + 1) = nI (sz q) ∧ ρ.1 79 (3 * q + 2) = nI (ar q)) : ∀ m p (ρ' : rf_S), n - p = m → p ≤ n → (∀ c, (c < 28 ∨ 31 < c) → ρ'.1 c = ρ.1 c) → ρ'.2 = ρ.2 → (∀ q, q < p → ρ'.1 28 q = nI (bs q) ∧ ρ'.1 29 q = nI (sz q) ∧ ρ'.1 30 q = nI (ar q) ∧ ρ'.1 31 q = nI (asum ar q)) → ∃ ρ'', lp (fun z : (Int32 × Int32 × rf_S) => lq_takeConfig_40 z.1 z.2.1 z.2.2) (nI (asum ar p), nI p, ρ') = some (nI (asum ar n), nI n, ρ'') ∧ (∀ c, (c < 28 ∨ 31 < c) → ρ''.1 c = ρ.1 c) ∧ ρ''.2 = ρ.2 ∧ (∀ q, q < n → ρ''.1 28 q = nI (bs q) ∧ ρ''.1 29 q = nI (sz q) ∧ ρ''.1 30 q = nI (ar q) ∧ ρ''.1 31 q = nI (asum ar q)) := by
  intro m
  induction m with
  | zero =>
    intro p ρ' hm hp h1 h2 h3
    have : p = n := by omega
    subst this
    have e : lq_takeConfig_40 (nI (asum ar p)) (nI p) ρ' = some (.inr (nI (asum ar p), nI p, ρ')) := by
      unfold lq_takeConfig_40
      rw [h1 0 (by omega), h55, if_pos ((n_le (by omega) (by omega)).mpr (Nat.le_refl _))]
    exact ⟨ρ', lp_end (s := (nI (asum ar p), nI p, ρ')) e, h1, h2, h3⟩
  | succ m ih =>
    intro p ρ' hm hp h1 h2 h3
    obtain ⟨v1, v2, v3⟩ := hv p (by omega)
    have t3 : (3:Int32) * nI p = nI (3 * p) := n_mul 3 p
    have t4 : nI (3 * p) + (1:Int32) = nI (3 * p + 1) := n_add _ 1
    have t5 : nI (3 * p) + (2:Int32) = nI (3 * p + 2) := n_add _ 2
    have t1 : nI p + (1:Int32) = nI (p + 1) := n_add p 1
    have cp' : (nI p).toNatClampNeg = p := n_cl (by omega)
    have i8 : ∀ {α : Type} (z : Option α), ix (nI p) 8 z = z := fun z => n_ix (by omega) (by omega)
    have i3 : ∀ {α : Type} (z : Option α), ix (nI (3 * p)) 200 z = z := fun z => n_ix (by omega) (by omega)
    have i4 : ∀ {α : Type} (z : Option α), ix (nI (3 * p + 1)) 200 z = z := fun z => n_ix (by omega) (by omega)
    have i5 : ∀ {α : Type} (z : Option α), ix (nI (3 * p + 2)) 200 z = z := fun z => n_ix (by omega) (by omega)
    have e : lq_takeConfig_40 (nI (asum ar p)) (nI p) ρ' = some (.inl (nI (asum ar (p + 1)), nI (p + 1), rf_w (rf_w (rf_w (rf_w ρ' 28 p (nI (bs p))) 29 p (nI (sz p))) 30 p (nI (ar p))) 31 p (nI (asum ar p)))) := by
      unfold lq_takeConfig_40
      rw [h1 0 (by omega), h55, if_neg (fun w => by have := (n_le (by omega) (by omega)).mp w; omega), t3, t4, t5, i3, i8, cp', n_cl (show 3 * p < 2147483648 by omega), n_cl (show 3 * p + 1 < 2147483648 by omega), n_cl (show 3 * p + 2 < 2147483648 by omega), h1 79 (by omega), v1, vln, i4, i8, q_w (by decide), h1 79 (by omega), v2, vln, i5, i8, q_w (by decide), q_w (by decide), h1 79 (by omega), v3, vln, i8, vln, i8, q_w (by decide), q_ws, n_add, vln, t1, vln]
      rfl
    obtain ⟨ρ'', g1, g2, g3, g4⟩ := ih (p + 1) _ (by omega) (by omega) (fun c hc => by rw [q_w (by omega), q_w (by omega), q_w (by omega), q_w (by omega)]; exact h1 c hc) (show (rf_w (rf_w (rf_w (rf_w ρ' 28 p (nI (bs p))) 29 p (nI (sz p))) 30 p (nI (ar p))) 31 p (nI (asum ar p))).2 = ρ.2 from h2) (fun q hq => by
      by_cases c : q = p
      · subst c
        refine ⟨?_, ?_, ?_, q_ws⟩
        · rw [q_w (by decide), q_w (by decide), q_w (by decide), q_ws]
        · rw [q_w (by decide), q_w (by decide), q_ws]
        · rw [q_w (by decide), q_ws]
      · have hh := h3 q (by omega)
        simp only [g_q, c, and_false, if_false]
        exact hh)
    exact ⟨ρ'', by rw [lp_next (s := (nI (asum ar p), nI p, ρ')) e]; exact g1, g2, g3, g4⟩
/-- ... the channels -/
theorem tk_chans {n : Nat} {fr to ln : Nat → Nat} (hn : n ≤ 16) (h60 : ρ.1 0 60 = nI n) (hv : ∀ q, q < n → ρ.1 79 (24 + 3 * q) = nI (fr q) ∧ ρ.1 79 (25 + 3 * q) = nI (to q) ∧ ρ.1 79 (26 + 3 * q) = nI (ln q)) : ∃ ρ'', lp (fun z : (Int32 × rf_S) => lq_takeConfig_118 z.1 z.2) (nI 0, ρ) = some (nI n, ρ'') ∧ (∀ c, (c < 32 ∨ 34 < c) → ρ''.1 c = ρ.1 c) ∧ ρ''.2 = ρ.2 ∧ (∀ q, q < n → ρ''.1 32 q = nI (fr q) ∧ ρ''.1 33 q = nI (to q) ∧ ρ''.1 34 q = nI (ln q)) := by
  refine lp_cnt (f := lq_takeConfig_118) (n := n) (fun p ρ' => (∀ c, (c < 32 ∨ 34 < c) → ρ'.1 c = ρ.1 c) ∧ ρ'.2 = ρ.2 ∧ (∀ q, q < p → ρ'.1 32 q = nI (fr q) ∧ ρ'.1 33 q = nI (to q) ∧ ρ'.1 34 q = nI (ln q))) ?_ ?_ n 0 ρ (by omega) (by omega) ⟨fun _ _ => rfl, rfl, fun q hq => absurd hq (by omega)⟩
  · rintro p ρ' hp ⟨h1, h2, h3⟩
    obtain ⟨v1, v2, v3⟩ := hv p (by omega)
    have t3 : (24:Int32) + (3:Int32) * nI p = nI (24 + 3 * p) := by rw [show (3:Int32) = nI 3 from rfl, n_mul, show (24:Int32) = nI 24 from rfl, n_add]
    have t4 : (25:Int32) + (3:Int32) * nI p = nI (25 + 3 * p) := by rw [show (3:Int32) = nI 3 from rfl, n_mul, show (25:Int32) = nI 25 from rfl, n_add]
    have t5 : (26:Int32) + (3:Int32) * nI p = nI (26 + 3 * p) := by rw [show (3:Int32) = nI 3 from rfl, n_mul, show (26:Int32) = nI 26 from rfl, n_add]
    have t1 : nI p + (1:Int32) = nI (p + 1) := n_add p 1
    have cp' : (nI p).toNatClampNeg = p := n_cl (by omega)
    have i8 : ∀ {α : Type} (z : Option α), ix (nI p) 16 z = z := fun z => n_ix (by omega) (by omega)
    have i3 : ∀ {α : Type} (z : Option α), ix (nI (24 + 3 * p)) 200 z = z := fun z => n_ix (by omega) (by omega)
    have i4 : ∀ {α : Type} (z : Option α), ix (nI (25 + 3 * p)) 200 z = z := fun z => n_ix (by omega) (by omega)
    have i5 : ∀ {α : Type} (z : Option α), ix (nI (26 + 3 * p)) 200 z = z := fun z => n_ix (by omega) (by omega)
    refine ⟨rf_w (rf_w (rf_w ρ' 32 p (nI (fr p))) 33 p (nI (to p))) 34 p (nI (ln p)), ?_, ?_, h2, ?_⟩
    · unfold lq_takeConfig_118
      rw [h1 0 (by omega), h60, if_neg (fun w => by have := (n_le (by omega) (by omega)).mp w; omega), t3, t4, t5, i3, i8, cp', n_cl (show 24 + 3 * p < 2147483648 by omega), n_cl (show 25 + 3 * p < 2147483648 by omega), n_cl (show 26 + 3 * p < 2147483648 by omega), h1 79 (by omega), v1, vln, i4, i8, q_w (by decide), h1 79 (by omega), v2, vln, i5, i8, q_w (by decide), q_w (by decide), h1 79 (by omega), v3, vln, vln, t1]
    · intro c hc
      rw [q_w (by omega), q_w (by omega), q_w (by omega)]; exact h1 c hc
    · intro q hq
      by_cases c : q = p
      · subst c
        refine ⟨?_, ?_, q_ws⟩
        · rw [q_w (by decide), q_w (by decide), q_ws]
        · rw [q_w (by decide), q_ws]
      · have hh := h3 q (by omega)
        simp only [g_q, c, and_false, if_false]
        exact hh
  · rintro ρ' ⟨h1, -, -⟩
    unfold lq_takeConfig_118
    rw [h1 0 (by omega), h60, if_pos ((n_le (by omega) (by omega)).mpr (Nat.le_refl _))]
/-- ... the slots -/
theorem tk_slots {n : Nat} {who stp : Nat → Nat} (hn : n ≤ 32) (h64 : ρ.1 0 64 = nI n) (hv : ∀ q, q < n → ρ.1 79 (72 + 2 * q) = nI (who q) ∧ ρ.1 79 (73 + 2 * q) = nI (stp q)) : ∃ ρ'', lp (fun z : (Int32 × rf_S) => lq_takeConfig_185 z.1 z.2) (nI 0, ρ) = some (nI n, ρ'') ∧ (∀ c, (c < 35 ∨ 36 < c) → ρ''.1 c = ρ.1 c) ∧ ρ''.2 = ρ.2 ∧ (∀ q, q < n → ρ''.1 35 q = nI (who q) ∧ ρ''.1 36 q = nI (stp q)) := by
  refine lp_cnt (f := lq_takeConfig_185) (n := n) (fun p ρ' => (∀ c, (c < 35 ∨ 36 < c) → ρ'.1 c = ρ.1 c) ∧ ρ'.2 = ρ.2 ∧ (∀ q, q < p → ρ'.1 35 q = nI (who q) ∧ ρ'.1 36 q = nI (stp q))) ?_ ?_ n 0 ρ (by omega) (by omega) ⟨fun _ _ => rfl, rfl, fun q hq => absurd hq (by omega)⟩
  · rintro p ρ' hp ⟨h1, h2, h3⟩
    obtain ⟨v1, v2⟩ := hv p (by omega)
    have t3 : (72:Int32) + (2:Int32) * nI p = nI (72 + 2 * p) := by rw [show (2:Int32) = nI 2 from rfl, n_mul, show (72:Int32) = nI 72 from rfl, n_add]
    have t4 : (73:Int32) + (2:Int32) * nI p = nI (73 + 2 * p) := by rw [show (2:Int32) = nI 2 from rfl, n_mul, show (73:Int32) = nI 73 from rfl, n_add]
    have t1 : nI p + (1:Int32) = nI (p + 1) := n_add p 1
    have cp' : (nI p).toNatClampNeg = p := n_cl (by omega)
    have i8 : ∀ {α : Type} (z : Option α), ix (nI p) 32 z = z := fun z => n_ix (by omega) (by omega)
    have i3 : ∀ {α : Type} (z : Option α), ix (nI (72 + 2 * p)) 200 z = z := fun z => n_ix (by omega) (by omega)
    have i4 : ∀ {α : Type} (z : Option α), ix (nI (73 + 2 * p)) 200 z = z := fun z => n_ix (by omega) (by omega)
    refine ⟨rf_w (rf_w ρ' 35 p (nI (who p))) 36 p (nI (stp p)), ?_, ?_, h2, ?_⟩
    · unfold lq_takeConfig_185
      rw [h1 0 (by omega), h64, if_neg (fun w => by have := (n_le (by omega) (by omega)).mp w; omega), t3, t4, i3, i8, cp', n_cl (show 72 + 2 * p < 2147483648 by omega), n_cl (show 73 + 2 * p < 2147483648 by omega), h1 79 (by omega), v1, vln, i4, i8, q_w (by decide), h1 79 (by omega), v2, vln, vln, t1]
    · intro c hc
      rw [q_w (by omega), q_w (by omega)]; exact h1 c hc
    · intro q hq
      by_cases c : q = p
      · subst c
        exact ⟨by rw [q_w (by decide), q_ws], q_ws⟩
      · have hh := h3 q (by omega)
        simp only [g_q, c, and_false, if_false]
        exact hh
  · rintro ρ' ⟨h1, -, -⟩
    unfold lq_takeConfig_185
    rw [h1 0 (by omega), h64, if_pos ((n_le (by omega) (by omega)).mpr (Nat.le_refl _))]
end Z2_GC
