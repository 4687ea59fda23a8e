section Z2_Z7
variable {σ σ' σ0 : cl_S} {ρ ρ' ρ0 : rf_S} {x : Nat → Nat} {n : Nat}
/-- where token i begins, where the one before ended -/
def sp (x : Nat → Nat) (n p : Nat) : Nat := pv x n (n - p) false p
def ep (x : Nat → Nat) (n : Nat) : Nat → Nat
  | 0 => 0
  | i + 1 => tokE x n (sp x n (ep x n i))
def tp (x : Nat → Nat) (n i : Nat) : Nat := sp x n (ep x n i)
def tK (x : Nat → Nat) (n i : Nat) : Nat := tokK x n (tp x n i)
def fnl (k : Nat) : Prop := k = 0 ∨ k = 7
theorem ep_le : ∀ i, ep x n i ≤ n := by
  intro i
  induction i with
  | zero => exact Nat.zero_le _
  | succ i ih => exact (tkE_le (pv_le _ _ _ ih)).1
theorem tp_le (i : Nat) : tp x n i ≤ n := pv_le _ _ _ (ep_le i)
theorem tK_0 {i : Nat} : tK x n i = 0 ↔ n ≤ tp x n i := by
  unfold tK tokK
  by_cases c : n ≤ tp x n i
  · rw [if_pos c]; exact ⟨fun _ => c, fun _ => rfl⟩
  rw [if_neg c]
  refine ⟨fun q => ?_, fun q => absurd q c⟩
  split at q
  · split at q <;> cases q
  split at q
  · by_cases w : (tokF x n (tp x n i)).length ≤ (if isHex x n (tp x n i) then 8 else 10)
    · rw [if_pos w] at q; cases q
    · rw [if_neg w] at q; cases q
  · exact absurd q (sgn_le _).2.1
theorem tK_lt (i : Nat) : tK x n i < 8 := by
  unfold tK tokK
  by_cases c : n ≤ tp x n i
  · rw [if_pos c]; omega
  rw [if_neg c]
  by_cases l : ltr (x (tp x n i)) = true
  · rw [if_pos l]; split <;> omega
  rw [if_neg l]
  by_cases g : fg (x (tp x n i)) = true
  · rw [if_pos g]
    by_cases w : (tokF x n (tp x n i)).length ≤ (if isHex x n (tp x n i) then 8 else 10)
    · rw [if_pos w]; omega
    · rw [if_neg w]; omega
  · rw [if_neg g]; exact (sgn_le _).1
theorem tp_ge : ∀ i, (∀ j, j < i → tK x n j ≠ 0) → i ≤ tp x n i ∧ i ≤ ep x n i := by
  intro i
  induction i with
  | zero => intro _; exact ⟨Nat.zero_le _, Nat.zero_le _⟩
  | succ i ih =>
    intro h
    obtain ⟨h1, -⟩ := ih (fun j hj => h j (by omega))
    have h2 : tp x n i < n := by
      apply Classical.byContradiction
      intro q
      exact h i (by omega) (tK_0.mpr (by omega))
    have h3 : tp x n i < ep x n (i + 1) := (tkE_le (tp_le i)).2 h2
    have h4 : ep x n (i + 1) ≤ tp x n (i + 1) := pv_ge _ _ _
    omega
theorem tk_cnt (x : Nat → Nat) (n : Nat) : ∃ c, c ≤ n ∧ fnl (tK x n c) ∧ ∀ j, j < c → ¬ fnl (tK x n j) := by
  have ex : ∃ c, fnl (tK x n c) := by
    apply Classical.byContradiction
    intro q
    have := (tp_ge (x := x) (n := n) (n + 1) (fun j _ h => q ⟨j, Or.inl h⟩)).1
    have := tp_le (x := x) (n := n) (n + 1)
    omega
  obtain ⟨c, hc⟩ := ex
  have least : ∀ c, fnl (tK x n c) → ∃ c, fnl (tK x n c) ∧ ∀ j, j < c → ¬ fnl (tK x n j) := by
    intro c
    induction c using Nat.strongRecOn with
    | ind c ih =>
      intro hc
      by_cases h : ∀ j, j < c → ¬ fnl (tK x n j)
      · exact ⟨c, hc, h⟩
      · obtain ⟨j, hj, hf⟩ : ∃ j, j < c ∧ fnl (tK x n j) := by
          apply Classical.byContradiction
          intro q
          exact h (fun j hj hf => q ⟨j, hj, hf⟩)
        exact ih j hj hf
  obtain ⟨c, hc, hl⟩ := least c hc
  have := (tp_ge (x := x) (n := n) c (fun j hj h => hl j hj (Or.inl h))).1
  have := tp_le (x := x) (n := n) c
  exact ⟨c, by omega, hc, hl⟩
/-- the class's tokens, the first i of them -/
def RT (σ0 σ : cl_S) (x : Nat → Nat) (n i : Nat) : Prop := (∀ j, j < i → σ.1 3 j = nI (tK x n j)) ∧ (∀ j, j < i → σ.1 4 j = nI (tp x n j)) ∧ (∀ j, j < i → tK x n j = 2 → σ.2.1 5 j = Int64.ofNat (enc 256 (tokN x n (tp x n j)))) ∧ (∀ j, j < i → tK x n j = 3 → σ.2.1 5 j = tokV x n (tp x n j)) ∧ (σ.1 1 2 = nI (ep x n i)) ∧ (σ.1 1 6 = nI i) ∧ (∀ d j, d ≠ 3 → d ≠ 4 → ¬ (d = 1 ∧ (j = 2 ∨ j = 6)) → σ.1 d j = σ0.1 d j) ∧ (∀ d, d ≠ 5 → σ.2.1 d = σ0.2.1 d) ∧ (σ.2.2 = σ0.2.2)
theorem RT.k {σ0 σ : cl_S} {x : Nat → Nat} {n i : Nat} (hS : RT σ0 σ x n i) : ∀ j, j < i → σ.1 3 j = nI (tK x n j) := hS.1
theorem RT.pl {σ0 σ : cl_S} {x : Nat → Nat} {n i : Nat} (hS : RT σ0 σ x n i) : ∀ j, j < i → σ.1 4 j = nI (tp x n j) := hS.2.1
theorem RT.v2 {σ0 σ : cl_S} {x : Nat → Nat} {n i : Nat} (hS : RT σ0 σ x n i) : ∀ j, j < i → tK x n j = 2 → σ.2.1 5 j = Int64.ofNat (enc 256 (tokN x n (tp x n j))) := hS.2.2.1
theorem RT.v3 {σ0 σ : cl_S} {x : Nat → Nat} {n i : Nat} (hS : RT σ0 σ x n i) : ∀ j, j < i → tK x n j = 3 → σ.2.1 5 j = tokV x n (tp x n j) := hS.2.2.2.1
theorem RT.e {σ0 σ : cl_S} {x : Nat → Nat} {n i : Nat} (hS : RT σ0 σ x n i) : σ.1 1 2 = nI (ep x n i) := hS.2.2.2.2.1
theorem RT.cn {σ0 σ : cl_S} {x : Nat → Nat} {n i : Nat} (hS : RT σ0 σ x n i) : σ.1 1 6 = nI i := hS.2.2.2.2.2.1
theorem RT.I {σ0 σ : cl_S} {x : Nat → Nat} {n i : Nat} (hS : RT σ0 σ x n i) : ∀ d j, d ≠ 3 → d ≠ 4 → ¬ (d = 1 ∧ (j = 2 ∨ j = 6)) → σ.1 d j = σ0.1 d j := hS.2.2.2.2.2.2.1
theorem RT.L {σ0 σ : cl_S} {x : Nat → Nat} {n i : Nat} (hS : RT σ0 σ x n i) : ∀ d, d ≠ 5 → σ.2.1 d = σ0.2.1 d := hS.2.2.2.2.2.2.2.1
theorem RT.r {σ0 σ : cl_S} {x : Nat → Nat} {n i : Nat} (hS : RT σ0 σ x n i) : σ.2.2 = σ0.2.2 := hS.2.2.2.2.2.2.2.2
theorem RT.T {i : Nat} (h : RT σ0 σ x n i) (T : TxC σ0 x n) : TxC σ x n := ⟨by rw [h.I 1 1 (by decide) (by decide) (by decide)]; exact T.ln, T.le, fun j => by rw [h.I 2 j (by decide) (by decide) (by omega)]; exact T.ox j, T.b⟩
theorem RT.step {i : Nat} (h : RT σ0 σ x n i) (T : TxC σ0 x n) (hi : i ≤ 6000) : ∃ σ1 σ', fc_X4_passOver 1 σ = some σ1 ∧ fc_X4_readToken 1 σ1 = some σ' ∧ RT σ0 σ' x n (i + 1) := by
  have T1 := h.T T
  have e1 := c_passOver T1 (ep_le (x := x) i)
  rw [w_id h.e] at e1
  obtain ⟨σ', e2, K⟩ := c_token (p := tp x n i) (c := i) T1.mv (tp_le i) hi r_ws (by rw [r_wk (by decide)]; exact h.cn)
  refine ⟨_, σ', e1, e2, ?_⟩
  have I' : ∀ d j, ¬ (d = 3 ∧ j = i) → ¬ (d = 4 ∧ j = i) → ¬ (d = 1 ∧ (j = 2 ∨ j = 6)) → σ'.1 d j = σ.1 d j := fun d j a b c => by
    rw [K.I d j a b c, g_w, if_neg (fun w => c ⟨w.1, Or.inl w.2⟩)]
  refine ⟨fun j hj => ?_, fun j hj => ?_, fun j hj q => ?_, fun j hj q => ?_, K.e, K.cn, fun d j a b c => by rw [I' d j (fun w => a w.1) (fun w => b w.1) c]; exact h.I d j a b c, fun d hd => funext fun j => by rw [K.L d j (fun w => hd w.1), r_wL, h.L d hd], by rw [K.r, r_wL, h.r]⟩
  · by_cases c : j = i
    · rw [c]; exact K.k
    · rw [I' 3 j (fun w => c w.2) (by omega) (by omega)]; exact h.k j (by omega)
  · by_cases c : j = i
    · rw [c]; exact K.pl
    · rw [I' 4 j (by omega) (fun w => c w.2) (by omega)]; exact h.pl j (by omega)
  · by_cases c : j = i
    · subst c; exact K.v2 q
    · rw [K.L 5 j (fun w => c w.2), r_wL]; exact h.v2 j (by omega) q
  · by_cases c : j = i
    · subst c; exact K.v3 q
    · rw [K.L 5 j (fun w => c w.2), r_wL]; exact h.v3 j (by omega) q
theorem RT.loop (T : TxC σ0 x n) {c : Nat} (hc : c ≤ n) (hf : fnl (tK x n c)) (hl : ∀ j, j < c → ¬ fnl (tK x n j)) : ∀ m i σ, c - i = m → i ≤ c → RT σ0 σ x n i → ∃ (σ' : cl_S) (y : Int32 × Int32), lp (fun z : (Int32 × Int32 × cl_S) => lc_X4_readTokens_14 1 z.1 z.2.1 z.2.2) ((1:Int32), nI i, σ) = some (y.1, y.2, σ') ∧ RT σ0 σ' x n (c + 1) := by
  have hn := T.le
  intro m
  induction m with
  | zero =>
    intro i σ hm hi h
    have ei : i = c := by omega
    subst ei
    obtain ⟨σ1, σ', e1, e2, h'⟩ := h.step T (by omega)
    have st : lc_X4_readTokens_14 1 (1:Int32) (nI i) σ = some (.inl ((0:Int32), nI (i + 1), σ')) := by
      unfold lc_X4_readTokens_14 bc_X4_readTokens_57i14 bc_X4_readTokens_58i14
      rw [if_neg (show ¬ (6000:Int32) < nI i from fun q => by have := (n_lt (a := 6000) (b := i) (by omega) (by omega)).mp q; omega), if_neg (by decide), e1, bd1_eq, e2, bd1_eq, n_ix (show i < 6001 by omega) (by omega), n_ix (show i < 6001 by omega) (by omega), n_cl (show i < 2147483648 by omega), show (1 + 2) = 3 from rfl, h'.k i (by omega), vl_eq, vl_eq, show nI i + (1:Int32) = nI (i + 1) from n_add i 1]
      rcases hf with q | q
      · rw [q, if_pos (show nI 0 = (0:Int32) from rfl)]
      · rw [q, if_neg (show ¬ nI 7 = (0:Int32) by decide), if_pos (show nI 7 = (7:Int32) from rfl)]
    refine ⟨σ', ((0:Int32), nI (i + 1)), ?_, h'⟩
    rw [lp_next (s := ((1:Int32), nI i, σ)) st]
    refine lp_end (s := ((0:Int32), nI (i + 1), σ')) ?_
    show lc_X4_readTokens_14 1 (0:Int32) (nI (i + 1)) σ' = _
    unfold lc_X4_readTokens_14
    by_cases q : (6000:Int32) < nI (i + 1)
    · rw [if_pos q]
    · rw [if_neg q, if_pos rfl]
  | succ m ih =>
    intro i σ hm hi h
    obtain ⟨σ1, σ', e1, e2, h'⟩ := h.step T (by omega)
    have nf := hl i (by omega)
    have kl := tK_lt (x := x) (n := n) i
    have st : lc_X4_readTokens_14 1 (1:Int32) (nI i) σ = some (.inl ((1:Int32), nI (i + 1), σ')) := by
      unfold lc_X4_readTokens_14 bc_X4_readTokens_58i14
      rw [if_neg (show ¬ (6000:Int32) < nI i from fun q => by have := (n_lt (a := 6000) (b := i) (by omega) (by omega)).mp q; omega), if_neg (by decide), e1, bd1_eq, e2, bd1_eq, n_ix (show i < 6001 by omega) (by omega), n_ix (show i < 6001 by omega) (by omega), n_cl (show i < 2147483648 by omega), show (1 + 2) = 3 from rfl, h'.k i (by omega), vl_eq, show nI i + (1:Int32) = nI (i + 1) from n_add i 1]
      rw [if_neg (show ¬ nI (tK x n i) = (0:Int32) from fun q => nf (Or.inl ((n_eq (a := tK x n i) (b := 0) (by omega) (by omega)).mp q))), if_neg (show ¬ nI (tK x n i) = (7:Int32) from fun q => nf (Or.inr ((n_eq (a := tK x n i) (b := 7) (by omega) (by omega)).mp q)))]
    obtain ⟨σ2, y, e3, h3⟩ := ih (i + 1) σ' (by omega) (by omega) h'
    exact ⟨σ2, y, by rw [lp_next (s := ((1:Int32), nI i, σ)) st]; exact e3, h3⟩
/-- all tokens -/
theorem c_tokens (T : TxC σ x n) {c : Nat} (hc : c ≤ n) (hf : fnl (tK x n c)) (hl : ∀ j, j < c → ¬ fnl (tK x n j)) : ∃ σ', fc_X4_readTokens 1 σ = some σ' ∧ RT σ σ' x n (c + 1) := by
  have R0 : RT σ (cl_w (cl_w σ 1 2 (0:Int32)) 1 6 (0:Int32)) x n 0 := by
    refine ⟨fun j hj => absurd hj (by omega), fun j hj => absurd hj (by omega), fun j hj => absurd hj (by omega), fun j hj => absurd hj (by omega), by rw [r_wk (by decide), r_ws]; rfl, by rw [r_ws]; rfl, fun d j _ _ q => ?_, fun d _ => rfl, rfl⟩
    rw [g_w, if_neg (fun w => q ⟨w.1, Or.inr w.2⟩), g_w, if_neg (fun w => q ⟨w.1, Or.inl w.2⟩)]
  obtain ⟨σ', y, e, h⟩ := RT.loop T hc hf hl c 0 _ (by omega) (by omega) R0
  refine ⟨σ', ?_, h⟩
  unfold fc_X4_readTokens bc_X4_readTokens_0 bc_X4_readTokens_14
  rw [vl_eq, vl_eq, show ((1:Int32), (0:Int32), cl_w (cl_w σ 1 2 (0:Int32)) 1 6 (0:Int32)) = ((1:Int32), nI 0, cl_w (cl_w σ 1 2 (0:Int32)) 1 6 (0:Int32)) from rfl, e, Option.bind_some]
  rfl
end Z2_Z7
