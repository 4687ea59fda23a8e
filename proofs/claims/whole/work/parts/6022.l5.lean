section Z2_L5
variable {K : Bd} {W W' : Wd} {b : Bool} {k s p : Nat} {σ σ' : cl_S} {ρ ρ' : rf_S}
theorem c_shiftW {σ : cl_S} {a m : Nat} (x : Int32) (hm : m ≤ 63) (hc : σ.1 a 8 = nI m) : ∃ w σ', lp (fun z : (Int32 × cl_S) => lc_X6_askWord_49 a x z.1 z.2) (nI 0, σ) = some (w, σ') ∧ ((∀ d, d ≠ a + 6 → σ'.1 d = σ.1 d) ∧ σ'.2.2.1 = σ.2.2.1) ∧ σ'.2.2.2 = σ.2.2.2 ∧ σ'.2.1 = σ.2.1 ∧ ∀ j, j < m → σ'.1 (a + 6) j = σ.1 (a + 6) (j + 1) := by
  have loop := lp_ok (b := fun z : (Int32 × cl_S) => lc_X6_askWord_49 a x z.1 z.2)
    (fun n z => ∃ i τ, i + n = m ∧ z = (nI i, τ) ∧ ((∀ d, d ≠ a + 6 → τ.1 d = σ.1 d) ∧ τ.2.2.1 = σ.2.2.1) ∧ τ.2.2.2 = σ.2.2.2 ∧ τ.2.1 = σ.2.1 ∧ (∀ j, j < i → τ.1 (a + 6) j = σ.1 (a + 6) (j + 1)) ∧ ∀ j, i ≤ j → τ.1 (a + 6) j = σ.1 (a + 6) j)
    (fun y => ∃ w τ, y = (w, τ) ∧ ((∀ d, d ≠ a + 6 → τ.1 d = σ.1 d) ∧ τ.2.2.1 = σ.2.2.1) ∧ τ.2.2.2 = σ.2.2.2 ∧ τ.2.1 = σ.2.1 ∧ ∀ j, j < m → τ.1 (a + 6) j = σ.1 (a + 6) (j + 1)) ?_ m (nI 0, σ) ⟨0, σ, by omega, rfl, ⟨fun _ _ => rfl, rfl⟩, rfl, rfl, fun j hj => absurd hj (by omega), fun _ _ => rfl⟩
  · obtain ⟨y, ey, w, τ, rfl, r⟩ := loop
    exact ⟨w, τ, ey, r⟩
  · rintro n z ⟨i, τ, hin, rfl, h1, h2, h2', h3, h4⟩
    show (∃ t m', lc_X6_askWord_49 a x (nI i) τ = some (.inl t) ∧ m' < n ∧ _) ∨ (∃ y, lc_X6_askWord_49 a x (nI i) τ = some (.inr y) ∧ _)
    unfold lc_X6_askWord_49
    have e8 : τ.1 a 8 = nI m := by rw [h1.1 a (by omega)]; exact hc
    rw [e8]
    by_cases q : m ≤ i
    · right
      rw [if_pos ((n_le (by omega) (by omega)).mpr q)]
      exact ⟨_, rfl, _, τ, rfl, h1, h2, h2', fun j hj => h3 j (by omega)⟩
    · left
      have k1 : nI i + (1:Int32) = nI (i + 1) := n_add i 1
      rw [if_neg (fun w => q ((n_le (by omega) (by omega)).mp w)), k1, n_ix (show i + 1 < 64 by omega) (by omega), n_cl (show i + 1 < 2147483648 by omega), n_ix (show i < 64 by omega) (by omega), n_cl (show i < 2147483648 by omega)]
      simp only [vl_eq]
      refine ⟨_, n - 1, rfl, by omega, i + 1, _, by omega, rfl, ⟨fun d hd => by rw [r_w hd]; exact h1.1 d hd, h1.2⟩, h2, h2', ?_, ?_⟩
      · intro j hj
        by_cases c : j = i
        · subst c; rw [r_ws]; exact h4 (j + 1) (by omega)
        · rw [r_wk c]; exact h3 j (by omega)
      · intro j hj
        rw [r_wk (by omega)]; exact h4 j (by omega)
theorem c_shiftT {σ : cl_S} {a m : Nat} (x : Int32) (hm : m ≤ 63) (hc : σ.1 a 10 = nI m) : ∃ w σ', lp (fun z : (Int32 × cl_S) => lc_X6_askTerm_41 a x z.1 z.2) (nI 0, σ) = some (w, σ') ∧ (σ'.1 = σ.1 ∧ ∀ d, d ≠ a + 7 → σ'.2.2.1 d = σ.2.2.1 d) ∧ σ'.2.2.2 = σ.2.2.2 ∧ σ'.2.1 = σ.2.1 ∧ ∀ j, j < m → σ'.2.2.1 (a + 7) j = σ.2.2.1 (a + 7) (j + 1) := by
  have loop := lp_ok (b := fun z : (Int32 × cl_S) => lc_X6_askTerm_41 a x z.1 z.2)
    (fun n z => ∃ i τ, i + n = m ∧ z = (nI i, τ) ∧ (τ.1 = σ.1 ∧ ∀ d, d ≠ a + 7 → τ.2.2.1 d = σ.2.2.1 d) ∧ τ.2.2.2 = σ.2.2.2 ∧ τ.2.1 = σ.2.1 ∧ (∀ j, j < i → τ.2.2.1 (a + 7) j = σ.2.2.1 (a + 7) (j + 1)) ∧ ∀ j, i ≤ j → τ.2.2.1 (a + 7) j = σ.2.2.1 (a + 7) j)
    (fun y => ∃ w τ, y = (w, τ) ∧ (τ.1 = σ.1 ∧ ∀ d, d ≠ a + 7 → τ.2.2.1 d = σ.2.2.1 d) ∧ τ.2.2.2 = σ.2.2.2 ∧ τ.2.1 = σ.2.1 ∧ ∀ j, j < m → τ.2.2.1 (a + 7) j = σ.2.2.1 (a + 7) (j + 1)) ?_ m (nI 0, σ) ⟨0, σ, by omega, rfl, ⟨rfl, fun _ _ => rfl⟩, rfl, rfl, fun j hj => absurd hj (by omega), fun _ _ => rfl⟩
  · obtain ⟨y, ey, w, τ, rfl, r⟩ := loop
    exact ⟨w, τ, ey, r⟩
  · rintro n z ⟨i, τ, hin, rfl, h1, h2, h2', h3, h4⟩
    show (∃ t m', lc_X6_askTerm_41 a x (nI i) τ = some (.inl t) ∧ m' < n ∧ _) ∨ (∃ y, lc_X6_askTerm_41 a x (nI i) τ = some (.inr y) ∧ _)
    unfold lc_X6_askTerm_41
    have e8 : τ.1 a 10 = nI m := by rw [h1.1]; exact hc
    rw [e8]
    by_cases q : m ≤ i
    · right
      rw [if_pos ((n_le (by omega) (by omega)).mpr q)]
      exact ⟨_, rfl, _, τ, rfl, h1, h2, h2', fun j hj => h3 j (by omega)⟩
    · left
      have k1 : nI i + (1:Int32) = nI (i + 1) := n_add i 1
      rw [if_neg (fun w => q ((n_le (by omega) (by omega)).mp w)), k1, n_ix (show i + 1 < 64 by omega) (by omega), n_cl (show i + 1 < 2147483648 by omega)]
      simp only [vl_eq]
      rw [n_ix (show i < 64 by omega) (by omega), n_cl (show i < 2147483648 by omega)]
      refine ⟨_, n - 1, rfl, by omega, i + 1, _, by omega, rfl, ⟨h1.1, fun d hd => by rw [r_r hd]; exact h1.2 d hd⟩, h2, h2', ?_, ?_⟩
      · intro j hj
        by_cases c : j = i
        · subst c; rw [r_rs]; exact h4 (j + 1) (by omega)
        · rw [r_rk c]; exact h3 j (by omega)
      · intro j hj
        rw [r_rk (by omega)]; exact h4 j (by omega)
theorem q_shiftW {ρ : rf_S} {g m : Nat} (x : Int32) (hg : g < 16) (ha : ρ.1 0 119 = nI g) (hm : m ≤ 63) (hc : ρ.1 66 g = nI m) : ∃ w ρ', lp (fun z : (Int32 × rf_S) => lq_nextWord_48 x z.1 z.2) (nI 0, ρ) = some (w, ρ') ∧ (∀ c, c ≠ 65 → ρ'.1 c = ρ.1 c) ∧ ρ'.2 = ρ.2 ∧ (∀ j, (j < 64 * g ∨ 64 * g + 64 ≤ j) → ρ'.1 65 j = ρ.1 65 j) ∧ ∀ j, j < m → ρ'.1 65 (64 * g + j) = ρ.1 65 (64 * g + (j + 1)) := by
  have loop := lp_ok (b := fun z : (Int32 × rf_S) => lq_nextWord_48 x z.1 z.2)
    (fun n z => ∃ i τ, i + n = m ∧ z = (nI i, τ) ∧ (∀ c, c ≠ 65 → τ.1 c = ρ.1 c) ∧ τ.2 = ρ.2 ∧ (∀ j, (j < 64 * g ∨ 64 * g + 64 ≤ j) → τ.1 65 j = ρ.1 65 j) ∧ (∀ j, j < i → τ.1 65 (64 * g + j) = ρ.1 65 (64 * g + (j + 1))) ∧ ∀ j, i ≤ j → τ.1 65 (64 * g + j) = ρ.1 65 (64 * g + j))
    (fun y => ∃ w τ, y = (w, τ) ∧ (∀ c, c ≠ 65 → τ.1 c = ρ.1 c) ∧ τ.2 = ρ.2 ∧ (∀ j, (j < 64 * g ∨ 64 * g + 64 ≤ j) → τ.1 65 j = ρ.1 65 j) ∧ ∀ j, j < m → τ.1 65 (64 * g + j) = ρ.1 65 (64 * g + (j + 1))) ?_ m (nI 0, ρ) ⟨0, ρ, by omega, rfl, fun _ _ => rfl, rfl, fun _ _ => rfl, fun j hj => absurd hj (by omega), fun _ _ => rfl⟩
  · obtain ⟨y, ey, w, τ, rfl, r⟩ := loop
    exact ⟨w, τ, ey, r⟩
  · rintro n z ⟨i, τ, hin, rfl, h1, h2, h5, h3, h4⟩
    show (∃ t m', lq_nextWord_48 x (nI i) τ = some (.inl t) ∧ m' < n ∧ _) ∨ (∃ y, lq_nextWord_48 x (nI i) τ = some (.inr y) ∧ _)
    unfold lq_nextWord_48
    have e0 : τ.1 0 119 = nI g := by rw [h1 0 (by omega)]; exact ha
    have e8 : τ.1 66 g = nI m := by rw [h1 66 (by omega)]; exact hc
    rw [e0, n_ix hg (by omega), n_cl (by omega), e8]
    by_cases q : m ≤ i
    · right
      rw [if_pos ((n_le (by omega) (by omega)).mpr q)]
      exact ⟨_, rfl, _, τ, rfl, h1, h2, h5, fun j hj => h3 j (by omega)⟩
    · left
      have k0 : (64:Int32) * nI g + nI i = nI (64 * g + i) := by rw [show (64:Int32) = nI 64 from rfl, n_mul, n_add]
      have k1 : nI (64 * g + i) + (1:Int32) = nI (64 * g + i + 1) := n_add _ 1
      have k2 : nI i + (1:Int32) = nI (i + 1) := n_add i 1
      rw [if_neg (fun w => q ((n_le (by omega) (by omega)).mp w)), k0, k1, k2, n_ix (show 64 * g + i + 1 < 1024 by omega) (by omega), n_ix (show 64 * g + i < 1024 by omega) (by omega), n_cl (show 64 * g + i + 1 < 2147483648 by omega), n_cl (show 64 * g + i < 2147483648 by omega)]
      simp only [vl_eq]
      refine ⟨_, n - 1, rfl, by omega, i + 1, _, by omega, rfl, fun c hc => by rw [q_w hc]; exact h1 c hc, h2, fun j hj => by rw [q_wk (by omega)]; exact h5 j hj, ?_, ?_⟩
      · intro j hj
        by_cases c : j = i
        · subst c; rw [q_ws, show 64 * g + j + 1 = 64 * g + (j + 1) by omega]; exact h4 (j + 1) (by omega)
        · rw [q_wk (by omega)]; exact h3 j (by omega)
      · intro j hj
        rw [q_wk (by omega)]; exact h4 j (by omega)
theorem q_shiftT {ρ : rf_S} {g m : Nat} (x : Int32) (hg : g < 16) (ha : ρ.1 0 119 = nI g) (hm : m ≤ 63) (hc : ρ.1 68 g = nI m) : ∃ w ρ', lp (fun z : (Int32 × rf_S) => lq_nextTerm_50 x z.1 z.2) (nI 0, ρ) = some (w, ρ') ∧ (∀ c, c ≠ 67 → ρ'.1 c = ρ.1 c) ∧ ρ'.2 = ρ.2 ∧ (∀ j, (j < 64 * g ∨ 64 * g + 64 ≤ j) → ρ'.1 67 j = ρ.1 67 j) ∧ ∀ j, j < m → ρ'.1 67 (64 * g + j) = ρ.1 67 (64 * g + (j + 1)) := by
  have loop := lp_ok (b := fun z : (Int32 × rf_S) => lq_nextTerm_50 x z.1 z.2)
    (fun n z => ∃ i τ, i + n = m ∧ z = (nI i, τ) ∧ (∀ c, c ≠ 67 → τ.1 c = ρ.1 c) ∧ τ.2 = ρ.2 ∧ (∀ j, (j < 64 * g ∨ 64 * g + 64 ≤ j) → τ.1 67 j = ρ.1 67 j) ∧ (∀ j, j < i → τ.1 67 (64 * g + j) = ρ.1 67 (64 * g + (j + 1))) ∧ ∀ j, i ≤ j → τ.1 67 (64 * g + j) = ρ.1 67 (64 * g + j))
    (fun y => ∃ w τ, y = (w, τ) ∧ (∀ c, c ≠ 67 → τ.1 c = ρ.1 c) ∧ τ.2 = ρ.2 ∧ (∀ j, (j < 64 * g ∨ 64 * g + 64 ≤ j) → τ.1 67 j = ρ.1 67 j) ∧ ∀ j, j < m → τ.1 67 (64 * g + j) = ρ.1 67 (64 * g + (j + 1))) ?_ m (nI 0, ρ) ⟨0, ρ, by omega, rfl, fun _ _ => rfl, rfl, fun _ _ => rfl, fun j hj => absurd hj (by omega), fun _ _ => rfl⟩
  · obtain ⟨y, ey, w, τ, rfl, r⟩ := loop
    exact ⟨w, τ, ey, r⟩
  · rintro n z ⟨i, τ, hin, rfl, h1, h2, h5, h3, h4⟩
    show (∃ t m', lq_nextTerm_50 x (nI i) τ = some (.inl t) ∧ m' < n ∧ _) ∨ (∃ y, lq_nextTerm_50 x (nI i) τ = some (.inr y) ∧ _)
    unfold lq_nextTerm_50
    have e0 : τ.1 0 119 = nI g := by rw [h1 0 (by omega)]; exact ha
    have e8 : τ.1 68 g = nI m := by rw [h1 68 (by omega)]; exact hc
    rw [e0, n_ix hg (by omega), n_cl (by omega), e8]
    by_cases q : m ≤ i
    · right
      rw [if_pos ((n_le (by omega) (by omega)).mpr q)]
      exact ⟨_, rfl, _, τ, rfl, h1, h2, h5, fun j hj => h3 j (by omega)⟩
    · left
      have k0 : (64:Int32) * nI g + nI i = nI (64 * g + i) := by rw [show (64:Int32) = nI 64 from rfl, n_mul, n_add]
      have k1 : nI (64 * g + i) + (1:Int32) = nI (64 * g + i + 1) := n_add _ 1
      have k2 : nI i + (1:Int32) = nI (i + 1) := n_add i 1
      rw [if_neg (fun w => q ((n_le (by omega) (by omega)).mp w)), k0, k1, k2, n_ix (show 64 * g + i + 1 < 1024 by omega) (by omega), n_ix (show 64 * g + i < 1024 by omega) (by omega), n_cl (show 64 * g + i + 1 < 2147483648 by omega), n_cl (show 64 * g + i < 2147483648 by omega)]
      simp only [vl_eq]
      refine ⟨_, n - 1, rfl, by omega, i + 1, _, by omega, rfl, fun c hc => by rw [q_w hc]; exact h1 c hc, h2, fun j hj => by rw [q_wk (by omega)]; exact h5 j hj, ?_, ?_⟩
      · intro j hj
        by_cases c : j = i
        · subst c; rw [q_ws, show 64 * g + j + 1 = 64 * g + (j + 1) by omega]; exact h4 (j + 1) (by omega)
        · rw [q_wk (by omega)]; exact h3 j (by omega)
      · intro j hj
        rw [q_wk (by omega)]; exact h4 j (by omega)
theorem ask_word (h : Ak K W b k s p σ ρ) : Sim (fc_X6_askWord (83 + 135 * s + 12 * p) σ) (fq_nextWord ρ) (AkO K W b k s p ρ) := by
  have s2 := h.s2
  have p8 := h.p8
  have hP := h.P
  have C := h.ctx
  obtain ⟨n, ⟨hn, e1, e2⟩, e3⟩ := hP.ww
  have c2 : (2:Int32).toNatClampNeg = 2 := by decide
  have c0 : (0:Int32).toNatClampNeg = 0 := by decide
  have i2 : ∀ {α : Type} (x : Option α), ix (2:Int32) 16 x = x := fun x => n_ix (a := 2) (by omega) (by omega)
  have i0 : ∀ {α : Type} (x : Option α), ix (0:Int32) 64 x = x := fun x => n_ix (a := 0) (by omega) (by omega)
  unfold fc_X6_askWord bc_X6_askWord_0 bc_X6_askWord_20 fq_nextWord bq_nextWord_0
  rw [h.at', n_ix (show 8 * s + p < 16 by omega) (by omega), n_cl (by omega), e1, e2]
  have rg := fun v => C.rg (r := 2) (by omega) v
  by_cases q : n = 0
  · subst q
    have w := c_write C (d := 2) (by omega) 0
    obtain ⟨σ1, ρ1, f1, f2, C1, F1, -, -⟩ := w
    rw [if_pos (show nI 0 ≤ 0 by decide), if_pos (show nI 0 = 0 from rfl), i2, c2]
    have f2' : fq_give (2:Int32) (0:Int32) ρ = some ρ1 := f2
    rw [f2', bd1_eq, vl_eq]
    have f1' : cl_w σ (83 + 135 * s + 12 * p + 1 + 2) 2 0 = σ1 := by
      unfold fc_X2_write bc_X2_write_0 at f1
      rw [if_neg (show ¬ nI 2 = 0 by decide), n_ix (show 2 < 16 by omega) (by omega), n_cl (by omega), vl_eq] at f1
      rw [show 83 + 135 * s + 12 * p + 1 + 2 = 84 + 135 * s + 12 * p + 2 by omega]
      exact Option.some.inj f1
    have g8 : σ1.1 (83 + 135 * s + 12 * p) 8 = 0 := by rw [F1.cI _ (by omega)]; exact e1
    rw [f1', g8, if_pos rfl]
    have hz : ∀ j, ρ1.1 0 j = ρ.1 0 j := by
      intro j
      unfold fq_give bq_give_0 at f2
      rw [if_neg (show ¬ nI 2 = 0 by decide)] at f2
      obtain ⟨-, f3⟩ := ix_some f2
      rw [vl_eq] at f3
      rw [← Option.some.inj f3, q_w (by decide)]
    have p54 : ρ1.1 54 = ρ.1 54 := by
      unfold fq_give bq_give_0 at f2
      rw [if_neg (show ¬ nI 2 = 0 by decide)] at f2
      obtain ⟨-, f3⟩ := ix_some f2
      rw [vl_eq] at f3
      rw [← Option.some.inj f3, q_w (by decide)]
    exact Sim.mk ⟨rfl, W, Wd.le.refl W, h.core C1 F1 hz, ⟨hz 121, by rw [p54], F1.qA 48 (by decide) (by omega)⟩⟩
  · have l1 : ¬ nI n ≤ 0 := by rw [i32_0, n_le (by omega) (by omega)]; omega
    have l2 : ¬ nI n = 0 := by rw [i32_0, n_eq (by omega) (by omega)]; exact q
    have k1 : nI n - (1:Int32) = nI (n - 1) := n_sub (a := n) (b := 1) (by omega)
    have k64 : (64:Int32) * nI (8 * s + p) = nI (64 * (8 * s + p)) := n_mul 64 _
    have a3 : 83 + 135 * s + 12 * p + 1 + 2 = 86 + 135 * s + 12 * p := by omega
    have a6 : 83 + 135 * s + 12 * p + 6 = 89 + 135 * s + 12 * p := by omega
    have g8 : (cl_w σ (86 + 135 * s + 12 * p) 2 1).1 (83 + 135 * s + 12 * p) 8 = nI n := by rw [r_w (by omega)]; exact e1
    have g0 : (cl_w σ (86 + 135 * s + 12 * p) 2 1).1 (89 + 135 * s + 12 * p) 0 = σ.1 (89 + 135 * s + 12 * p) 0 := by rw [r_w (by omega)]
    rw [if_neg l1, if_neg l2, i2, c2, a3, vl_eq, g8, if_neg l2, i0, c0, a6, g0, k1, k64, n_ix (show 64 * (8 * s + p) < 1024 by omega) (by omega), n_cl (show 64 * (8 * s + p) < 2147483648 by omega)]
    simp only [vl_eq]
    rw [n_ix (show 8 * s + p < 16 by omega) (by omega), n_ix (show 8 * s + p < 16 by omega) (by omega)]
    have v0 : σ.1 (89 + 135 * s + 12 * p) 0 = ρ.1 65 (64 * (8 * s + p)) := e3 0 (by omega)
    unfold bc_X6_askWord_49 bq_nextWord_48 ec_X6_askWord_49 eq_nextWord_48
    obtain ⟨w1, σ', l1', ⟨o1, o2⟩, o3, o4, o5⟩ := c_shiftW (σ := cl_w (cl_w σ (86 + 135 * s + 12 * p) 2 1) (83 + 135 * s + 12 * p) 8 (nI (n - 1))) (a := 83 + 135 * s + 12 * p) (m := n - 1) (σ.1 (89 + 135 * s + 12 * p) 0) (by omega) r_ws
    obtain ⟨w2, ρ1, l2', u1, u2, u3, u4⟩ := q_shiftW (ρ := rf_w ρ 66 (8 * s + p) (nI (n - 1))) (g := 8 * s + p) (m := n - 1) (ρ.1 65 (64 * (8 * s + p))) (by omega) h.at' (by omega) q_ws
    have l1'' : lp (fun z : (Int32 × cl_S) => lc_X6_askWord_49 (83 + 135 * s + 12 * p) (σ.1 (89 + 135 * s + 12 * p) 0) z.1 z.2) (0, cl_w (cl_w σ (86 + 135 * s + 12 * p) 2 1) (83 + 135 * s + 12 * p) 8 (nI (n - 1))) = some (w1, σ') := l1'
    have l2'' : lp (fun z : (Int32 × rf_S) => lq_nextWord_48 (ρ.1 65 (64 * (8 * s + p))) z.1 z.2) (0, rf_w ρ 66 (8 * s + p) (nI (n - 1))) = some (w2, ρ1) := l2'
    rw [l1'', l2'']
    show Sim (some (σ.1 (89 + 135 * s + 12 * p) 0, σ')) (bd1 (fq_give (2:Int32) (1:Int32) ρ1) (fun ρ_5 => some (ρ.1 65 (64 * (8 * s + p)), ρ_5))) _
    have at1 : ρ1.1 0 119 = nI (8 * s + p) := by rw [u1 0 (by omega), q_w (by decide)]; exact h.at'
    have gv : fq_give (2:Int32) (1:Int32) ρ1 = some (rf_w ρ1 53 (16 * (8 * s + p) + 2) 1) := by
      unfold fq_give bq_give_0
      have k2 : (16:Int32) * nI (8 * s + p) + (2:Int32) = nI (16 * (8 * s + p) + 2) := by rw [show (16:Int32) = nI 16 from rfl, show (2:Int32) = nI 2 from rfl, n_mul, n_add]
      rw [if_neg (by decide), at1, k2, n_ix (show 16 * (8 * s + p) + 2 < 256 by omega) (by omega), n_cl (by omega), vl_eq]
    rw [gv, bd1_eq, v0]
    have cI : ∀ a, a ≠ 83 + 135 * s + 12 * p → a ≠ 86 + 135 * s + 12 * p → a ≠ 89 + 135 * s + 12 * p → σ'.1 a = σ.1 a := by
      intro a h1 h2 h3; rw [o1 a (by omega), r_w h1, r_w h2]
    have cK : ∀ j, j ≠ 8 → σ'.1 (83 + 135 * s + 12 * p) j = σ.1 (83 + 135 * s + 12 * p) j := by
      intro j hj; rw [o1 _ (by omega), r_wk hj, r_w (by omega)]
    have c8 : σ'.1 (83 + 135 * s + 12 * p) 8 = nI (n - 1) := by rw [o1 _ (by omega), r_ws]
    have c86 : σ'.1 (86 + 135 * s + 12 * p) = (cl_w σ (86 + 135 * s + 12 * p) 2 1).1 (86 + 135 * s + 12 * p) := by rw [o1 _ (by omega), r_w (by omega)]
    have c89 : ∀ j, j < n - 1 → σ'.1 (89 + 135 * s + 12 * p) j = σ.1 (89 + 135 * s + 12 * p) (j + 1) := by
      intro j hj
      have := o5 j hj
      rw [a6, r_w (by omega), r_w (by omega)] at this
      exact this
    have qo : ∀ c, c ≠ 53 → c ≠ 65 → c ≠ 66 → (rf_w ρ1 53 (16 * (8 * s + p) + 2) 1).1 c = ρ.1 c := by
      intro c h1 h2 h3; rw [q_w h1, u1 c h2, q_w h3]
    have q53 : ∀ i, (rf_w ρ1 53 (16 * (8 * s + p) + 2) 1).1 53 i = if i = 16 * (8 * s + p) + 2 then 1 else ρ.1 53 i := by
      intro i; rw [g_q, u1 53 (by omega), q_w (by decide)]; simp only [true_and]
    have q66 : ∀ i, (rf_w ρ1 53 (16 * (8 * s + p) + 2) 1).1 66 i = if i = 8 * s + p then nI (n - 1) else ρ.1 66 i := by
      intro i; rw [q_w (by decide), u1 66 (by omega), g_q]; simp only [true_and]
    have q65 : ∀ i, (i < 64 * (8 * s + p) ∨ 64 * (8 * s + p) + 64 ≤ i) → (rf_w ρ1 53 (16 * (8 * s + p) + 2) 1).1 65 i = ρ.1 65 i := by
      intro i hi; rw [q_w (by decide), u3 i hi, q_w (by decide)]
    have q65' : ∀ j, j < n - 1 → (rf_w ρ1 53 (16 * (8 * s + p) + 2) 1).1 65 (64 * (8 * s + p) + j) = ρ.1 65 (64 * (8 * s + p) + (j + 1)) := by
      intro j hj; rw [q_w (by decide), u4 j hj, q_w (by decide)]
    have q2' : (rf_w ρ1 53 (16 * (8 * s + p) + 2) 1).2 = ρ.2 := u2
    have oT : σ'.2.2.2 = σ.2.2.2 := o3
    have oR : σ'.2.2.1 = σ.2.2.1 := o2
    have oL : σ'.2.1 = σ.2.1 := o4
    generalize (rf_w ρ1 53 (16 * (8 * s + p) + 2) 1) = τq at qo q53 q66 q65 q65' q2' ⊢
    have L : Lc W b s p σ σ' ρ τq := by
      refine ⟨fun a w => cI a (fun e => w (by unfold prt; omega)) (fun e => w (by unfold prt; omega)) (fun e => w (by unfold prt; omega)), oL, fun a _ => by rw [oR], oT, fun c j hc w => ?_, q2', fun j => by rw [qo 0 (by omega) (by omega) (by omega)]⟩
      by_cases c1 : c = 53
      · subst c1
        rw [q53, if_neg]
        rintro rfl
        exact w ⟨.rg 2 (by omega), by decide, by decide, fun e => absurd e (by decide)⟩
      · by_cases c2 : c = 65
        · subst c2
          refine q65 j ?_
          apply Classical.byContradiction
          intro hno
          refine w ⟨?_, by decide, by decide, fun e => absurd e (by decide)⟩
          have := seg.wa (W := W) (s := s) (p := p) 65 (j - 64 * (8 * s + p)) (by decide) (by omega)
          rw [show 64 * (8 * s + p) + (j - 64 * (8 * s + p)) = j by omega] at this
          exact this
        · by_cases c3 : c = 66
          · subst c3
            rw [q66, if_neg]
            rintro rfl
            exact w ⟨.ct 66 (by decide), by decide, by decide, fun e => absurd e (by decide)⟩
          · rw [qo c c1 c2 c3]
    have G := (L.fr s2 p8 h.R.T).G
    refine Sim.mk ⟨rfl, W, Wd.le.refl W, h.loc L ?_ (qo 61 (by omega) (by omega) (by omega)) (qo 69 (by omega) (by omega) (by omega)), ⟨by rw [qo 0 (by omega) (by omega) (by omega)], by rw [qo 54 (by omega) (by omega) (by omega)], by rw [qo 48 (by omega) (by omega) (by omega)]⟩⟩
    refine ⟨?_, hP.tb.fr G (by rw [cK _ (by omega)]) (by rw [cK _ (by omega)]) (cI _ (by omega) (by omega) (by omega)) (by rw [oR]) (cI _ (by omega) (by omega) (by omega)) (by rw [oR]) (fun j _ => by rw [qo 60 (by omega) (by omega) (by omega)]) (by rw [qo 61 (by omega) (by omega) (by omega)]) (by rw [qo 70 (by omega) (by omega) (by omega)]) (by rw [qo 43 (by omega) (by omega) (by omega)]) (fun j _ => by rw [qo 42 (by omega) (by omega) (by omega)]), hP.ou.fr G.le (by rw [cK _ (by omega)]) (cI _ (by omega) (by omega) (by omega)) (by rw [oR]) (by rw [qo 64 (by omega) (by omega) (by omega)]) (fun c j hc _ => by rw [qo c (by omega) (by omega) (by omega)]), ?_, hP.wt.fr G.le (by rw [cK _ (by omega)]) (by rw [oR]) (by rw [qo 68 (by omega) (by omega) (by omega)]) (fun j _ => by rw [qo 67 (by omega) (by omega) (by omega)]), hP.se.fr (by rw [cK _ (by omega)]) (by rw [qo 69 (by omega) (by omega) (by omega)]), hP.ms.fr G (fun j _ _ => by rw [oR]) (by rw [qo 38 (by omega) (by omega) (by omega)]) (by rw [qo 39 (by omega) (by omega) (by omega)])⟩
    · refine (rg 1).1.co.fr rfl rfl (by rw [cK _ (by omega), r_w (by omega)]) (by rw [cI _ (by omega) (by omega) (by omega), r_w (by omega)]) (by rw [cI _ (by omega) (by omega) (by omega), r_w (by omega)]) c86 (fun c h1 h2 => by rw [qo c (by omega) (by omega) (by omega), q_w (by omega)]) (fun r hr => ?_) (fun i _ => by rw [qo 52 (by omega) (by omega) (by omega), q_w (by omega)])
      rw [q53, g_q]
      simp only [true_and]
    · refine ⟨n - 1, ⟨by omega, c8, by rw [q66, if_pos rfl]⟩, fun j hj => ?_⟩
      rw [c89 j hj, q65' j hj]
      exact e3 (j + 1) (by omega)
/-- a waiting TERM is asked for -/
theorem ask_term (h : Ak K W b k s p σ ρ) : Sim (fc_X6_askTerm (83 + 135 * s + 12 * p) σ) (fq_nextTerm ρ) (AkO K W b k s p ρ) := by
  have s2 := h.s2
  have p8 := h.p8
  obtain ⟨n, ⟨hn, e1, e2⟩, e3⟩ := h.P.wt
  have c0 : (0:Int32).toNatClampNeg = 0 := by decide
  have i0 : ∀ {α : Type} (x : Option α), ix (0:Int32) 64 x = x := fun x => n_ix (a := 0) (by omega) (by omega)
  unfold fc_X6_askTerm bc_X6_askTerm_0 fq_nextTerm bq_nextTerm_0
  rw [h.at', n_ix (show 8 * s + p < 16 by omega) (by omega), n_cl (by omega), e1, e2]
  by_cases q : n = 0
  · subst q
    rw [if_pos (show nI 0 = 0 from rfl), if_pos (show nI 0 = 0 from rfl)]
    exact Sim.mk (AkO.same h _)
  have l2 : ¬ nI n = 0 := by rw [i32_0, n_eq (by omega) (by omega)]; exact q
  have k1 : nI n - (1:Int32) = nI (n - 1) := n_sub (a := n) (b := 1) (by omega)
  have k64 : (64:Int32) * nI (8 * s + p) = nI (64 * (8 * s + p)) := n_mul 64 _
  have a7 : 83 + 135 * s + 12 * p + 7 = 90 + 135 * s + 12 * p := by omega
  have a9 : 83 + 135 * s + 12 * p + 9 = 92 + 135 * s + 12 * p := by omega
  obtain ⟨t, ht, et, er⟩ := e3 0 (by omega)
  rw [if_neg l2, if_neg l2, i0, c0, a7, a9, er, vl_eq, k64, n_ix (show 64 * (8 * s + p) < 1024 by omega) (by omega), n_cl (show 64 * (8 * s + p) < 2147483648 by omega)]
  rw [Nat.add_zero] at et
  rw [et]
  -- what follows after the handle is there
  have go : ∀ (r : Int32) (σ1 : cl_S) (ρ1 : rf_S), 0 ≤ r → r ≠ 0 → Ak K W b k s p σ1 ρ1 → Kp s p ρ ρ1 → σ1.1 (83 + 135 * s + 12 * p) = σ.1 (83 + 135 * s + 12 * p) → (∀ c, c ≠ 60 → c ≠ 61 → ρ1.1 c = ρ.1 c) →
      Sim (if 0 ≤ r then vl (cl_w σ1 (83 + 135 * s + 12 * p) 10 (σ1.1 (83 + 135 * s + 12 * p) 10 - (1:Int32))) (fun σ_15 => bc_X6_askTerm_41 (83 + 135 * s + 12 * p) r (0:Int32) σ_15) else some (r, σ1)) (if r ≤ 0 then some (r, ρ1) else ix (ρ1.1 0 119) 16 (ix (ρ1.1 0 119) 16 (vl (rf_w ρ1 68 (ρ1.1 0 119).toNatClampNeg ((ρ1.1 68 (ρ1.1 0 119).toNatClampNeg) - (1:Int32))) (fun ρ_3 => bq_nextTerm_50 r (0:Int32) ρ_3)))) (AkO K W b k s p ρ) := by
    intro r σ1 ρ1 hr hr0 h1 kp c83 qo1
    have nle : ¬ r ≤ 0 := fun w => hr0 (Int32.le_antisymm w hr)
    have hP := h1.P
    obtain ⟨n', ⟨hn', f1, f2⟩, f3⟩ := hP.wt
    have : n' = n := by
      rw [c83, e1] at f1
      exact ((n_eq (by omega) (by omega)).mp f1).symm
    subst this
    rw [if_pos hr, if_neg nle, h1.at', n_ix (show 8 * s + p < 16 by omega) (by omega), n_ix (show 8 * s + p < 16 by omega) (by omega), n_cl (by omega), f1, f2, k1]
    simp only [vl_eq]
    unfold bc_X6_askTerm_41 bq_nextTerm_50 ec_X6_askTerm_41 eq_nextTerm_50
    obtain ⟨w1, σ', l1', ⟨o1, o2⟩, o3, o4, o5⟩ := c_shiftT (σ := cl_w σ1 (83 + 135 * s + 12 * p) 10 (nI (n' - 1))) (a := 83 + 135 * s + 12 * p) (m := n' - 1) r (by omega) r_ws
    obtain ⟨w2, ρ', l2', u1, u2, u3, u4⟩ := q_shiftT (ρ := rf_w ρ1 68 (8 * s + p) (nI (n' - 1))) (g := 8 * s + p) (m := n' - 1) r (by omega) h1.at' (by omega) q_ws
    have l1'' : lp (fun z : (Int32 × cl_S) => lc_X6_askTerm_41 (83 + 135 * s + 12 * p) r z.1 z.2) (0, cl_w σ1 (83 + 135 * s + 12 * p) 10 (nI (n' - 1))) = some (w1, σ') := l1'
    have l2'' : lp (fun z : (Int32 × rf_S) => lq_nextTerm_50 r z.1 z.2) (0, rf_w ρ1 68 (8 * s + p) (nI (n' - 1))) = some (w2, ρ') := l2'
    rw [l1'', l2'']
    show Sim (some (r, σ')) (some (r, ρ')) _
    have cI : ∀ a, a ≠ 83 + 135 * s + 12 * p → σ'.1 a = σ1.1 a := by
      intro a h1; rw [o1, r_w h1]
    have cK : ∀ j, j ≠ 10 → σ'.1 (83 + 135 * s + 12 * p) j = σ1.1 (83 + 135 * s + 12 * p) j := by
      intro j hj; rw [o1, r_wk hj]
    have c10 : σ'.1 (83 + 135 * s + 12 * p) 10 = nI (n' - 1) := by rw [o1, r_ws]
    have cR : ∀ a, a ≠ 90 + 135 * s + 12 * p → σ'.2.2.1 a = σ1.2.2.1 a := by
      intro a ha; rw [o2 a (by omega), r_wL]
    have c90 : ∀ j, j < n' - 1 → σ'.2.2.1 (90 + 135 * s + 12 * p) j = σ1.2.2.1 (90 + 135 * s + 12 * p) (j + 1) := by
      intro j hj
      have := o5 j hj
      rw [a7, r_wL] at this
      exact this
    have qo : ∀ c, c ≠ 67 → c ≠ 68 → ρ'.1 c = ρ1.1 c := by
      intro c h2 h3; rw [u1 c h2, q_w h3]
    have q68 : ∀ i, ρ'.1 68 i = if i = 8 * s + p then nI (n' - 1) else ρ1.1 68 i := by
      intro i; rw [u1 68 (by omega), g_q]; simp only [true_and]
    have q67 : ∀ i, (i < 64 * (8 * s + p) ∨ 64 * (8 * s + p) + 64 ≤ i) → ρ'.1 67 i = ρ1.1 67 i := by
      intro i hi; rw [u3 i hi, q_w (by decide)]
    have q67' : ∀ j, j < n' - 1 → ρ'.1 67 (64 * (8 * s + p) + j) = ρ1.1 67 (64 * (8 * s + p) + (j + 1)) := by
      intro j hj; rw [u4 j hj, q_w (by decide)]
    have L : Lc W b s p σ1 σ' ρ1 ρ' := by
      refine ⟨fun a w => cI a (fun e => w (by unfold prt; omega)), o4, fun a w => cR a (fun e => w (by unfold prt; omega)), o3, fun c j hc w => ?_, u2, fun j => by rw [qo 0 (by omega) (by omega)]⟩
      by_cases c2 : c = 67
      · subst c2
        refine q67 j ?_
        apply Classical.byContradiction
        intro hno
        refine w ⟨?_, by decide, by decide, fun e => absurd e (by decide)⟩
        have := seg.wa (W := W) (s := s) (p := p) 67 (j - 64 * (8 * s + p)) (by decide) (by omega)
        rw [show 64 * (8 * s + p) + (j - 64 * (8 * s + p)) = j by omega] at this
        exact this
      · by_cases c3 : c = 68
        · subst c3
          rw [q68, if_neg]
          rintro rfl
          exact w ⟨.ct 68 (by decide), by decide, by decide, fun e => absurd e (by decide)⟩
        · rw [qo c c2 c3]
    have G := (L.fr s2 p8 h1.R.T).G
    refine Sim.mk ⟨rfl, W, Wd.le.refl W, h1.loc L ?_ (qo 61 (by omega) (by omega)) (qo 69 (by omega) (by omega)), kp.trans ⟨by rw [qo 0 (by omega) (by omega)], by rw [qo 54 (by omega) (by omega)], by rw [qo 48 (by omega) (by omega)]⟩⟩
    refine ⟨hP.co.fr rfl rfl (by rw [cK _ (by omega)]) (cI _ (by omega)) (cI _ (by omega)) (cI _ (by omega)) (fun c h1 h2 => by rw [qo c (by omega) (by omega)]) (fun r _ => by rw [qo 53 (by omega) (by omega)]) (fun i _ => by rw [qo 52 (by omega) (by omega)]), hP.tb.fr G (by rw [cK _ (by omega)]) (by rw [cK _ (by omega)]) (cI _ (by omega)) (cR _ (by omega)) (cI _ (by omega)) (cR _ (by omega)) (fun j _ => by rw [qo 60 (by omega) (by omega)]) (by rw [qo 61 (by omega) (by omega)]) (by rw [qo 70 (by omega) (by omega)]) (by rw [qo 43 (by omega) (by omega)]) (fun j _ => by rw [qo 42 (by omega) (by omega)]), hP.ou.fr G.le (by rw [cK _ (by omega)]) (cI _ (by omega)) (cR _ (by omega)) (by rw [qo 64 (by omega) (by omega)]) (fun c j hc _ => by rw [qo c (by omega) (by omega)]), hP.ww.fr (by rw [cK _ (by omega)]) (cI _ (by omega)) (by rw [qo 66 (by omega) (by omega)]) (fun j _ => by rw [qo 65 (by omega) (by omega)]), ?_, hP.se.fr (by rw [cK _ (by omega)]) (by rw [qo 69 (by omega) (by omega)]), hP.ms.fr G (fun j _ _ => by rw [cR _ (by omega)]) (by rw [qo 38 (by omega) (by omega)]) (by rw [qo 39 (by omega) (by omega)])⟩
    refine ⟨n' - 1, ⟨by omega, c10, by rw [q68, if_pos rfl]⟩, fun j hj => ?_⟩
    rw [c90 j hj, q67' j hj]
    exact f3 (j + 1) (by omega)
  rcases h.come ht with ⟨r, g1, g2, g3, g4, -⟩ | ⟨m, σ1, ρ1, g1, g2, g3, g4, kp, g5, g6, g7, hA⟩
  · rw [g3, g4, bd2_eq, bd2_eq]
    rcases g1 with ⟨r0, r1⟩ | rfl
    · exact go r σ ρ r0 r1 h Kp.refl rfl (fun _ _ _ => rfl)
    · rw [if_neg (by decide), if_pos (by decide)]
      exact Sim.mk (AkO.same h _)
  · rw [g3, g4, bd2_eq, bd2_eq]
    refine go _ σ1 ρ1 ?_ ?_ (hA K (by omega) (by omega) (Nat.le_refl _) (Nat.le_refl _)) kp (g5 _ (by omega)).1 g7
    · rw [i32_0, n_le (by omega) (by omega)]; omega
    · rw [i32_0]; intro w; have := (n_eq (by omega) (by omega)).mp w; omega
end Z2_L5
