section Z2_DE
variable {K : Bd} {W W' : Wd} {b : Bool} {k s p q : Nat} {σ σ' : cl_S} {ρ ρ' : rf_S} {N : Nat}
/-- a loop that compares, as long as all is alike -/
theorem lp_all {S : Type} {f : Int32 → Int32 → S → Option ((Int32 × Int32 × S) ⊕ (Int32 × Int32 × S))} {n : Nat} {E : Nat → Prop} (τ : S) (h0 : ∀ i, i < n → f (0:Int32) (nI i) τ = some (.inr ((0:Int32), nI i, τ))) (h1 : ∀ i, i < n → E i → f (1:Int32) (nI i) τ = some (.inl ((1:Int32), nI (i + 1), τ))) (h2 : ∀ i, i < n → ¬ E i → f (1:Int32) (nI i) τ = some (.inl ((0:Int32), nI (i + 1), τ))) (he : ∀ x, f x (nI n) τ = some (.inr (x, nI n, τ))) : ∀ m i, n - i = m → i ≤ n → ∃ i', (lp (fun z : (Int32 × Int32 × S) => f z.1 z.2.1 z.2.2) ((1:Int32), nI i, τ) = some ((1:Int32), i', τ) ∧ ∀ j, i ≤ j → j < n → E j) ∨ (lp (fun z : (Int32 × Int32 × S) => f z.1 z.2.1 z.2.2) ((1:Int32), nI i, τ) = some ((0:Int32), i', τ) ∧ ∃ j, i ≤ j ∧ j < n ∧ ¬ E j) := by
  intro m
  induction m with
  | zero =>
    intro i e hi
    have : i = n := by omega
    subst this
    exact ⟨nI i, Or.inl ⟨lp_end (he _), fun j a b => absurd b (by omega)⟩⟩
  | succ m ih =>
    intro i e hi
    have hin : i < n := by omega
    by_cases c : E i
    · obtain ⟨i', r⟩ := ih (i + 1) (by omega) (by omega)
      refine ⟨i', ?_⟩
      rw [lp_next (body := fun z : (Int32 × Int32 × S) => f z.1 z.2.1 z.2.2) (h1 i hin c)]
      rcases r with ⟨r1, r2⟩ | ⟨r1, j, r2, r3, r4⟩
      · refine Or.inl ⟨r1, fun j a b => ?_⟩
        by_cases q : j = i
        · rw [q]; exact c
        · exact r2 j (by omega) b
      · exact Or.inr ⟨r1, j, by omega, r3, r4⟩
    · by_cases c2 : i + 1 < n
      · refine ⟨nI (i + 1), Or.inr ⟨?_, i, Nat.le_refl _, hin, c⟩⟩
        rw [lp_next (body := fun z : (Int32 × Int32 × S) => f z.1 z.2.1 z.2.2) (h2 i hin c)]
        exact lp_end (h0 _ c2)
      · refine ⟨nI n, Or.inr ⟨?_, i, Nat.le_refl _, hin, c⟩⟩
        rw [lp_next (body := fun z : (Int32 × Int32 × S) => f z.1 z.2.1 z.2.2) (h2 i hin c), show i + 1 = n by omega]
        exact lp_end (he _)
theorem lp_all0 {S : Type} {f : Int32 → Int32 → S → Option ((Int32 × Int32 × S) ⊕ (Int32 × Int32 × S))} {n : Nat} (τ : S) (h0 : ∀ i, i < n → f (0:Int32) (nI i) τ = some (.inr ((0:Int32), nI i, τ))) (he : ∀ x, f x (nI n) τ = some (.inr (x, nI n, τ))) : ∃ i', lp (fun z : (Int32 × Int32 × S) => f z.1 z.2.1 z.2.2) ((0:Int32), nI 0, τ) = some ((0:Int32), i', τ) := by
  by_cases c : 0 < n
  · exact ⟨nI 0, lp_end (h0 0 c)⟩
  · have : n = 0 := by omega
    subst this
    exact ⟨nI 0, lp_end (he _)⟩
/-- both loops, one after the other -/
theorem lp_two {S : Type} {f g : Int32 → Int32 → S → Option ((Int32 × Int32 × S) ⊕ (Int32 × Int32 × S))} {n m : Nat} {E F : Nat → Prop} {A : Prop} (τ : S) (x : Int32) (hx : (x = 1 ∧ A) ∨ (x = 0 ∧ ¬ A))
    (f0 : ∀ i, i < n → f (0:Int32) (nI i) τ = some (.inr ((0:Int32), nI i, τ))) (f1 : ∀ i, i < n → E i → f (1:Int32) (nI i) τ = some (.inl ((1:Int32), nI (i + 1), τ))) (f2 : ∀ i, i < n → ¬ E i → f (1:Int32) (nI i) τ = some (.inl ((0:Int32), nI (i + 1), τ))) (fe : ∀ x, f x (nI n) τ = some (.inr (x, nI n, τ)))
    (g0 : ∀ i, i < m → g (0:Int32) (nI i) τ = some (.inr ((0:Int32), nI i, τ))) (g1 : ∀ i, i < m → F i → g (1:Int32) (nI i) τ = some (.inl ((1:Int32), nI (i + 1), τ))) (g2 : ∀ i, i < m → ¬ F i → g (1:Int32) (nI i) τ = some (.inl ((0:Int32), nI (i + 1), τ))) (ge : ∀ x, g x (nI m) τ = some (.inr (x, nI m, τ))) :
    ∃ y i1 z i2, lp (fun z : (Int32 × Int32 × S) => f z.1 z.2.1 z.2.2) (x, nI 0, τ) = some (y, i1, τ) ∧ lp (fun z : (Int32 × Int32 × S) => g z.1 z.2.1 z.2.2) (y, nI 0, τ) = some (z, i2, τ) ∧ ((z = 1 ∧ A ∧ (∀ j, j < n → E j) ∧ (∀ j, j < m → F j)) ∨ (z = 0 ∧ ¬ (A ∧ (∀ j, j < n → E j) ∧ (∀ j, j < m → F j)))) := by
  obtain ⟨i0, z0⟩ := lp_all0 (f := g) (n := m) τ g0 ge
  rcases hx with ⟨rfl, hA⟩ | ⟨rfl, hA⟩
  · obtain ⟨i1, ⟨r1, r2⟩ | ⟨r1, j, r2, r3, r4⟩⟩ := lp_all (f := f) (n := n) (E := E) τ f0 f1 f2 fe n 0 (by omega) (by omega)
    · obtain ⟨i2, ⟨s1, s2⟩ | ⟨s1, j, s2, s3, s4⟩⟩ := lp_all (f := g) (n := m) (E := F) τ g0 g1 g2 ge m 0 (by omega) (by omega)
      · exact ⟨1, i1, 1, i2, r1, s1, Or.inl ⟨rfl, hA, fun j hj => r2 j (by omega) hj, fun j hj => s2 j (by omega) hj⟩⟩
      · exact ⟨1, i1, 0, i2, r1, s1, Or.inr ⟨rfl, fun w => s4 (w.2.2 j s3)⟩⟩
    · exact ⟨0, i1, 0, i0, r1, z0, Or.inr ⟨rfl, fun w => r4 (w.2.1 j r3)⟩⟩
  · obtain ⟨i1, r1⟩ := lp_all0 (f := f) (n := n) τ f0 fe
    exact ⟨0, i1, 0, i0, r1, z0, Or.inr ⟨rfl, fun w => hA w.1⟩⟩
theorem ov_eq (T : TermR N σ ρ W.ts W.tm W.N) {w w' v v' f f' : Int32} {r r' : Option Nat} (h : OV W w r v f) (h' : OV W w' r' v' f') : (w = w' ∧ r = r') ↔ (v = v' ∧ f = f') := by
  have N2 := T.Q.n.2
  rcases h with ⟨a1, a2, a3⟩ | ⟨a1, a2, t, a3, a4, a5⟩ <;> rcases h' with ⟨b1, b2, b3⟩ | ⟨b1, b2, u, b3, b4, b5⟩
  · rw [a1, a2, a3, b1, b2, b3]
    exact ⟨fun w => ⟨w.1, rfl⟩, fun w => ⟨w.1, rfl⟩⟩
  · have := T.C.mem _ (T.L.inm u b3)
    rw [a1, a2, b1, b5]
    exact ⟨fun w => absurd (Option.some.inj w.2) (by omega), fun w => absurd w.2 (by decide)⟩
  · have := T.C.mem _ (T.L.inm t a3)
    rw [a1, a5, b1, b2]
    exact ⟨fun w => absurd (Option.some.inj w.2) (by omega), fun w => absurd w.2 (by decide)⟩
  · rw [a1, a2, a4, a5, b1, b2, b4, b5]
    refine ⟨?_, ?_⟩
    · intro w
      have := T.L.inj t u a3 b3 (Option.some.inj w.2)
      exact ⟨by rw [this], rfl⟩
    · intro w
      have := (n_eq (by omega) (by omega)).mp w.1
      exact ⟨rfl, by rw [this]⟩
end Z2_DE
