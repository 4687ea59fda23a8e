section Z2_DF
variable {K : Bd} {W W' : Wd} {b : Bool} {k s p q : Nat} {σ σ' : cl_S} {ρ ρ' : rf_S} {N : Nat}
theorem like_c {a a2 n1 : Nat} (cnt : σ.1 a 6 = nI n1) (h2 : n1 ≤ 200) : ∃ r, fc_X6_isLike a (some a2) σ = some (r, σ) ∧ ((r = 1 ∧ (σ.1 (a + 1) 3 = σ.1 (a2 + 1) 3 ∧ σ.1 a 6 = σ.1 a2 6) ∧ (∀ j, j < 16 → σ.1 ((a + 1) + 2) j = σ.1 ((a2 + 1) + 2) j) ∧ (∀ j, j < n1 → σ.1 (a + 4) j = σ.1 (a2 + 4) j ∧ σ.2.2.1 (a + 5) j = σ.2.2.1 (a2 + 5) j)) ∨ (r = 0 ∧ ¬ ((σ.1 (a + 1) 3 = σ.1 (a2 + 1) 3 ∧ σ.1 a 6 = σ.1 a2 6) ∧ (∀ j, j < 16 → σ.1 ((a + 1) + 2) j = σ.1 ((a2 + 1) + 2) j) ∧ (∀ j, j < n1 → σ.1 (a + 4) j = σ.1 (a2 + 4) j ∧ σ.2.2.1 (a + 5) j = σ.2.2.1 (a2 + 5) j)))) := by
  have go : ∀ x : Int32, ((x = 1 ∧ (σ.1 (a + 1) 3 = σ.1 (a2 + 1) 3 ∧ σ.1 a 6 = σ.1 a2 6)) ∨ (x = 0 ∧ ¬ (σ.1 (a + 1) 3 = σ.1 (a2 + 1) 3 ∧ σ.1 a 6 = σ.1 a2 6))) → ∃ r, bc_X6_isLike_36 a (some a2) x (0:Int32) σ = some (r, σ) ∧ ((r = 1 ∧ (σ.1 (a + 1) 3 = σ.1 (a2 + 1) 3 ∧ σ.1 a 6 = σ.1 a2 6) ∧ (∀ j, j < 16 → σ.1 ((a + 1) + 2) j = σ.1 ((a2 + 1) + 2) j) ∧ (∀ j, j < n1 → σ.1 (a + 4) j = σ.1 (a2 + 4) j ∧ σ.2.2.1 (a + 5) j = σ.2.2.1 (a2 + 5) j)) ∨ (r = 0 ∧ ¬ ((σ.1 (a + 1) 3 = σ.1 (a2 + 1) 3 ∧ σ.1 a 6 = σ.1 a2 6) ∧ (∀ j, j < 16 → σ.1 ((a + 1) + 2) j = σ.1 ((a2 + 1) + 2) j) ∧ (∀ j, j < n1 → σ.1 (a + 4) j = σ.1 (a2 + 4) j ∧ σ.2.2.1 (a + 5) j = σ.2.2.1 (a2 + 5) j)))) := by
    intro x hx
    have lt16 : ∀ i, i < 16 → ¬ (16:Int32) ≤ nI i := fun i hi w => by have := (n_le (a := 16) (b := i) (by omega) (by omega)).mp w; omega
    have ltn : ∀ i, i < n1 → ¬ nI n1 ≤ nI i := fun i hi w => by have := (n_le (by omega) (by omega)).mp w; omega
    have s1 : ∀ (v0 : Int32) i, bc_X6_isLike_72i36 a (some a2) (nI i) v0 σ = some (.inl (v0, nI (i + 1), σ)) := fun v0 i => by
      unfold bc_X6_isLike_72i36
      rw [vln, show nI i + (1:Int32) = nI (i + 1) from n_add i 1]
    have s2 : ∀ (v0 : Int32) i, bc_X6_isLike_128i81 a (some a2) (nI i) v0 σ = some (.inl (v0, nI (i + 1), σ)) := fun v0 i => by
      unfold bc_X6_isLike_128i81
      rw [vln, show nI i + (1:Int32) = nI (i + 1) from n_add i 1]
    obtain ⟨y, i1, z, i2, l1, l2, l3⟩ := lp_two (f := fun x i σ => lc_X6_isLike_36 a (some a2) x i σ) (g := fun x i σ => lc_X6_isLike_81 a (some a2) x i σ) (n := 16) (m := n1) (E := fun j => σ.1 ((a + 1) + 2) j = σ.1 ((a2 + 1) + 2) j) (F := fun j => σ.1 (a + 4) j = σ.1 (a2 + 4) j ∧ σ.2.2.1 (a + 5) j = σ.2.2.1 (a2 + 5) j) (A := (σ.1 (a + 1) 3 = σ.1 (a2 + 1) 3 ∧ σ.1 a 6 = σ.1 a2 6)) σ x hx (fun i hi => by
        show lc_X6_isLike_36 a (some a2) (0:Int32) (nI i) σ = _
        unfold lc_X6_isLike_36
        rw [if_neg (lt16 i hi), if_pos rfl]) (fun i hi c => by
        show lc_X6_isLike_36 a (some a2) (1:Int32) (nI i) σ = _
        unfold lc_X6_isLike_36
        rw [if_neg (lt16 i hi), if_neg (by decide), n_ix hi (by omega), nnn, n_ix hi (by omega), n_cl (show i < 2147483648 by omega), if_pos c, s1]) (fun i hi c => by
        show lc_X6_isLike_36 a (some a2) (1:Int32) (nI i) σ = _
        unfold lc_X6_isLike_36
        rw [if_neg (lt16 i hi), if_neg (by decide), n_ix hi (by omega), nnn, n_ix hi (by omega), n_cl (show i < 2147483648 by omega), if_neg c, s1]) (fun x => by
        show lc_X6_isLike_36 a (some a2) x (nI 16) σ = _
        unfold lc_X6_isLike_36
        rw [if_pos (show (16:Int32) ≤ nI 16 from Int32.le_refl _)]) (fun i hi => by
        show lc_X6_isLike_81 a (some a2) (0:Int32) (nI i) σ = _
        unfold lc_X6_isLike_81
        rw [cnt, if_neg (ltn i hi), if_pos rfl]) (fun i hi c => by
        have h20 : ∀ {α : Type} (z : Option α), ix (nI i) 200 z = z := fun z => n_ix (by omega) (by omega)
        show lc_X6_isLike_81 a (some a2) (1:Int32) (nI i) σ = _
        unfold lc_X6_isLike_81
        rw [cnt, if_neg (ltn i hi), if_neg (by decide), h20, nnn, h20, n_cl (show i < 2147483648 by omega), if_pos c.1, h20, vln, h20, vln, if_pos c.2, s2]) (fun i hi c => by
        have h20 : ∀ {α : Type} (z : Option α), ix (nI i) 200 z = z := fun z => n_ix (by omega) (by omega)
        show lc_X6_isLike_81 a (some a2) (1:Int32) (nI i) σ = _
        unfold lc_X6_isLike_81
        rw [cnt, if_neg (ltn i hi), if_neg (by decide), h20, nnn, h20, n_cl (show i < 2147483648 by omega)]
        by_cases c1 : σ.1 (a + 4) i = σ.1 (a2 + 4) i
        · rw [if_pos c1, h20, vln, h20, vln, if_neg (fun w => c ⟨c1, w⟩)]
          unfold bc_X6_isLike_127i81
          rw [s2]
        · rw [if_neg c1]
          unfold bc_X6_isLike_127i81
          rw [s2]) (fun x => by
        show lc_X6_isLike_81 a (some a2) x (nI n1) σ = _
        unfold lc_X6_isLike_81
        rw [cnt, if_pos (Int32.le_refl _)])
    refine ⟨z, ?_, l3⟩
    unfold bc_X6_isLike_36
    rw [show lp (fun z : (Int32 × Int32 × cl_S) => lc_X6_isLike_36 a (some a2) z.1 z.2.1 z.2.2) (x, (0:Int32), σ) = _ from l1, Option.bind_some]
    show bc_X6_isLike_81 a (some a2) y (0:Int32) σ = _
    unfold bc_X6_isLike_81
    rw [show lp (fun z : (Int32 × Int32 × cl_S) => lc_X6_isLike_81 a (some a2) z.1 z.2.1 z.2.2) (y, (0:Int32), σ) = _ from l2, Option.bind_some]
    show nb z (some (z, σ)) = _
    rcases l3 with ⟨rfl, -⟩ | ⟨rfl, -⟩
    · exact nb_1 _
    · exact nb_0 _
  unfold fc_X6_isLike bc_X6_isLike_0
  rw [nnn]
  by_cases c1 : σ.1 (a + 1) 3 = σ.1 (a2 + 1) 3
  · rw [if_pos c1]
    by_cases c2 : σ.1 a 6 = σ.1 a2 6
    · rw [if_pos c2]
      exact go 1 (Or.inl ⟨rfl, c1, c2⟩)
    · rw [if_neg c2]
      exact go 0 (Or.inr ⟨rfl, fun w => c2 w.2⟩)
  · rw [if_neg c1]
    exact go 0 (Or.inr ⟨rfl, fun w => c1 w.1⟩)
theorem like_q {n0 : Nat} (hp : p < 8) (cnt : ρ.1 64 p = nI n0) (h2 : n0 ≤ 200) : ∃ r, fq_isAlike (nI p) ρ = some (r, ρ) ∧ ((r = 1 ∧ (ρ.1 64 p = ρ.1 64 (8 + p) ∧ ρ.1 54 p = ρ.1 54 (8 + p)) ∧ (∀ j, j < n0 → ρ.1 62 (200 * p + j) = ρ.1 62 (200 * (8 + p) + j) ∧ ρ.1 63 (200 * p + j) = ρ.1 63 (200 * (8 + p) + j)) ∧ (∀ j, j < 16 → ρ.1 53 (16 * p + j) = ρ.1 53 (16 * (8 + p) + j))) ∨ (r = 0 ∧ ¬ ((ρ.1 64 p = ρ.1 64 (8 + p) ∧ ρ.1 54 p = ρ.1 54 (8 + p)) ∧ (∀ j, j < n0 → ρ.1 62 (200 * p + j) = ρ.1 62 (200 * (8 + p) + j) ∧ ρ.1 63 (200 * p + j) = ρ.1 63 (200 * (8 + p) + j)) ∧ (∀ j, j < 16 → ρ.1 53 (16 * p + j) = ρ.1 53 (16 * (8 + p) + j))))) := by
  have ip : ∀ {α : Type} (z : Option α), ix (nI p) 16 z = z := fun z => n_ix (by omega) (by omega)
  have i8 : ∀ {α : Type} (z : Option α), ix (nI (8 + p)) 16 z = z := fun z => n_ix (by omega) (by omega)
  have cp : (nI p).toNatClampNeg = p := n_cl (by omega)
  have c8 : (nI (8 + p)).toNatClampNeg = 8 + p := n_cl (by omega)
  have m2 : ∀ x j, (200:Int32) * nI x + nI j = nI (200 * x + j) := fun x j => by rw [show (200:Int32) = nI 200 from rfl, n_mul, n_add]
  have m16 : ∀ x j, (16:Int32) * nI x + nI j = nI (16 * x + j) := fun x j => by rw [show (16:Int32) = nI 16 from rfl, n_mul, n_add]
  have go : ∀ x : Int32, ((x = 1 ∧ (ρ.1 64 p = ρ.1 64 (8 + p) ∧ ρ.1 54 p = ρ.1 54 (8 + p))) ∨ (x = 0 ∧ ¬ (ρ.1 64 p = ρ.1 64 (8 + p) ∧ ρ.1 54 p = ρ.1 54 (8 + p)))) → ∃ r, bq_isAlike_44 (nI p) (nI (8 + p)) x (0:Int32) ρ = some (r, ρ) ∧ ((r = 1 ∧ (ρ.1 64 p = ρ.1 64 (8 + p) ∧ ρ.1 54 p = ρ.1 54 (8 + p)) ∧ (∀ j, j < n0 → ρ.1 62 (200 * p + j) = ρ.1 62 (200 * (8 + p) + j) ∧ ρ.1 63 (200 * p + j) = ρ.1 63 (200 * (8 + p) + j)) ∧ (∀ j, j < 16 → ρ.1 53 (16 * p + j) = ρ.1 53 (16 * (8 + p) + j))) ∨ (r = 0 ∧ ¬ ((ρ.1 64 p = ρ.1 64 (8 + p) ∧ ρ.1 54 p = ρ.1 54 (8 + p)) ∧ (∀ j, j < n0 → ρ.1 62 (200 * p + j) = ρ.1 62 (200 * (8 + p) + j) ∧ ρ.1 63 (200 * p + j) = ρ.1 63 (200 * (8 + p) + j)) ∧ (∀ j, j < 16 → ρ.1 53 (16 * p + j) = ρ.1 53 (16 * (8 + p) + j))))) := by
    intro x hx
    have lt16 : ∀ i, i < 16 → ¬ (16:Int32) ≤ nI i := fun i hi w => by have := (n_le (a := 16) (b := i) (by omega) (by omega)).mp w; omega
    have ltn : ∀ i, i < n0 → ¬ nI n0 ≤ nI i := fun i hi w => by have := (n_le (by omega) (by omega)).mp w; omega
    have s1 : ∀ (v0 : Int32) i, bq_isAlike_122i44 (nI p) (nI (8 + p)) (nI i) v0 ρ = some (.inl (v0, nI (i + 1), ρ)) := fun v0 i => by
      unfold bq_isAlike_122i44
      rw [vln, show nI i + (1:Int32) = nI (i + 1) from n_add i 1]
    have s2 : ∀ (v0 : Int32) i, bq_isAlike_175i132 (nI p) (nI (8 + p)) (nI i) v0 ρ = some (.inl (v0, nI (i + 1), ρ)) := fun v0 i => by
      unfold bq_isAlike_175i132
      rw [vln, show nI i + (1:Int32) = nI (i + 1) from n_add i 1]
    obtain ⟨y, i1, z, i2, l1, l2, l3⟩ := lp_two (f := fun x i ρ => lq_isAlike_44 (nI p) (nI (8 + p)) x i ρ) (g := fun x i ρ => lq_isAlike_132 (nI p) (nI (8 + p)) x i ρ) (n := n0) (m := 16) (E := fun j => ρ.1 62 (200 * p + j) = ρ.1 62 (200 * (8 + p) + j) ∧ ρ.1 63 (200 * p + j) = ρ.1 63 (200 * (8 + p) + j)) (F := fun j => ρ.1 53 (16 * p + j) = ρ.1 53 (16 * (8 + p) + j)) (A := (ρ.1 64 p = ρ.1 64 (8 + p) ∧ ρ.1 54 p = ρ.1 54 (8 + p))) ρ x hx (fun i hi => by
        show lq_isAlike_44 (nI p) (nI (8 + p)) (0:Int32) (nI i) ρ = _
        unfold lq_isAlike_44
        rw [ip, cp, cnt, if_neg (ltn i hi), if_pos rfl]) (fun i hi c => by
        have h20 : ∀ {α : Type} (z : Option α), ix (nI (200 * p + i)) 3200 z = z := fun z => n_ix (by omega) (by omega)
        have h28 : ∀ {α : Type} (z : Option α), ix (nI (200 * (8 + p) + i)) 3200 z = z := fun z => n_ix (by omega) (by omega)
        show lq_isAlike_44 (nI p) (nI (8 + p)) (1:Int32) (nI i) ρ = _
        unfold lq_isAlike_44
        rw [ip, cp, cnt, if_neg (ltn i hi), if_neg (by decide), m2, m2, h20, h28, n_cl (show 200 * p + i < 2147483648 by omega), n_cl (show 200 * (8 + p) + i < 2147483648 by omega), if_pos c.1, h20, h28, if_pos c.2, s1]) (fun i hi c => by
        have h20 : ∀ {α : Type} (z : Option α), ix (nI (200 * p + i)) 3200 z = z := fun z => n_ix (by omega) (by omega)
        have h28 : ∀ {α : Type} (z : Option α), ix (nI (200 * (8 + p) + i)) 3200 z = z := fun z => n_ix (by omega) (by omega)
        show lq_isAlike_44 (nI p) (nI (8 + p)) (1:Int32) (nI i) ρ = _
        unfold lq_isAlike_44
        rw [ip, cp, cnt, if_neg (ltn i hi), if_neg (by decide), m2, m2, h20, h28, n_cl (show 200 * p + i < 2147483648 by omega), n_cl (show 200 * (8 + p) + i < 2147483648 by omega)]
        by_cases c1 : ρ.1 62 (200 * p + i) = ρ.1 62 (200 * (8 + p) + i)
        · rw [if_pos c1, h20, h28, if_neg (fun w => c ⟨c1, w⟩)]
          unfold bq_isAlike_121i44
          rw [s1]
        · rw [if_neg c1]
          unfold bq_isAlike_121i44
          rw [s1]) (fun x => by
        show lq_isAlike_44 (nI p) (nI (8 + p)) x (nI n0) ρ = _
        unfold lq_isAlike_44
        rw [ip, cp, cnt, if_pos (Int32.le_refl _)]) (fun i hi => by
        show lq_isAlike_132 (nI p) (nI (8 + p)) (0:Int32) (nI i) ρ = _
        unfold lq_isAlike_132
        rw [if_neg (lt16 i hi), if_pos rfl]) (fun i hi c => by
        have h20 : ∀ {α : Type} (z : Option α), ix (nI (16 * p + i)) 256 z = z := fun z => n_ix (by omega) (by omega)
        have h28 : ∀ {α : Type} (z : Option α), ix (nI (16 * (8 + p) + i)) 256 z = z := fun z => n_ix (by omega) (by omega)
        show lq_isAlike_132 (nI p) (nI (8 + p)) (1:Int32) (nI i) ρ = _
        unfold lq_isAlike_132
        rw [if_neg (lt16 i hi), if_neg (by decide), m16, m16, h20, h28, n_cl (show 16 * p + i < 2147483648 by omega), n_cl (show 16 * (8 + p) + i < 2147483648 by omega), if_pos c, s2]) (fun i hi c => by
        have h20 : ∀ {α : Type} (z : Option α), ix (nI (16 * p + i)) 256 z = z := fun z => n_ix (by omega) (by omega)
        have h28 : ∀ {α : Type} (z : Option α), ix (nI (16 * (8 + p) + i)) 256 z = z := fun z => n_ix (by omega) (by omega)
        show lq_isAlike_132 (nI p) (nI (8 + p)) (1:Int32) (nI i) ρ = _
        unfold lq_isAlike_132
        rw [if_neg (lt16 i hi), if_neg (by decide), m16, m16, h20, h28, n_cl (show 16 * p + i < 2147483648 by omega), n_cl (show 16 * (8 + p) + i < 2147483648 by omega), if_neg c, s2]) (fun x => by
        show lq_isAlike_132 (nI p) (nI (8 + p)) x (nI 16) ρ = _
        unfold lq_isAlike_132
        rw [if_pos (show (16:Int32) ≤ nI 16 from Int32.le_refl _)])
    refine ⟨z, ?_, l3⟩
    unfold bq_isAlike_44
    rw [show lp (fun z : (Int32 × Int32 × rf_S) => lq_isAlike_44 (nI p) (nI (8 + p)) z.1 z.2.1 z.2.2) (x, (0:Int32), ρ) = _ from l1, Option.bind_some]
    show bq_isAlike_132 (nI p) (nI (8 + p)) y (0:Int32) ρ = _
    unfold bq_isAlike_132
    rw [show lp (fun z : (Int32 × Int32 × rf_S) => lq_isAlike_132 (nI p) (nI (8 + p)) z.1 z.2.1 z.2.2) (y, (0:Int32), ρ) = _ from l2, Option.bind_some]
    show nb z (some (z, ρ)) = _
    rcases l3 with ⟨rfl, -⟩ | ⟨rfl, -⟩
    · exact nb_1 _
    · exact nb_0 _
  unfold fq_isAlike bq_isAlike_0
  rw [show (8:Int32) + nI p = nI (8 + p) from n_add 8 p, vln, ip, i8, cp, c8]
  by_cases c1 : ρ.1 64 p = ρ.1 64 (8 + p)
  · rw [if_pos c1, ip, i8]
    by_cases c2 : ρ.1 54 p = ρ.1 54 (8 + p)
    · rw [if_pos c2]
      exact go 1 (Or.inl ⟨rfl, c1, c2⟩)
    · rw [if_neg c2]
      exact go 0 (Or.inr ⟨rfl, fun w => c2 w.2⟩)
  · rw [if_neg c1]
    exact go 0 (Or.inr ⟨rfl, fun w => c1 w.1⟩)
/-- both sides compare -/
theorem like_cq (h : Tk K W true k 1 σ ρ) (hp : p < W.np) (cI : ∀ d, 83 ≤ d → d ≠ 179 → σ'.1 d = σ.1 d) (cR : σ'.2 = σ.2) (cq : ∀ c j, c = 53 ∨ c = 54 ∨ c = 62 ∨ c = 63 ∨ c = 64 → ρ'.1 c j = ρ.1 c j) : ∃ r, (r = 1 ∨ r = 0) ∧ fc_X6_isLike (83 + 135 * 1 + 12 * p) (some (83 + 135 * 0 + 12 * p)) σ' = some (r, σ') ∧ fq_isAlike (nI p) ρ' = some (r, ρ') := by
  have np8 := h.R.cf.np.1
  have P0 := h.R.m0.pr p hp
  have P1 := (h.R.m1 rfl).pr p hp
  obtain ⟨n0, ⟨l0, a0, b0⟩, o0⟩ := P0.ou
  obtain ⟨n1, ⟨l1, a1, b1⟩, o1⟩ := P1.ou
  have rg0 := P0.co.rg
  have rg1 := P1.co.rg
  have pc0 := P0.co.pc
  have pc1 := P1.co.pc
  rw [show 8 * 0 + p = p by omega] at b0 rg0 pc0
  rw [show 8 * 1 + p = 8 + p by omega] at b1 rg1 pc1
  simp only [show 8 * 0 + p = p by omega] at o0
  simp only [show 8 * 1 + p = 8 + p by omega] at o1
  obtain ⟨r, e1, f1⟩ := like_c (σ := σ') (a := 83 + 135 * 1 + 12 * p) (a2 := 83 + 135 * 0 + 12 * p) (n1 := n1) (by rw [cI _ (by omega) (by omega)]; exact a1) l1
  obtain ⟨r', e2, f2⟩ := like_q (ρ := ρ') (p := p) (n0 := n0) (by omega) (by rw [cq _ _ (by omega)]; exact b0) l0
  have iff : ((σ'.1 (83 + 135 * 1 + 12 * p + 1) 3 = σ'.1 (83 + 135 * 0 + 12 * p + 1) 3 ∧ σ'.1 (83 + 135 * 1 + 12 * p) 6 = σ'.1 (83 + 135 * 0 + 12 * p) 6) ∧ (∀ j, j < 16 → σ'.1 ((83 + 135 * 1 + 12 * p + 1) + 2) j = σ'.1 ((83 + 135 * 0 + 12 * p + 1) + 2) j) ∧ (∀ j, j < n1 → σ'.1 (83 + 135 * 1 + 12 * p + 4) j = σ'.1 (83 + 135 * 0 + 12 * p + 4) j ∧ σ'.2.2.1 (83 + 135 * 1 + 12 * p + 5) j = σ'.2.2.1 (83 + 135 * 0 + 12 * p + 5) j)) ↔ ((ρ'.1 64 p = ρ'.1 64 (8 + p) ∧ ρ'.1 54 p = ρ'.1 54 (8 + p)) ∧ (∀ j, j < n0 → ρ'.1 62 (200 * p + j) = ρ'.1 62 (200 * (8 + p) + j) ∧ ρ'.1 63 (200 * p + j) = ρ'.1 63 (200 * (8 + p) + j)) ∧ (∀ j, j < 16 → ρ'.1 53 (16 * p + j) = ρ'.1 53 (16 * (8 + p) + j))) := by
    rw [cI _ (by omega) (by omega), cI _ (by omega) (by omega), cI _ (by omega) (by omega), cI _ (by omega) (by omega), cI _ (by omega) (by omega), cI _ (by omega) (by omega), cI _ (by omega) (by omega), cI _ (by omega) (by omega), cR]
    simp only [cq 64 _ (by omega), cq 54 _ (by omega), cq 62 _ (by omega), cq 63 _ (by omega), cq 53 _ (by omega)]
    rw [show 83 + 135 * 1 + 12 * p + 1 = 84 + 135 * 1 + 12 * p by omega, show 83 + 135 * 0 + 12 * p + 1 = 84 + 135 * 0 + 12 * p by omega, show 84 + 135 * 1 + 12 * p + 2 = 86 + 135 * 1 + 12 * p by omega, show 84 + 135 * 0 + 12 * p + 2 = 86 + 135 * 0 + 12 * p by omega, show 83 + 135 * 1 + 12 * p + 4 = 87 + 135 * 1 + 12 * p by omega, show 83 + 135 * 0 + 12 * p + 4 = 87 + 135 * 0 + 12 * p by omega, show 83 + 135 * 1 + 12 * p + 5 = 88 + 135 * 1 + 12 * p by omega, show 83 + 135 * 0 + 12 * p + 5 = 88 + 135 * 0 + 12 * p by omega]
    rw [pc0, pc1, a0, a1, b0, b1]
    refine ⟨?_, ?_⟩
    · rintro ⟨⟨w1, w2⟩, w3, w4⟩
      have en : n1 = n0 := (n_eq (by omega) (by omega)).mp w2
      subst en
      refine ⟨⟨rfl, w1.symm⟩, fun j hj => ?_, fun j hj => ?_⟩
      · exact (ov_eq h.R.T (o0 j hj) (o1 j hj)).mp ⟨(w4 j hj).1.symm, (w4 j hj).2.symm⟩
      · rw [← rg0 j hj, ← rg1 j hj]; exact (w3 j hj).symm
    · rintro ⟨⟨w1, w2⟩, w3, w4⟩
      have en : n0 = n1 := (n_eq (by omega) (by omega)).mp w1
      subst en
      refine ⟨⟨w2.symm, rfl⟩, fun j hj => ?_, fun j hj => ?_⟩
      · rw [rg0 j hj, rg1 j hj]; exact (w4 j hj).symm
      · have := (ov_eq h.R.T (o0 j hj) (o1 j hj)).mpr (w3 j hj)
        exact ⟨this.1.symm, this.2.symm⟩
  refine ⟨r, f1.imp And.left And.left, e1, ?_⟩
  rcases f1 with ⟨rfl, g1⟩ | ⟨rfl, g1⟩ <;> rcases f2 with ⟨rfl, g2⟩ | ⟨rfl, g2⟩
  · exact e2
  · exact absurd (iff.mp g1) g2
  · exact absurd (iff.mpr g2) g1
  · exact e2
end Z2_DF
