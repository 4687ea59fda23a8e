section Z2_GG
variable {K : Bd} {W W' : Wd} {b : Bool} {k s p : Nat} {σ σ' : cl_S} {ρ ρ' : rf_S}
/-- the class's machine at its beginning -/
def Bgn (s cf np : Nat) (sz : Nat → Nat) (σ σ' : cl_S) : Prop := (∀ d, d ≠ 47 + 132 * s → (d < 61 + 135 * s ∨ 77 + 135 * s < d) → (d < 83 + 135 * s ∨ 179 + 135 * s ≤ d) → σ'.1 d = σ.1 d) ∧ (∀ p, p < np → Prs s p (nI (sz p)) σ σ') ∧ (∀ p i, p < 8 → (np ≤ p ∨ (3 < i ∧ i < 9) ∨ i = 10) → i < 12 → σ'.1 (83 + 135 * s + 12 * p + i) = σ.1 (83 + 135 * s + 12 * p + i)) ∧ (∀ j, σ'.1 (47 + 132 * s) j = if (8 < j ∧ j < 14) ∨ j = 15 then 0 else σ.1 (47 + 132 * s) j) ∧ (∀ c j, c < 16 → j < 16 → σ'.1 (61 + 135 * s + c) j = 0) ∧ (∀ c, c < 16 → σ'.1 (77 + 135 * s) c = 0) ∧ (σ'.2.1 = σ.2.1) ∧ (σ'.2.2.2 = σ.2.2.2) ∧ (∀ d, d ≠ 47 + 132 * s → d ≠ 78 + 135 * s → σ'.2.2.1 d = σ.2.2.1 d) ∧ (∀ j, σ'.2.2.1 (47 + 132 * s) j = if j = 3 then some cf else σ.2.2.1 (47 + 132 * s) j) ∧ (∀ c, c < 16 → σ'.2.2.1 (78 + 135 * s) c = σ.2.2.1 31 4)
theorem Bgn.o {s cf np : Nat} {sz : Nat → Nat} {σ σ' : cl_S} (hS : Bgn s cf np sz σ σ') : ∀ d, d ≠ 47 + 132 * s → (d < 61 + 135 * s ∨ 77 + 135 * s < d) → (d < 83 + 135 * s ∨ 179 + 135 * s ≤ d) → σ'.1 d = σ.1 d := hS.1
theorem Bgn.pa {s cf np : Nat} {sz : Nat → Nat} {σ σ' : cl_S} (hS : Bgn s cf np sz σ σ') : ∀ p, p < np → Prs s p (nI (sz p)) σ σ' := hS.2.1
theorem Bgn.po {s cf np : Nat} {sz : Nat → Nat} {σ σ' : cl_S} (hS : Bgn s cf np sz σ σ') : ∀ p i, p < 8 → (np ≤ p ∨ (3 < i ∧ i < 9) ∨ i = 10) → i < 12 → σ'.1 (83 + 135 * s + 12 * p + i) = σ.1 (83 + 135 * s + 12 * p + i) := hS.2.2.1
theorem Bgn.m {s cf np : Nat} {sz : Nat → Nat} {σ σ' : cl_S} (hS : Bgn s cf np sz σ σ') : ∀ j, σ'.1 (47 + 132 * s) j = if (8 < j ∧ j < 14) ∨ j = 15 then 0 else σ.1 (47 + 132 * s) j := hS.2.2.2.1
theorem Bgn.sn {s cf np : Nat} {sz : Nat → Nat} {σ σ' : cl_S} (hS : Bgn s cf np sz σ σ') : ∀ c j, c < 16 → j < 16 → σ'.1 (61 + 135 * s + c) j = 0 := hS.2.2.2.2.1
theorem Bgn.ur {s cf np : Nat} {sz : Nat → Nat} {σ σ' : cl_S} (hS : Bgn s cf np sz σ σ') : ∀ c, c < 16 → σ'.1 (77 + 135 * s) c = 0 := hS.2.2.2.2.2.1
theorem Bgn.L {s cf np : Nat} {sz : Nat → Nat} {σ σ' : cl_S} (hS : Bgn s cf np sz σ σ') : σ'.2.1 = σ.2.1 := hS.2.2.2.2.2.2.1
theorem Bgn.T {s cf np : Nat} {sz : Nat → Nat} {σ σ' : cl_S} (hS : Bgn s cf np sz σ σ') : σ'.2.2.2 = σ.2.2.2 := hS.2.2.2.2.2.2.2.1
theorem Bgn.r {s cf np : Nat} {sz : Nat → Nat} {σ σ' : cl_S} (hS : Bgn s cf np sz σ σ') : ∀ d, d ≠ 47 + 132 * s → d ≠ 78 + 135 * s → σ'.2.2.1 d = σ.2.2.1 d := hS.2.2.2.2.2.2.2.2.1
theorem Bgn.rm {s cf np : Nat} {sz : Nat → Nat} {σ σ' : cl_S} (hS : Bgn s cf np sz σ σ') : ∀ j, σ'.2.2.1 (47 + 132 * s) j = if j = 3 then some cf else σ.2.2.1 (47 + 132 * s) j := hS.2.2.2.2.2.2.2.2.2.1
theorem Bgn.rt {s cf np : Nat} {sz : Nat → Nat} {σ σ' : cl_S} (hS : Bgn s cf np sz σ σ') : ∀ c, c < 16 → σ'.2.2.1 (78 + 135 * s) c = σ.2.2.1 31 4 := hS.2.2.2.2.2.2.2.2.2.2
theorem c_begin {cf np : Nat} {sz : Nat → Nat} (S : Stc σ) (hs : s < 2) (hcf : cf = 48 ∨ cf = 314) (hnp : np ≤ 8) (c0 : σ.1 cf 0 = nI np) (c2 : ∀ p, p < np → σ.1 (cf + 2) p = nI (sz p)) : ∃ σ', fc_X5_begin (47 + 132 * s) (some cf) σ = some σ' ∧ Bgn s cf np sz σ σ' := by
  have s01 : s = 0 ∨ s = 1 := by omega
  have md12 : 47 + 132 * s + 12 + cl_md (47 + 132 * s) = 59 + 135 * s := by rw [md_eq hs]; omega
  have md13 : 47 + 132 * s + 13 + cl_md (47 + 132 * s) = 60 + 135 * s := by rw [md_eq hs]; omega
  have md30 : 47 + 132 * s + 30 + cl_md (47 + 132 * s) = 77 + 135 * s := by rw [md_eq hs]; omega
  have md31 : 47 + 132 * s + 31 + cl_md (47 + 132 * s) = 78 + 135 * s := by rw [md_eq hs]; omega
  -- the partitions
  obtain ⟨σ1, e1, o1, p1, po1, t1⟩ := lp_cnt (f := lc_X5_begin_7 (47 + 132 * s)) (n := np) (fun i σ' => (∀ d, (d < 83 + 135 * s ∨ 83 + 135 * s + 12 * i ≤ d) → σ'.1 d = σ.1 d) ∧ (∀ p, p < i → Prs s p (nI (sz p)) σ σ') ∧ (∀ p m, p < i → ((3 < m ∧ m < 9) ∨ m = 10) → σ'.1 (83 + 135 * s + 12 * p + m) = σ.1 (83 + 135 * s + 12 * p + m)) ∧ σ'.2 = (cl_wr σ (47 + 132 * s) 3 (some cf)).2) (by
    rintro i τ hi ⟨k1, k2, k3, k4⟩
    have i8 : ∀ {α : Type} (z : Option α), ix (nI i) 8 z = z := fun z => n_ix (by omega) (by omega)
    have ci : (nI i).toNatClampNeg = i := n_cl (by omega)
    have rT : τ.2.2.2 = σ.2.2.2 := by rw [k4]; rfl
    have r3 : τ.2.2.1 (47 + 132 * s) 3 = some cf := by rw [k4]; exact r_rs
    have r59 : τ.2.2.1 (59 + 135 * s) i = some (83 + 135 * s + 12 * i) := by
      rw [k4, r_r (show 59 + 135 * s ≠ 47 + 132 * s by omega)]; exact S.pp s i hs (by omega)
    obtain ⟨τ', e, g1, g2, g3⟩ := c_preset (σ := τ) (s := s) (p := i) (by rw [rT]; exact S.tl s i hs (by omega)) (nI (sz i))
    refine ⟨τ', ?_, fun d hd => by rw [g1 d (by omega)]; exact k1 d (by omega), fun p hp => ?_, fun p m hp hm => ?_, by rw [g2]; exact k4⟩
    · unfold lc_X5_begin_7
      rw [vln, r3, nnn, k1 cf (by omega), c0, if_neg (fun w => by have := (n_le (by omega) (by omega)).mp w; omega), i8, vln, vln, nnn, i8, md12, ci, r59, nnn, k1 (cf + 2) (by omega), c2 i hi, e, bd1n, vln, show nI i + (1:Int32) = nI (i + 1) from n_add i 1]
    · by_cases c : p = i
      · subst c
        exact g3.cg (fun d h1 h2 => k1 d (by omega)) (fun d _ _ => rfl)
      · exact (k2 p (by omega)).cg (fun d _ _ => rfl) (fun d h1 h2 => g1 d (by omega))
    · rw [g1 _ (by omega)]
      by_cases c : p = i
      · subst c; exact k1 _ (by omega)
      · exact k3 p m (by omega) hm) (by
    rintro τ ⟨k1, k2, k3, k4⟩
    have r3 : τ.2.2.1 (47 + 132 * s) 3 = some cf := by rw [k4]; exact r_rs
    unfold lc_X5_begin_7
    rw [vln, r3, nnn, k1 cf (by omega), c0, if_pos ((n_le (by omega) (by omega)).mpr (Nat.le_refl _))]) np 0 (cl_wr σ (47 + 132 * s) 3 (some cf)) (by omega) (by omega) ⟨fun _ _ => rfl, fun p hp => absurd hp (by omega), fun p m hp => absurd hp (by omega), rfl⟩
  have r1 : ∀ d, d ≠ 47 + 132 * s → σ1.2.2.1 d = σ.2.2.1 d := fun d hd => by rw [t1]; exact r_r hd
  have T1 : σ1.2.2.2 = σ.2.2.2 := by rw [t1]; rfl
  -- the channels
  obtain ⟨σ2, e2, o2, sn2, ur2, L2, T2, r2, rt2⟩ := lp_cnt (f := lc_X5_begin_44 (47 + 132 * s)) (n := 16) (fun i σ' => (∀ d, (d < 61 + 135 * s ∨ 77 + 135 * s < d) → σ'.1 d = σ1.1 d) ∧ (∀ c j, c < i → j < 16 → σ'.1 (61 + 135 * s + c) j = 0) ∧ (∀ c, c < i → σ'.1 (77 + 135 * s) c = 0) ∧ σ'.2.1 = σ1.2.1 ∧ σ'.2.2.2 = σ1.2.2.2 ∧ (∀ d, d ≠ 78 + 135 * s → σ'.2.2.1 d = σ1.2.2.1 d) ∧ (∀ c, c < i → σ'.2.2.1 (78 + 135 * s) c = σ.2.2.1 31 4)) (by
    rintro i τ hi ⟨k1, k2, k3, k4, k5, k6, k7⟩
    have i16 : ∀ {α : Type} (z : Option α), ix (nI i) 16 z = z := fun z => n_ix (by omega) (by omega)
    have ci : (nI i).toNatClampNeg = i := n_cl (by omega)
    obtain ⟨z1, z2⟩ := S.sp s i hs hi
    have r60 : τ.2.2.1 (60 + 135 * s) i = some (61 + 135 * s + i) := by rw [k6 _ (by omega), r1 _ (by omega)]; exact z1
    obtain ⟨τ', e, g1, g2, g3⟩ := c_fill (σ := τ) (a := 61 + 135 * s + i) (n := 16) (v := 0) (by rw [k5, T1, z2]) (by omega)
    have r31 : (cl_w τ' (77 + 135 * s) i 0).2.2.1 31 4 = σ.2.2.1 31 4 := by
      show τ'.2.2.1 31 4 = _
      rw [g3, k6 31 (by omega), r1 31 (by omega)]
    refine ⟨cl_wr (cl_w τ' (77 + 135 * s) i 0) (78 + 135 * s) i (σ.2.2.1 31 4), ?_, fun d hd => ?_, fun c j hc hj => ?_, fun c hc => ?_, by show τ'.2.1 = _; rw [g3]; exact k4, by show τ'.2.2.2 = _; rw [g3]; exact k5, fun d hd => ?_, fun c hc => ?_⟩
    · unfold lc_X5_begin_44
      rw [if_neg (show ¬ (16:Int32) ≤ nI i from fun w => by have := (n_le (a := 16) (b := i) (by omega) (by omega)).mp w; omega), i16, vln, md13, ci, r60, e, bd1n, i16, md30, vln, vln, i16, md31, r31, vln, vln, show nI i + (1:Int32) = nI (i + 1) from n_add i 1]
    · rw [r_rI, r_w (by omega), g1 d (by omega)]; exact k1 d hd
    · rw [r_rI, r_w (by omega)]
      by_cases w : c = i
      · subst w; rw [g2, if_pos hj]
      · rw [g1 _ (by omega)]; exact k2 c j (by omega) hj
    · rw [r_rI, g_w]
      by_cases w : c = i
      · rw [if_pos ⟨rfl, w⟩]
      · rw [if_neg (fun q => w q.2), g1 _ (by omega)]; exact k3 c (by omega)
    · rw [r_r hd]
      show τ'.2.2.1 d = _
      rw [g3]; exact k6 d hd
    · rw [g_r]
      by_cases w : c = i
      · rw [if_pos ⟨rfl, w⟩]
      · rw [if_neg (fun q => w q.2)]
        show τ'.2.2.1 (78 + 135 * s) c = _
        rw [g3]; exact k7 c (by omega)) (by
    rintro τ -
    unfold lc_X5_begin_44
    rw [if_pos (show (16:Int32) ≤ nI 16 from (n_le (a := 16) (b := 16) (by omega) (by omega)).mpr (by omega))]) 16 0 σ1 (by omega) (by omega) ⟨fun _ _ => rfl, fun c _ hc => absurd hc (by omega), fun c hc => absurd hc (by omega), rfl, rfl, fun _ _ => rfl, fun c hc => absurd hc (by omega)⟩
  have m2 : ∀ j, σ2.1 (47 + 132 * s) j = σ.1 (47 + 132 * s) j := fun j => by rw [o2 _ (by omega), o1 _ (by omega)]
  have oo : ∀ d, d ≠ 47 + 132 * s → (cl_w (cl_w (cl_w (cl_w (cl_w (cl_w σ2 (47 + 132 * s) 9 0) (47 + 132 * s) 10 0) (47 + 132 * s) 11 0) (47 + 132 * s) 12 0) (47 + 132 * s) 13 0) (47 + 132 * s) 15 0).1 d = σ2.1 d := fun d hd => by rw [r_w hd, r_w hd, r_w hd, r_w hd, r_w hd, r_w hd]
  have or : ∀ d, (cl_w (cl_w (cl_w (cl_w (cl_w (cl_w σ2 (47 + 132 * s) 9 0) (47 + 132 * s) 10 0) (47 + 132 * s) 11 0) (47 + 132 * s) 12 0) (47 + 132 * s) 13 0) (47 + 132 * s) 15 0).2.2.1 d = σ2.2.2.1 d := fun d => rfl
  refine ⟨cl_w (cl_w (cl_w (cl_w (cl_w (cl_w σ2 (47 + 132 * s) 9 0) (47 + 132 * s) 10 0) (47 + 132 * s) 11 0) (47 + 132 * s) 12 0) (47 + 132 * s) 13 0) (47 + 132 * s) 15 0, ?_, ⟨fun d h1 h2 h3 => ?_, fun p hp => ?_, fun p i hp hi h12 => ?_, fun j => ?_, fun c j hc hj => ?_, fun c hc => ?_, ?_, ?_, fun d h1 h2 => ?_, fun j => ?_, fun c hc => ?_⟩⟩
  · unfold fc_X5_begin bc_X5_begin_0
    rw [vln]
    unfold bc_X5_begin_7
    rw [show (0:Int32) = nI 0 from rfl, e1, Option.bind_some]
    unfold ec_X5_begin_7 bc_X5_begin_44
    rw [show (0:Int32) = nI 0 from rfl, e2, Option.bind_some]
    unfold ec_X5_begin_44
    simp only [vln]
    rfl
  · rw [oo d h1, o2 d h2, o1 d (by omega)]
  · exact (p1 p hp).cg (fun d _ _ => rfl) (fun d w1 w2 => by rw [oo d (by omega), o2 d (by omega)])
  · rw [oo _ (by omega), o2 _ (by omega)]
    by_cases c : p < np
    · exact po1 p i c (by omega)
    · exact o1 _ (by omega)
  · by_cases c : (8 < j ∧ j < 14) ∨ j = 15
    · rw [if_pos c]
      have : j = 9 ∨ j = 10 ∨ j = 11 ∨ j = 12 ∨ j = 13 ∨ j = 15 := by omega
      rcases this with rfl | rfl | rfl | rfl | rfl | rfl <;> simp only [g_w, Nat.reduceEqDiff, and_false, false_and, if_false, true_and, and_true, if_true, and_self]
    · rw [if_neg c, r_wk (by omega), r_wk (by omega), r_wk (by omega), r_wk (by omega), r_wk (by omega), r_wk (by omega), m2]
  · rw [oo _ (by omega)]; exact sn2 c j hc hj
  · rw [oo _ (by omega)]; exact ur2 c hc
  · show σ2.2.1 = _
    rw [L2, t1]; rfl
  · show σ2.2.2.2 = _
    rw [T2, T1]
  · rw [or, r2 d h2, r1 d h1]
  · rw [or, r2 _ (by omega), t1, g_r]
    simp only [true_and]
  · rw [or]; exact rt2 c hc
end Z2_GG
