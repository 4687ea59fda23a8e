section Z2_GF
variable {K : Bd} {W W' : Wd} {b : Bool} {k s p : Nat} {σ σ' : cl_S} {ρ ρ' : rf_S}
/-- the class fills an array -/
theorem c_fill {a n : Nat} {v : Int32} (hn : (σ.2.2.2.1 a).2 = n) (h31 : n < 2147483648) : ∃ σ', fc_J7_fill_53178 (some a) v σ = some σ' ∧ (∀ d, d ≠ a → σ'.1 d = σ.1 d) ∧ (∀ j, σ'.1 a j = if j < n then v else σ.1 a j) ∧ σ'.2 = σ.2 := by
  obtain ⟨σ', e, h1, h2, h3⟩ := lp_cnt (f := lc_J7_fill_53178_5 (some a) v (nI n)) (n := n) (fun i σ' => (∀ d, d ≠ a → σ'.1 d = σ.1 d) ∧ (∀ j, σ'.1 a j = if j < i then v else σ.1 a j) ∧ σ'.2 = σ.2) (by
    rintro i σ1 hi ⟨k1, k2, k3⟩
    refine ⟨cl_w σ1 a i v, ?_, fun d hd => by rw [r_w hd]; exact k1 d hd, fun j => ?_, k3⟩
    · unfold lc_J7_fill_53178_5
      rw [if_neg (fun w => by have := (n_le (by omega) (by omega)).mp w; omega), nnn, k3, hn, n_ix hi (by omega), n_cl (show i < 2147483648 by omega), vln, vln, show nI i + (1:Int32) = nI (i + 1) from n_add i 1]
    · rw [g_w]
      by_cases c : j = i
      · rw [if_pos ⟨rfl, c⟩, if_pos (by omega)]
      · rw [if_neg (fun w => c w.2), k2]
        by_cases w : j < i
        · rw [if_pos w, if_pos (by omega)]
        · rw [if_neg w, if_neg (by omega)]) (by
    rintro σ1 -
    unfold lc_J7_fill_53178_5
    rw [if_pos ((n_le (by omega) (by omega)).mpr (Nat.le_refl _))]) n 0 σ (by omega) (by omega) ⟨fun _ _ => rfl, fun j => by rw [if_neg (by omega)], rfl⟩
  refine ⟨σ', ?_, h1, h2, h3⟩
  unfold fc_J7_fill_53178 bc_J7_fill_53178_0
  rw [nnn, hn, vln]
  unfold bc_J7_fill_53178_5
  rw [show (0:Int32) = nI 0 from rfl, e, Option.bind_some]
  rfl
/-- a partition at its beginning -/
def Prs (s p : Nat) (x : Int32) (σ σ' : cl_S) : Prop := (∀ j, σ'.1 (83 + 135 * s + 12 * p) j = if j = 6 ∨ j = 8 ∨ j = 10 ∨ j = 12 ∨ j = 13 ∨ j = 14 then 0 else σ.1 (83 + 135 * s + 12 * p) j) ∧ (σ'.1 (84 + 135 * s + 12 * p) 2 = x ∧ ∀ j, 2 < j → j < 9 → σ'.1 (84 + 135 * s + 12 * p) j = 0) ∧ (∀ j, j < 2048 → σ'.1 (85 + 135 * s + 12 * p) j = 0) ∧ (∀ j, j < 16 → σ'.1 (86 + 135 * s + 12 * p) j = 0) ∧ (∀ j, σ'.1 (92 + 135 * s + 12 * p) j = if j = 5 then 0 else σ.1 (92 + 135 * s + 12 * p) j) ∧ (∀ j, j < 256 → σ'.1 (94 + 135 * s + 12 * p) j = 0)
theorem Prs.r83 {s p : Nat} {x : Int32} {σ σ' : cl_S} (hS : Prs s p x σ σ') : ∀ j, σ'.1 (83 + 135 * s + 12 * p) j = if j = 6 ∨ j = 8 ∨ j = 10 ∨ j = 12 ∨ j = 13 ∨ j = 14 then 0 else σ.1 (83 + 135 * s + 12 * p) j := hS.1
theorem Prs.r84 {s p : Nat} {x : Int32} {σ σ' : cl_S} (hS : Prs s p x σ σ') : σ'.1 (84 + 135 * s + 12 * p) 2 = x ∧ ∀ j, 2 < j → j < 9 → σ'.1 (84 + 135 * s + 12 * p) j = 0 := hS.2.1
theorem Prs.r85 {s p : Nat} {x : Int32} {σ σ' : cl_S} (hS : Prs s p x σ σ') : ∀ j, j < 2048 → σ'.1 (85 + 135 * s + 12 * p) j = 0 := hS.2.2.1
theorem Prs.r86 {s p : Nat} {x : Int32} {σ σ' : cl_S} (hS : Prs s p x σ σ') : ∀ j, j < 16 → σ'.1 (86 + 135 * s + 12 * p) j = 0 := hS.2.2.2.1
theorem Prs.r92 {s p : Nat} {x : Int32} {σ σ' : cl_S} (hS : Prs s p x σ σ') : ∀ j, σ'.1 (92 + 135 * s + 12 * p) j = if j = 5 then 0 else σ.1 (92 + 135 * s + 12 * p) j := hS.2.2.2.2.1
theorem Prs.r94 {s p : Nat} {x : Int32} {σ σ' : cl_S} (hS : Prs s p x σ σ') : ∀ j, j < 256 → σ'.1 (94 + 135 * s + 12 * p) j = 0 := hS.2.2.2.2.2
theorem Prs.cg {x : Int32} {σ1 σ2 : cl_S} (h : Prs s p x σ1 σ2) (h1 : ∀ d, 83 + 135 * s + 12 * p ≤ d → d < 95 + 135 * s + 12 * p → σ1.1 d = σ.1 d) (h2 : ∀ d, 83 + 135 * s + 12 * p ≤ d → d < 95 + 135 * s + 12 * p → σ'.1 d = σ2.1 d) : Prs s p x σ σ' := by
  refine ⟨fun j => ?_, ?_, ?_, ?_, fun j => ?_, ?_⟩
  · rw [h2 _ (by omega) (by omega), ← h1 _ (by omega) (by omega)]; exact h.r83 j
  · rw [h2 _ (by omega) (by omega)]; exact h.r84
  · rw [h2 _ (by omega) (by omega)]; exact h.r85
  · rw [h2 _ (by omega) (by omega)]; exact h.r86
  · rw [h2 _ (by omega) (by omega), ← h1 _ (by omega) (by omega)]; exact h.r92 j
  · rw [h2 _ (by omega) (by omega)]; exact h.r94
theorem c_preset (S : (σ.2.2.2.1 (85 + 135 * s + 12 * p)).2 = 2048 ∧ (σ.2.2.2.1 (86 + 135 * s + 12 * p)).2 = 16 ∧ (σ.2.2.2.1 (94 + 135 * s + 12 * p)).2 = 256) (x : Int32) : ∃ σ', fc_X6_reset (83 + 135 * s + 12 * p) x σ = some σ' ∧ (∀ d, ¬ (d = 83 + 135 * s + 12 * p ∨ d = 84 + 135 * s + 12 * p ∨ d = 85 + 135 * s + 12 * p ∨ d = 86 + 135 * s + 12 * p ∨ d = 92 + 135 * s + 12 * p ∨ d = 94 + 135 * s + 12 * p) → σ'.1 d = σ.1 d) ∧ σ'.2 = σ.2 ∧ Prs s p x σ σ' := by
  have a1 : 83 + 135 * s + 12 * p + 1 = 84 + 135 * s + 12 * p := by omega
  have a2 : 84 + 135 * s + 12 * p + 1 = 85 + 135 * s + 12 * p := by omega
  have a3 : 84 + 135 * s + 12 * p + 2 = 86 + 135 * s + 12 * p := by omega
  have a9 : 83 + 135 * s + 12 * p + 9 = 92 + 135 * s + 12 * p := by omega
  have a11 : 92 + 135 * s + 12 * p + 2 = 94 + 135 * s + 12 * p := by omega
  obtain ⟨σ1, e1, b1, c1, d1⟩ := c_fill (σ := cl_w σ (84 + 135 * s + 12 * p) 2 x) (a := 85 + 135 * s + 12 * p) (n := 2048) (v := 0) S.1 (by omega)
  obtain ⟨σ2, e2, b2, c2, d2⟩ := c_fill (σ := σ1) (a := 86 + 135 * s + 12 * p) (n := 16) (v := 0) (by rw [d1]; exact S.2.1) (by omega)
  obtain ⟨σ3, e3, b3, c3, d3⟩ := c_fill (σ := cl_w (cl_w (cl_w (cl_w (cl_w (cl_w (cl_w σ2 (84 + 135 * s + 12 * p) 3 0) (84 + 135 * s + 12 * p) 4 0) (84 + 135 * s + 12 * p) 5 0) (84 + 135 * s + 12 * p) 6 0) (84 + 135 * s + 12 * p) 7 0) (84 + 135 * s + 12 * p) 8 0) (92 + 135 * s + 12 * p) 5 0) (a := 94 + 135 * s + 12 * p) (n := 256) (v := 0) (show (σ2.2.2.2.1 (94 + 135 * s + 12 * p)).2 = 256 by rw [d2, d1]; exact S.2.2) (by omega)
  refine ⟨cl_w (cl_w (cl_w (cl_w (cl_w (cl_w σ3 (83 + 135 * s + 12 * p) 6 0) (83 + 135 * s + 12 * p) 8 0) (83 + 135 * s + 12 * p) 10 0) (83 + 135 * s + 12 * p) 12 0) (83 + 135 * s + 12 * p) 13 0) (83 + 135 * s + 12 * p) 14 0, ?_, fun d hd => ?_, ?_, ?_⟩
  · unfold fc_X6_reset bc_X6_reset_0 fc_X2_reset bc_X2_reset_0 fc_X8_clear bc_X8_clear_0
    simp only [a1, a2, a3, a9, a11, vln, e1, e2, e3, bd1n]
  · rw [r_w (by omega), r_w (by omega), r_w (by omega), r_w (by omega), r_w (by omega), r_w (by omega), b3 d (by omega), r_w (by omega), r_w (by omega), r_w (by omega), r_w (by omega), r_w (by omega), r_w (by omega), r_w (by omega), b2 d (by omega), b1 d (by omega), r_w (by omega)]
  · show σ3.2 = σ.2
    rw [d3]; show σ2.2 = σ.2; rw [d2, d1]; rfl
  · have o3 : ∀ d, d ≠ 83 + 135 * s + 12 * p → (cl_w (cl_w (cl_w (cl_w (cl_w (cl_w σ3 (83 + 135 * s + 12 * p) 6 0) (83 + 135 * s + 12 * p) 8 0) (83 + 135 * s + 12 * p) 10 0) (83 + 135 * s + 12 * p) 12 0) (83 + 135 * s + 12 * p) 13 0) (83 + 135 * s + 12 * p) 14 0).1 d = σ3.1 d := fun d hd => by rw [r_w hd, r_w hd, r_w hd, r_w hd, r_w hd, r_w hd]
    refine ⟨fun j => ?_, ⟨?_, fun j h1 h2 => ?_⟩, fun j hj => ?_, fun j hj => ?_, fun j => ?_, fun j hj => ?_⟩
    · have z : σ3.1 (83 + 135 * s + 12 * p) j = σ.1 (83 + 135 * s + 12 * p) j := by rw [b3 _ (by omega), r_w (by omega), r_w (by omega), r_w (by omega), r_w (by omega), r_w (by omega), r_w (by omega), r_w (by omega), b2 _ (by omega), b1 _ (by omega), r_w (by omega)]
      by_cases c : j = 6 ∨ j = 8 ∨ j = 10 ∨ j = 12 ∨ j = 13 ∨ j = 14
      · rw [if_pos c]
        rcases c with rfl | rfl | rfl | rfl | rfl | rfl <;> simp only [g_w, Nat.reduceEqDiff, and_false, false_and, if_false, true_and, and_true, if_true, and_self]
      · rw [if_neg c, ← z, r_wk (by omega), r_wk (by omega), r_wk (by omega), r_wk (by omega), r_wk (by omega), r_wk (by omega)]
    · rw [o3 _ (by omega), b3 _ (by omega), r_w (by omega), r_wk (by omega), r_wk (by omega), r_wk (by omega), r_wk (by omega), r_wk (by omega), r_wk (by omega), b2 _ (by omega), b1 _ (by omega), r_ws]
    · rw [o3 _ (by omega), b3 _ (by omega), r_w (by omega)]
      have : j = 3 ∨ j = 4 ∨ j = 5 ∨ j = 6 ∨ j = 7 ∨ j = 8 := by omega
      rcases this with rfl | rfl | rfl | rfl | rfl | rfl <;> simp only [g_w, Nat.reduceEqDiff, and_false, false_and, if_false, true_and, and_true, if_true, and_self]
    · rw [o3 _ (by omega), b3 _ (by omega), r_w (by omega), r_w (by omega), r_w (by omega), r_w (by omega), r_w (by omega), r_w (by omega), r_w (by omega), b2 _ (by omega), c1, if_pos hj]
    · rw [o3 _ (by omega), b3 _ (by omega), r_w (by omega), r_w (by omega), r_w (by omega), r_w (by omega), r_w (by omega), r_w (by omega), r_w (by omega), c2, if_pos hj]
    · rw [o3 _ (by omega), b3 _ (by omega), g_w]
      by_cases c : j = 5
      · rw [if_pos ⟨rfl, c⟩, if_pos c]
      · rw [if_neg (fun w => c w.2), if_neg c, r_w (by omega), r_w (by omega), r_w (by omega), r_w (by omega), r_w (by omega), r_w (by omega), b2 _ (by omega), b1 _ (by omega), r_w (by omega)]
    · rw [o3 _ (by omega), c3, if_pos hj]
end Z2_GF
