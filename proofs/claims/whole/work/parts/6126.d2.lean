section Z2_D2
variable {K : Bd} {W W' : Wd} {b : Bool} {k s p q : Nat} {σ σ' : cl_S} {ρ ρ' : rf_S} {N : Nat}
/-- a partition is loaded as it was -/
def Ldd (q im w len sh : Nat) (σ σ' : cl_S) : Prop := (∀ d j, d ≠ 220 + 12 * q → ¬ (d = 218 + 12 * q ∧ j = 12) → σ'.1 d j = σ.1 d j) ∧ (∀ j, σ'.1 (220 + 12 * q) j = if j < len then σ.1 w j else σ.1 (220 + 12 * q) j) ∧ (σ'.1 (218 + 12 * q) 12 = nI sh) ∧ (σ'.2.1 = σ.2.1) ∧ (∀ d j, ¬ (d = 218 + 12 * q ∧ (j = 15 ∨ j = 16 ∨ j = 17)) → d ≠ 226 + 12 * q → σ'.2.2.1 d j = σ.2.2.1 d j) ∧ (∀ j, j = 15 ∨ j = 16 ∨ j = 17 → σ'.2.2.1 (218 + 12 * q) j = σ.2.2.1 (83 + 12 * q) j) ∧ (∀ j, σ'.2.2.1 (226 + 12 * q) j = if j < sh then σ.2.2.1 (91 + 12 * q) j else σ.2.2.1 (226 + 12 * q) j) ∧ (σ'.2.2.2 = σ.2.2.2)
theorem Ldd.I {q im w len sh : Nat} {σ σ' : cl_S} (hS : Ldd q im w len sh σ σ') : ∀ d j, d ≠ 220 + 12 * q → ¬ (d = 218 + 12 * q ∧ j = 12) → σ'.1 d j = σ.1 d j := hS.1
theorem Ldd.me {q im w len sh : Nat} {σ σ' : cl_S} (hS : Ldd q im w len sh σ σ') : ∀ j, σ'.1 (220 + 12 * q) j = if j < len then σ.1 w j else σ.1 (220 + 12 * q) j := hS.2.1
theorem Ldd.h {q im w len sh : Nat} {σ σ' : cl_S} (hS : Ldd q im w len sh σ σ') : σ'.1 (218 + 12 * q) 12 = nI sh := hS.2.2.1
theorem Ldd.L {q im w len sh : Nat} {σ σ' : cl_S} (hS : Ldd q im w len sh σ σ') : σ'.2.1 = σ.2.1 := hS.2.2.2.1
theorem Ldd.R {q im w len sh : Nat} {σ σ' : cl_S} (hS : Ldd q im w len sh σ σ') : ∀ d j, ¬ (d = 218 + 12 * q ∧ (j = 15 ∨ j = 16 ∨ j = 17)) → d ≠ 226 + 12 * q → σ'.2.2.1 d j = σ.2.2.1 d j := hS.2.2.2.2.1
theorem Ldd.t {q im w len sh : Nat} {σ σ' : cl_S} (hS : Ldd q im w len sh σ σ') : ∀ j, j = 15 ∨ j = 16 ∨ j = 17 → σ'.2.2.1 (218 + 12 * q) j = σ.2.2.1 (83 + 12 * q) j := hS.2.2.2.2.2.1
theorem Ldd.sc {q im w len sh : Nat} {σ σ' : cl_S} (hS : Ldd q im w len sh σ σ') : ∀ j, σ'.2.2.1 (226 + 12 * q) j = if j < sh then σ.2.2.1 (91 + 12 * q) j else σ.2.2.1 (226 + 12 * q) j := hS.2.2.2.2.2.2.1
theorem Ldd.T {q im w len sh : Nat} {σ σ' : cl_S} (hS : Ldd q im w len sh σ σ') : σ'.2.2.2 = σ.2.2.2 := hS.2.2.2.2.2.2.2
theorem c_loadAs {im w len sh : Nat} (hq : q < 8) (e15 : σ.2.2.1 (83 + 12 * q) 15 = some im) (him : im < 218 ∨ 314 ≤ im) (ew : σ.2.2.1 im 6 = some w) (hw : 324 < w) (hT : (σ.2.2.2.1 w).2 = len) (hl : len ≤ 2048) (hs : sh ≤ 100) (es : σ.1 (83 + 12 * q) 12 = nI sh) : ∃ σ', fc_X6_loadAs (218 + 12 * q) (some (83 + 12 * q)) σ = some σ' ∧ Ldd q im w len sh σ σ' := by
  unfold fc_X6_loadAs bc_X6_loadAs_0
  simp only [nn_eq, vl_eq]
  have r1 : ∀ d j, ¬ (d = 218 + 12 * q ∧ (j = 15 ∨ j = 16 ∨ j = 17)) → (cl_wr (cl_wr (cl_wr σ (218 + 12 * q) 15 (some im)) (218 + 12 * q) 16 (σ.2.2.1 (83 + 12 * q) 16)) (218 + 12 * q) 17 (σ.2.2.1 (83 + 12 * q) 17)).2.2.1 d j = σ.2.2.1 d j := fun d j h => by
    rw [g_r, if_neg (fun w => h ⟨w.1, by omega⟩), g_r, if_neg (fun w => h ⟨w.1, by omega⟩), g_r, if_neg (fun w => h ⟨w.1, by omega⟩)]
  rw [e15, r_r (show 83 + 12 * q ≠ 218 + 12 * q by omega), r_r (show 83 + 12 * q ≠ 218 + 12 * q by omega), r_r (show 83 + 12 * q ≠ 218 + 12 * q by omega)]
  rw [show (cl_wr (cl_wr (cl_wr σ (218 + 12 * q) 15 (some im)) (218 + 12 * q) 16 (σ.2.2.1 (83 + 12 * q) 16)) (218 + 12 * q) 17 (σ.2.2.1 (83 + 12 * q) 17)).2.2.1 (218 + 12 * q) 15 = some im by rw [r_rk (by decide), r_rk (by decide), r_rs]]
  simp only [nn_eq]
  rw [r1 im 6 (by omega), ew]
  simp only [nn_eq]
  obtain ⟨σ1, f1, o1, m1, t1⟩ := c_load (σ := cl_wr (cl_wr (cl_wr σ (218 + 12 * q) 15 (some im)) (218 + 12 * q) 16 (σ.2.2.1 (83 + 12 * q) 16)) (218 + 12 * q) 17 (σ.2.2.1 (83 + 12 * q) 17)) (a := 218 + 12 * q + 1) (w := w) (n := len) hT hl (by omega)
  rw [f1, bd1_eq]
  have e12 : σ1.1 (83 + 12 * q) 12 = nI sh := by rw [o1 _ (by omega)]; exact es
  obtain ⟨σ2, f2, ⟨a1, a2, a3, a4⟩⟩ := lp_cnt (S := cl_S) (f := fun x2 σ => lc_X6_loadAs_40 (218 + 12 * q) (some (83 + 12 * q)) x2 σ) (n := sh) (fun i τ => τ.1 = σ1.1 ∧ τ.2.1 = σ1.2.1 ∧ τ.2.2.2 = σ1.2.2.2 ∧ ∀ d j, τ.2.2.1 d j = if d = 226 + 12 * q ∧ j < i then σ1.2.2.1 (91 + 12 * q) j else σ1.2.2.1 d j) (fun i τ hi ⟨a1, a2, a3, a4⟩ => by
    refine ⟨cl_wr τ (226 + 12 * q) i (σ1.2.2.1 (91 + 12 * q) i), ?_, a1, a2, a3, fun d j => ?_⟩
    · show lc_X6_loadAs_40 (218 + 12 * q) (some (83 + 12 * q)) (nI i) τ = _
      unfold lc_X6_loadAs_40
      simp only [nn_eq, vl_eq]
      rw [a1, e12, if_neg (fun w => by have := (n_le (by omega) (by omega)).mp w; omega), n_ix (show i < 100 by omega) (by omega), n_ix (show i < 100 by omega) (by omega), n_cl (show i < 2147483648 by omega), show 83 + 12 * q + 8 = 91 + 12 * q by omega, show 218 + 12 * q + 8 = 226 + 12 * q by omega, a4, if_neg (by omega), show nI i + (1:Int32) = nI (i + 1) from n_add i 1]
    · rw [g_r, a4]
      by_cases c : d = 226 + 12 * q ∧ j = i
      · rw [if_pos c, if_pos ⟨c.1, by omega⟩, c.2]
      · rw [if_neg c]
        by_cases c2 : d = 226 + 12 * q ∧ j < i
        · rw [if_pos c2, if_pos ⟨c2.1, by omega⟩]
        · rw [if_neg c2, if_neg (fun w => by
            by_cases e : j = i
            · exact c ⟨w.1, e⟩
            · exact c2 ⟨w.1, by omega⟩)]) (fun τ ⟨a1, a2, a3, a4⟩ => by
    show lc_X6_loadAs_40 (218 + 12 * q) (some (83 + 12 * q)) (nI sh) τ = _
    unfold lc_X6_loadAs_40
    simp only [nn_eq]
    rw [a1, e12, if_pos (Int32.le_refl _)]) sh 0 σ1 (by omega) (by omega) ⟨rfl, rfl, rfl, fun d j => by rw [if_neg (by omega)]⟩
  unfold bc_X6_loadAs_40
  rw [show lp (fun z : (Int32 × cl_S) => lc_X6_loadAs_40 (218 + 12 * q) (some (83 + 12 * q)) z.1 z.2) ((0:Int32), σ1) = _ from f2, Option.bind_some]
  unfold ec_X6_loadAs_40
  simp only [nn_eq, vl_eq]
  rw [a1, e12]
  have s1r : ∀ d j, ¬ (d = 218 + 12 * q ∧ (j = 15 ∨ j = 16 ∨ j = 17)) → σ1.2.2.1 d j = σ.2.2.1 d j := fun d j h => by rw [t1]; exact r1 d j h
  refine ⟨_, rfl, ⟨fun d j h1 h2 => ?_, fun j => ?_, r_ws, by rw [r_wL, a2, t1]; rfl, fun d j h1 h2 => ?_, fun j hj => ?_, fun j => ?_, by rw [r_wL, a3, t1]; rfl⟩⟩
  · rw [g_w, if_neg h2, a1, o1 d (by omega)]; rfl
  · rw [r_w (by omega), a1, show 220 + 12 * q = 218 + 12 * q + 1 + 1 by omega, m1]; rfl
  · rw [r_wL, a4, if_neg (fun w => h2 w.1), s1r d j h1]
  · rw [r_wL, a4, if_neg (by omega), t1]
    rcases hj with rfl | rfl | rfl
    · rw [r_rk (by decide), r_rk (by decide), r_rs, e15]
    · rw [r_rk (by decide), r_rs]
    · rw [r_rs]
  · rw [r_wL, a4]
    by_cases c : j < sh
    · rw [if_pos ⟨rfl, c⟩, if_pos c, s1r _ _ (by omega)]
    · rw [if_neg (fun w => c w.2), if_neg c, s1r _ _ (by omega)]
/-- an area is emptied -/
theorem c_emptyArea {cf ad ar : Nat} (hq : q < 8) (hcf : cf = 48 ∨ cf = 314) (h3 : σ.2.2.1 179 3 = some cf) (h1 : σ.2.2.1 179 1 = some 180) (har : σ.1 (cf + 3) q = nI ar) (had : σ.1 (cf + 4) q = nI ad) (hb : ad + ar ≤ 32) : ∃ σ', fc_X5_emptyArea 179 (nI q) σ = some σ' ∧ (∀ d, d ≠ 181 → σ'.1 d = σ.1 d) ∧ (∀ j, σ'.1 181 j = if 2 * ad ≤ j ∧ j < 2 * (ad + ar) then 0 else σ.1 181 j) ∧ σ'.2.1 = σ.2.1 ∧ (∀ d, d ≠ 182 → σ'.2.2.1 d = σ.2.2.1 d) ∧ (∀ j, σ'.2.2.1 182 j = if 2 * ad ≤ j ∧ j < 2 * (ad + ar) then some 33 else σ.2.2.1 182 j) ∧ σ'.2.2.2 = σ.2.2.2 := by
  have emp : ∀ (τ : cl_S) (i : Nat), i < 64 → fc_X3_empty 180 (nI i) τ = some (cl_wr (cl_w τ 181 i (0:Int32)) 182 i (some 33)) := by
    intro τ i hi
    unfold fc_X3_empty bc_X3_empty_0 fc_X3_fill bc_X3_fill_0
    rw [if_neg (n_nneg (by omega)), if_neg (show ¬ (64:Int32) ≤ nI i from fun w => by have := (n_le (a := 64) (b := i) (by omega) (by omega)).mp w; omega), n_ix hi (by omega), vl_eq, n_ix hi (by omega), vl_eq, bd1_eq, n_cl (show i < 2147483648 by omega)]
  obtain ⟨σ2, f2, ⟨a1, a2, a3, a4, a5, a6⟩⟩ := lp_cnt (S := cl_S) (f := fun x2 σ => lc_X5_emptyArea_2 179 (nI q) x2 σ) (n := ar) (fun i τ => (∀ d, d ≠ 181 → τ.1 d = σ.1 d) ∧ (∀ j, τ.1 181 j = if 2 * ad ≤ j ∧ j < 2 * (ad + i) then 0 else σ.1 181 j) ∧ τ.2.1 = σ.2.1 ∧ (∀ d, d ≠ 182 → τ.2.2.1 d = σ.2.2.1 d) ∧ (∀ j, τ.2.2.1 182 j = if 2 * ad ≤ j ∧ j < 2 * (ad + i) then some 33 else σ.2.2.1 182 j) ∧ τ.2.2.2 = σ.2.2.2) (fun i τ hi ⟨a1, a2, a3, a4, a5, a6⟩ => by
    have fcp : ∀ τ' : cl_S, τ'.2.2.1 179 3 = some cf → τ'.1 (cf + 4) q = nI ad → fc_X5_firstCopy 179 (nI q) (nI i) τ' = some (nI (2 * (ad + i)), τ') := by
      intro τ' e1 e2
      unfold fc_X5_firstCopy bc_X5_firstCopy_0
      rw [vl_eq, e1]
      simp only [nn_eq]
      rw [n_ix hq (by omega), n_cl (show q < 2147483648 by omega), e2, n_add, show (2:Int32) * nI (ad + i) = nI (2 * (ad + i)) from n_mul 2 _]
    have e1 : τ.2.2.1 179 3 = some cf := by rw [a4 179 (by decide)]; exact h3
    have e2 : τ.1 (cf + 4) q = nI ad := by rw [a1 _ (by omega)]; exact had
    have e3 : τ.2.2.1 179 1 = some 180 := by rw [a4 179 (by decide)]; exact h1
    refine ⟨cl_wr (cl_w (cl_wr (cl_w τ 181 (2 * (ad + i)) (0:Int32)) 182 (2 * (ad + i)) (some 33)) 181 (2 * (ad + i) + 1) (0:Int32)) 182 (2 * (ad + i) + 1) (some 33), ?_, fun d hd => ?_, fun j => ?_, a3, fun d hd => ?_, fun j => ?_, a6⟩
    · show lc_X5_emptyArea_2 179 (nI q) (nI i) τ = _
      unfold lc_X5_emptyArea_2
      rw [vl_eq, e1]
      simp only [nn_eq]
      rw [n_ix hq (by omega), n_cl (show q < 2147483648 by omega), a1 (cf + 3) (by omega), har, if_neg (fun w => by have := (n_le (by omega) (by omega)).mp w; omega), vl_eq, fcp τ e1 e2, bd2_eq, e3]
      simp only [nn_eq]
      rw [emp τ _ (by omega), bd1_eq, vl_eq, r_r (show 179 ≠ 182 by decide), show (cl_w τ 181 (2 * (ad + i)) (0:Int32)).2.2.1 179 1 = some 180 from e3, fcp _ (by rw [r_r (by decide)]; exact e1) (by rw [r_rI, r_w (by omega)]; exact e2), bd2_eq]
      simp only [nn_eq]
      rw [show nI (2 * (ad + i)) + (1:Int32) = nI (2 * (ad + i) + 1) from n_add _ 1, emp _ _ (by omega), bd1_eq, vl_eq, show nI i + (1:Int32) = nI (i + 1) from n_add i 1]
    · rw [r_rI, r_w hd, r_rI, r_w hd]; exact a1 d hd
    · rw [r_rI, g_w, r_rI, g_w, a2]
      by_cases c1 : j = 2 * (ad + i) + 1
      · rw [if_pos ⟨rfl, c1⟩, if_pos (by omega)]
      · rw [if_neg (fun w => c1 w.2)]
        by_cases c2 : j = 2 * (ad + i)
        · rw [if_pos ⟨rfl, c2⟩, if_pos (by omega)]
        · rw [if_neg (fun w => c2 w.2)]
          by_cases c3 : 2 * ad ≤ j ∧ j < 2 * (ad + i)
          · rw [if_pos c3, if_pos (by omega)]
          · rw [if_neg c3, if_neg (by omega)]
    · rw [r_r hd, r_wL, r_r hd]; exact a4 d hd
    · rw [g_r, r_wL, g_r]
      by_cases c1 : j = 2 * (ad + i) + 1
      · rw [if_pos ⟨rfl, c1⟩, if_pos (by omega)]
      · rw [if_neg (fun w => c1 w.2)]
        by_cases c2 : j = 2 * (ad + i)
        · rw [if_pos ⟨rfl, c2⟩, if_pos (by omega)]
        · rw [if_neg (fun w => c2 w.2)]
          show τ.2.2.1 182 j = _
          rw [a5]
          by_cases c3 : 2 * ad ≤ j ∧ j < 2 * (ad + i)
          · rw [if_pos c3, if_pos (by omega)]
          · rw [if_neg c3, if_neg (by omega)]) (fun τ ⟨a1, a2, a3, a4, a5, a6⟩ => by
    show lc_X5_emptyArea_2 179 (nI q) (nI ar) τ = _
    unfold lc_X5_emptyArea_2
    rw [vl_eq, a4 179 (by decide), h3]
    simp only [nn_eq]
    rw [n_ix hq (by omega), n_cl (show q < 2147483648 by omega), a1 (cf + 3) (by omega), har, if_pos (Int32.le_refl _)]) ar 0 σ (by omega) (by omega) ⟨fun _ _ => rfl, fun j => by rw [if_neg (by omega)], rfl, fun _ _ => rfl, fun j => by rw [if_neg (by omega)], rfl⟩
  refine ⟨σ2, ?_, a1, a2, a3, a4, a5, a6⟩
  unfold fc_X5_emptyArea bc_X5_emptyArea_0 bc_X5_emptyArea_2
  rw [show lp (fun z : (Int32 × cl_S) => lc_X5_emptyArea_2 179 (nI q) z.1 z.2) ((0:Int32), σ) = _ from f2, Option.bind_some]
  rfl
end Z2_D2
