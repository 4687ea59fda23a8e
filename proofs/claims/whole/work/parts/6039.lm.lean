section Z2_LM
variable {K : Bd} {W W' : Wd} {b : Bool} {k s p : Nat} {σ σ' : cl_S} {ρ ρ' : rf_S}
theorem n_rem {a c : Nat} (ha : a < 2147483648) (hc : c < 2147483648) : nI a - nI a / nI c * nI c = nI (a % c) := by
  have h1 : a / c * c ≤ a := Nat.div_mul_le_self a c
  rw [n_div ha hc, n_mul, n_sub h1]
  congr 1
  have := Nat.div_add_mod a c
  rw [Nat.mul_comm] at this
  omega
/-- how d ticks without a step go -/
def IdR (W : Wd) (s i j t d : Nat) (ρ ρ' : rf_S) : Prop := (∀ c x, c ≠ 0 → ¬ ((c = 48 ∨ c = 49 ∨ c = 50 ∨ c = 51) ∧ x = s) → ρ'.1 c x = ρ.1 c x) ∧ (ρ'.2 = ρ.2) ∧ (∀ x, x ≠ 108 → ρ'.1 0 x = ρ.1 0 x) ∧ (ρ'.1 0 108 = 0) ∧ (ρ'.1 48 s = nI (t + d)) ∧ ((j + d < W.stp i ∧ ρ'.1 49 s = nI i ∧ ρ'.1 50 s = nI (j + d) ∧ ρ'.1 51 s = ρ.1 51 s) ∨ (j + d = W.stp i ∧ ρ'.1 49 s = nI ((i + 1) % W.ns) ∧ ρ'.1 50 s = nI 0 ∧ ρ'.1 51 s = 0))
theorem IdR.q {W : Wd} {s i j t d : Nat} {ρ ρ' : rf_S} (hS : IdR W s i j t d ρ ρ') : ∀ c x, c ≠ 0 → ¬ ((c = 48 ∨ c = 49 ∨ c = 50 ∨ c = 51) ∧ x = s) → ρ'.1 c x = ρ.1 c x := hS.1
theorem IdR.l {W : Wd} {s i j t d : Nat} {ρ ρ' : rf_S} (hS : IdR W s i j t d ρ ρ') : ρ'.2 = ρ.2 := hS.2.1
theorem IdR.f {W : Wd} {s i j t d : Nat} {ρ ρ' : rf_S} (hS : IdR W s i j t d ρ ρ') : ∀ x, x ≠ 108 → ρ'.1 0 x = ρ.1 0 x := hS.2.2.1
theorem IdR.pw {W : Wd} {s i j t d : Nat} {ρ ρ' : rf_S} (hS : IdR W s i j t d ρ ρ') : ρ'.1 0 108 = 0 := hS.2.2.2.1
theorem IdR.t {W : Wd} {s i j t d : Nat} {ρ ρ' : rf_S} (hS : IdR W s i j t d ρ ρ') : ρ'.1 48 s = nI (t + d) := hS.2.2.2.2.1
theorem IdR.r {W : Wd} {s i j t d : Nat} {ρ ρ' : rf_S} (hS : IdR W s i j t d ρ ρ') : (j + d < W.stp i ∧ ρ'.1 49 s = nI i ∧ ρ'.1 50 s = nI (j + d) ∧ ρ'.1 51 s = ρ.1 51 s) ∨ (j + d = W.stp i ∧ ρ'.1 49 s = nI ((i + 1) % W.ns) ∧ ρ'.1 50 s = nI 0 ∧ ρ'.1 51 s = 0) := hS.2.2.2.2.2
theorem nz_in {α : Type} {x : Int32} {y : Option α} (h : ¬ x = 0) : nz x y = y := if_neg h
theorem q_62 (C : CfgR W σ ρ) (hs : s < 2) (sd : ρ.1 0 79 = nI s) (pw : ρ.1 0 108 = 0) {i j t : Nat} (e48 : ρ.1 48 s = nI t) (e49 : ρ.1 49 s = nI i) (e50 : ρ.1 50 s = nI j) (hi : i < W.ns) (hj : j < W.stp i) : ∃ ρ', bq_tick_62 ρ = some (1, ρ') ∧ IdR W s i j t 1 ρ ρ' := by
  obtain ⟨hns, -, -, n64⟩ := C.ns
  obtain ⟨⟨-, st1, st2⟩, -, -, -, e36⟩ := C.sl i hi
  have cs : (nI s).toNatClampNeg = s := n_cl (by omega)
  have ci : (nI i).toNatClampNeg = i := n_cl (by omega)
  have a1 : nI t + (1:Int32) = nI (t + 1) := n_add t 1
  have a2 : nI j + (1:Int32) = nI (j + 1) := n_add j 1
  have a3 : nI i + (1:Int32) = nI (i + 1) := n_add i 1
  have nn0 : ¬ nI W.ns = 0 := fun e => by have := (n_eq (a := W.ns) (b := 0) (by omega) (by omega)).mp e; omega
  unfold bq_tick_62
  have d1 : (rf_w ρ 48 s (nI (t + 1))).1 0 79 = nI s := by rw [q_w (by decide)]; exact sd
  have d2 : (rf_w ρ 48 s (nI (t + 1))).1 50 s = nI j := by rw [q_w (by decide)]; exact e50
  rw [if_pos pw, sd, n_ix hs (by omega), cs, e48, a1, n_ix hs (by omega), vln, d1, n_ix hs (by omega), cs, d2, a2, n_ix hs (by omega), vln]
  have f79 : (rf_w (rf_w ρ 48 s (nI (t + 1))) 50 s (nI (j + 1))).1 0 79 = nI s := by rw [q_w (by decide), q_w (by decide)]; exact sd
  have f49 : (rf_w (rf_w ρ 48 s (nI (t + 1))) 50 s (nI (j + 1))).1 49 s = nI i := by rw [q_w (by decide), q_w (by decide)]; exact e49
  have f50 : (rf_w (rf_w ρ 48 s (nI (t + 1))) 50 s (nI (j + 1))).1 50 s = nI (j + 1) := q_ws
  have f36 : (rf_w (rf_w ρ 48 s (nI (t + 1))) 50 s (nI (j + 1))).1 36 i = nI (W.stp i) := by rw [q_w (by decide), q_w (by decide)]; exact e36
  rw [f79, n_ix hs (by omega), cs, n_ix hs (by omega), f49, n_ix (show i < 32 by omega) (by omega), ci, f50, f36]
  by_cases c : j + 1 = W.stp i
  · rw [if_pos (by rw [c]), n_ix hs (by omega), vln]
    have g79 : (rf_w (rf_w (rf_w ρ 48 s (nI (t + 1))) 50 s (nI (j + 1))) 50 s 0).1 0 79 = nI s := by rw [q_w (by decide)]; exact f79
    rw [g79, n_ix hs (by omega), cs, nar_0, vln]
    have k79 : (rf_w (rf_w (rf_w (rf_w ρ 48 s (nI (t + 1))) 50 s (nI (j + 1))) 50 s 0) 51 s 0).1 0 79 = nI s := by rw [q_w (by decide)]; exact g79
    have k64 : (rf_w (rf_w (rf_w (rf_w ρ 48 s (nI (t + 1))) 50 s (nI (j + 1))) 50 s 0) 51 s 0).1 0 64 = nI W.ns := by rw [q_w (by decide), q_w (by decide), q_w (by decide), q_w (by decide)]; exact n64
    have k49 : (rf_w (rf_w (rf_w (rf_w ρ 48 s (nI (t + 1))) 50 s (nI (j + 1))) 50 s 0) 51 s 0).1 49 s = nI i := by rw [q_w (by decide), q_w (by decide)]; exact f49
    rw [k79, n_ix hs (by omega), k64, nz_in nn0, n_ix hs (by omega), cs, k49, a3, n_rem (by omega) (by omega), vln]
    refine ⟨_, rfl, fun c' x h1 h2 => ?_, rfl, fun x hx => ?_, ?_, ?_, Or.inr ⟨c, ?_, ?_, ?_⟩⟩
    · simp only [g_q]
      rw [if_neg (by omega), if_neg (by omega), if_neg (by omega), if_neg (by omega), if_neg (by omega)]
    · rw [q_w (by decide), q_w (by decide), q_w (by decide), q_w (by decide), q_w (by decide)]
    · rw [q_w (by decide), q_w (by decide), q_w (by decide), q_w (by decide), q_w (by decide)]; exact pw
    · simp only [g_q, Nat.reduceEqDiff, false_and, if_false, and_self, if_true]
    · simp only [g_q, Nat.reduceEqDiff, false_and, if_false, and_self, if_true]
    · simp only [g_q, Nat.reduceEqDiff, false_and, if_false, and_self, if_true]; rfl
    · simp only [g_q, Nat.reduceEqDiff, false_and, if_false, and_self, if_true]
  · rw [if_neg (fun e => c ((n_eq (by omega) (by omega)).mp e))]
    refine ⟨_, rfl, fun c' x h1 h2 => ?_, rfl, fun x hx => ?_, ?_, ?_, Or.inl ⟨by omega, ?_, ?_, ?_⟩⟩
    · simp only [g_q]
      rw [if_neg (by omega), if_neg (by omega)]
    · rw [q_w (by decide), q_w (by decide)]
    · rw [q_w (by decide), q_w (by decide)]; exact pw
    · simp only [g_q, Nat.reduceEqDiff, false_and, if_false, and_self, if_true]
    · exact f49
    · exact f50
    · simp only [g_q, Nat.reduceEqDiff, false_and, if_false, and_self, if_true]
/-- the class passes d ticks -/
theorem c_pass (C : CfgR W σ ρ) (M : MRel W s σ ρ) (hs : s < 2) {i j t d : Nat} (e9 : σ.1 (47 + 132 * s) 9 = nI t) (e10 : σ.1 (47 + 132 * s) 10 = nI i) (e11 : σ.1 (47 + 132 * s) 11 = nI j) (hi : i < W.ns) (hd : j + d ≤ W.stp i) : ∃ σ', fc_X5_pass (47 + 132 * s) (nI d) σ = some (nI d, σ') ∧ σ'.2 = σ.2 ∧ (∀ x y, ¬ (x = 47 + 132 * s ∧ 8 < y ∧ y < 13) → σ'.1 x y = σ.1 x y) ∧ σ'.1 (47 + 132 * s) 9 = nI (t + d) ∧ ((j + d < W.stp i ∧ σ'.1 (47 + 132 * s) 10 = nI i ∧ σ'.1 (47 + 132 * s) 11 = nI (j + d) ∧ σ'.1 (47 + 132 * s) 12 = σ.1 (47 + 132 * s) 12) ∨ (j + d = W.stp i ∧ σ'.1 (47 + 132 * s) 10 = nI ((i + 1) % W.ns) ∧ σ'.1 (47 + 132 * s) 11 = nI 0 ∧ σ'.1 (47 + 132 * s) 12 = 0)) := by
  obtain ⟨hns, -, n9, -⟩ := C.ns
  obtain ⟨⟨-, st1, st2⟩, -, -, e36, -⟩ := C.sl i hi
  have s01 : s = 0 ∨ s = 1 := by omega
  have hcf := C.cf
  have ci : (nI i).toNatClampNeg = i := n_cl (by omega)
  have ne : ∀ x, x < 10 → W.cf + x ≠ 47 + 132 * s := fun x hx => by omega
  have ne0 : W.cf ≠ 47 + 132 * s := by omega
  unfold fc_X5_pass bc_X5_pass_0 bc_X5_pass_76
  have f11 : (cl_w σ (47 + 132 * s) 9 (nI (t + d))).1 (47 + 132 * s) 11 = nI j := by rw [r_wk (by decide)]; exact e11
  rw [e9, n_add, vln, f11, n_add, vln, vln]
  have g3 : (cl_w (cl_w σ (47 + 132 * s) 9 (nI (t + d))) (47 + 132 * s) 11 (nI (j + d))).2.2.1 (47 + 132 * s) 3 = some W.cf := M.cp
  have g10 : (cl_w (cl_w σ (47 + 132 * s) 9 (nI (t + d))) (47 + 132 * s) 11 (nI (j + d))).1 (47 + 132 * s) 10 = nI i := by rw [r_wk (by decide), r_wk (by decide)]; exact e10
  have g11 : (cl_w (cl_w σ (47 + 132 * s) 9 (nI (t + d))) (47 + 132 * s) 11 (nI (j + d))).1 (47 + 132 * s) 11 = nI (j + d) := r_ws
  have g9 : (cl_w (cl_w σ (47 + 132 * s) 9 (nI (t + d))) (47 + 132 * s) 11 (nI (j + d))).1 (W.cf + 9) i = nI (W.stp i) := by rw [r_w (ne 9 (by omega)), r_w (ne 9 (by omega))]; exact e36
  rw [g3, nnn, g10, n_ix (show i < 32 by omega) (by omega), ci, g11, g9]
  by_cases c : j + d < W.stp i
  · rw [if_pos ((n_lt (by omega) (by omega)).mpr c)]
    refine ⟨_, rfl, rfl, fun x y q => ?_, ?_, Or.inl ⟨c, g10, g11, ?_⟩⟩
    · simp only [g_w]
      rw [if_neg (by omega), if_neg (by omega)]
    · rw [r_wk (by decide), r_ws]
    · rw [r_wk (by decide), r_wk (by decide)]
  · rw [if_neg (fun q => c ((n_lt (by omega) (by omega)).mp q)), vln, vln, vln]
    have k3 : (cl_w (cl_w (cl_w (cl_w σ (47 + 132 * s) 9 (nI (t + d))) (47 + 132 * s) 11 (nI (j + d))) (47 + 132 * s) 11 0) (47 + 132 * s) 12 0).2.2.1 (47 + 132 * s) 3 = some W.cf := M.cp
    have k9 : (cl_w (cl_w (cl_w (cl_w σ (47 + 132 * s) 9 (nI (t + d))) (47 + 132 * s) 11 (nI (j + d))) (47 + 132 * s) 11 0) (47 + 132 * s) 12 0).1 W.cf 9 = nI W.ns := by rw [r_w ne0, r_w ne0, r_w ne0, r_w ne0]; exact n9
    have k10 : (cl_w (cl_w (cl_w (cl_w σ (47 + 132 * s) 9 (nI (t + d))) (47 + 132 * s) 11 (nI (j + d))) (47 + 132 * s) 11 0) (47 + 132 * s) 12 0).1 (47 + 132 * s) 10 = nI i := by rw [r_wk (by decide), r_wk (by decide)]; exact g10
    rw [k3, nnn, k9, k10, show nI i + (1:Int32) = nI (i + 1) from n_add i 1]
    have fin : ∀ u, ∃ σ', bc_X5_pass_76 (nI d) (some (47 + 132 * s)) (nI u) (cl_w (cl_w (cl_w (cl_w σ (47 + 132 * s) 9 (nI (t + d))) (47 + 132 * s) 11 (nI (j + d))) (47 + 132 * s) 11 0) (47 + 132 * s) 12 0) = some (nI d, σ') ∧ σ'.2 = σ.2 ∧ (∀ x y, ¬ (x = 47 + 132 * s ∧ 8 < y ∧ y < 13) → σ'.1 x y = σ.1 x y) ∧ σ'.1 (47 + 132 * s) 9 = nI (t + d) ∧ σ'.1 (47 + 132 * s) 10 = nI u ∧ σ'.1 (47 + 132 * s) 11 = nI 0 ∧ σ'.1 (47 + 132 * s) 12 = 0 := by
      intro u
      refine ⟨_, rfl, rfl, fun x y q => ?_, ?_, ?_, ?_, ?_⟩
      · simp only [g_w]
        rw [if_neg (by omega), if_neg (by omega), if_neg (by omega), if_neg (by omega), if_neg (by omega)]
      · simp only [g_w, Nat.reduceEqDiff, and_false, if_false, and_self, if_true]
      · simp only [g_w, Nat.reduceEqDiff, and_false, if_false, and_self, if_true]
      · simp only [g_w, Nat.reduceEqDiff, and_false, if_false, and_self, if_true]; rfl
      · simp only [g_w, Nat.reduceEqDiff, and_false, if_false, and_self, if_true]
    unfold bc_X5_pass_76 at fin
    by_cases c2 : W.ns ≤ i + 1
    · rw [if_pos ((n_le (by omega) (by omega)).mpr c2)]
      obtain ⟨σ', a1, a2, a3, a4, a5, a6, a7⟩ := fin 0
      have : (i + 1) % W.ns = 0 := by rw [show i + 1 = W.ns by omega]; exact Nat.mod_self _
      exact ⟨σ', a1, a2, a3, a4, Or.inr ⟨by omega, by rw [this]; exact a5, a6, a7⟩⟩
    · rw [if_neg (fun q => c2 ((n_le (by omega) (by omega)).mp q))]
      obtain ⟨σ', a1, a2, a3, a4, a5, a6, a7⟩ := fin (i + 1)
      exact ⟨σ', a1, a2, a3, a4, Or.inr ⟨by omega, by rw [Nat.mod_eq_of_lt (by omega)]; exact a5, a6, a7⟩⟩
/-- both pass d ticks -/
theorem Tk.ps (h : Tk K W b k s σ ρ) {i j t d : Nat} (e48 : ρ.1 48 s = nI t) (e49 : ρ.1 49 s = nI i) (e50 : ρ.1 50 s = nI j) (ht : t + d ≤ 60000) (hi : i < W.ns) (hj : j + d ≤ W.stp i) (I : IdR W s i j t d ρ ρ') : ∃ σ', fc_X5_pass (47 + 132 * s) (nI d) σ = some (nI d, σ') ∧ Tk K W b k s σ' ρ' := by
  have s2 := h.s2
  have s01 : s = 0 ∨ s = 1 := by omega
  have M := h.M
  have T := h.R.T
  have C := h.R.cf
  have hcf := C.cf
  obtain ⟨hns, -, -, -⟩ := C.ns
  obtain ⟨⟨-, st1, st2⟩, -⟩ := C.sl i hi
  have e9 : σ.1 (47 + 132 * s) 9 = nI t := by
    obtain ⟨t', -, a1, a2⟩ := M.tk
    rw [a1, ← a2, e48]
  have e10 : σ.1 (47 + 132 * s) 10 = nI i := by
    obtain ⟨i', j', -, -, a1, a2, -⟩ := M.sl
    rw [a1, ← a2, e49]
  have e11 : σ.1 (47 + 132 * s) 11 = nI j := by
    obtain ⟨i', j', -, -, -, -, a1, a2, -⟩ := M.sl
    rw [a1, ← a2, e50]
  obtain ⟨σ', ep, c2, cI, c9, cr⟩ := c_pass C M s2 e9 e10 e11 hi hj
  refine ⟨σ', ep, ?_⟩
  have cA : ∀ a, a ≠ 47 + 132 * s → σ'.1 a = σ.1 a := fun a ha => funext fun y => cI a y (by omega)
  have cK : ∀ y, y < 9 ∨ 12 < y → σ'.1 (47 + 132 * s) y = σ.1 (47 + 132 * s) y := fun y hy => cI _ y (by omega)
  have cR : σ'.2.2.1 = σ.2.2.1 := by rw [c2]
  have sm : SmT σ σ' := ⟨fun a ha => ⟨cA a (by omega), by rw [cR]⟩, by rw [c2]⟩
  have qA : ∀ c, c ≠ 0 → c ≠ 48 → c ≠ 49 → c ≠ 50 → c ≠ 51 → ρ'.1 c = ρ.1 c := fun c h0 h1 h2 h3 h4 => funext fun x => I.q c x h0 (by omega)
  have T' : TermR W.n0 σ' ρ' W.ts W.tm W.N := T.sm sm (fun c h1 h2 => qA c (by omega) (by omega) (by omega) (by omega) (by omega)) (fun j hj => I.f j (by omega))
  have lo : ∀ a, pt W.ts a → (30 < a ∧ a < 38) ∨ 324 < a := by
    intro a ha
    rcases ha with rfl | ha
    · omega
    · have := T.C.mem a ha; omega
  have G : TGo W W σ σ' := ⟨Wd.le.refl W, fun a ha j _ => by rw [(sm.r a (lo a ha)).1], fun a ha j _ _ => by rw [(sm.r a (lo a ha)).2], T.L.inm, fun b _ => by rw [sm.t], by rw [sm.t]; exact Nat.le_refl _⟩
  have F : Fr (mrw s) (mpl b s) (scm s) W W σ σ' ρ ρ' := ⟨G, fun a q _ _ => cA a (fun e => q (Or.inl e)), fun a _ => by rw [c2], fun a _ _ _ => by rw [cR], fun a _ => by rw [c2], fun c x hc q => I.q c x (by omega) (fun e => q (Or.inl ⟨by omega, by omega, e.2⟩)), I.l, fun x q => I.f x (fun e => q (Or.inl (Or.inr (Or.inr (Or.inr (Or.inr (Or.inr (Or.inr (Or.inr (Or.inl e))))))))))⟩
  have M' : MRel W s σ' ρ' := by
    refine ⟨M.prs G s2 C.np.1 (fun a h1 h2 => cA a (by omega)) (fun a h1 h2 => by rw [cR]) (fun c h1 h2 h3 h4 h5 => qA c (by omega) (by omega) (by omega) (by omega) (by omega)), by rw [cR]; exact M.cp, by rw [cK 2 (by omega)]; exact M.re, ⟨t + d, ht, c9, I.t⟩, ?_, ?_, ?_, fun c i hc hi => by rw [cA _ (by omega), qA 71 (by omega) (by omega) (by omega) (by omega) (by omega)]; exact M.sn c i hc hi, fun c hc => by rw [cA _ (by omega), qA 72 (by omega) (by omega) (by omega) (by omega) (by omega)]; exact M.ur c hc, fun c hc => by rw [cR, qA 73 (by omega) (by omega) (by omega) (by omega) (by omega)]; exact M.st c hc, fun d hd => by rw [cA _ (by omega), cR, qA 74 (by omega) (by omega) (by omega) (by omega) (by omega), qA 75 (by omega) (by omega) (by omega) (by omega) (by omega)]; exact M.dk d hd, fun e => ?_⟩
    · rcases cr with ⟨r1, r2, r3, r4⟩ | ⟨r1, r2, r3, r4⟩
      · rcases I.r with ⟨k1, k2, k3, k4⟩ | ⟨k1, -⟩
        · exact ⟨i, j + d, by omega, by omega, r2, k2, r3, k3, fun _ => ⟨hi, r1⟩⟩
        · omega
      · rcases I.r with ⟨k1, -⟩ | ⟨k1, k2, k3, k4⟩
        · omega
        · have h2 := Nat.mod_lt (i + 1) (show 0 < W.ns by omega)
          exact ⟨(i + 1) % W.ns, 0, by omega, by omega, r2, k2, r3, k3, fun _ => ⟨h2, by have := (C.sl _ h2).1.2.1; omega⟩⟩
    · rcases cr with ⟨r1, r2, r3, r4⟩ | ⟨r1, r2, r3, r4⟩
      · rcases I.r with ⟨k1, k2, k3, k4⟩ | ⟨k1, -⟩
        · rw [r4, k4]; exact M.yl
        · omega
      · rcases I.r with ⟨k1, -⟩ | ⟨k1, k2, k3, k4⟩
        · omega
        · rw [r4, k4]
    · rw [cK 13 (by omega), I.f 54 (by decide)]; exact M.ct
    · subst e; rw [show (179:Nat) = 47 + 132 * 1 by omega, cK 8 (by omega)]; exact M.on rfl
  have m47 : ∀ y, y = 8 ∨ y = 14 ∨ y = 15 → σ'.1 47 y = σ.1 47 y := fun y hy => cI 47 y (by omega)
  have O' : OthB W k σ' ρ' := by
    refine h.R.oB.fr G (cA 0 (by omega)) (by rw [cR]) (fun a ha => cA a (by omega)) m47 (fun a ha => by rw [cR]) (fun c hc => qA c (by omega) (by omega) (by omega) (by omega) (by omega)) (fun x hx => I.f x (by omega)) ?_
    rcases s01 with rfl | rfl
    · rw [e48, I.t, n_cl (by omega), n_cl (by omega)]; omega
    · rw [I.q 48 0 (by omega) (by omega)]; exact Nat.le_refl _
  have B := h.R.bd
  have e : ∀ s', phi s' ρ' = phi s' ρ := fun s' => phi_eq (fun g => by rw [qA 61 (by omega) (by omega) (by omega) (by omega) (by omega)]) (fun g => by rw [qA 69 (by omega) (by omega) (by omega) (by omega) (by omega)])
  have B' : Bud K W b σ' ρ' := ⟨by rw [e, e]; exact B.n, by rw [e, e]; exact B.l, by rw [c2]; exact B.c, by rw [c2]; exact B.s⟩
  exact ⟨h.R.mach s2 F M' O' (fun s' hs' => by rw [cR]) T' B' (fun p' hp' => ⟨by rw [cA _ (by omega)], fun j hj => by rw [cA _ (by omega)]⟩) (fun e => by rcases h.hs with q | q; exact absurd (q.2.symm.trans e) (by decide); exact q.1), h.hs, h.np, by rw [I.f 79 (by decide)]; exact h.sd, by rw [cK 8 (by omega)]; exact h.on, by rw [I.f 52 (by decide), I.f 18 (by decide)]; exact h.bk⟩
end Z2_LM
