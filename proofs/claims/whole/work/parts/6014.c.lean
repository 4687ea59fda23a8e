section Z2_C
/-! LAYER 2: the core -/
def Ctx (W : Wd) (s p : Nat) (σ : cl_S) (ρ : rf_S) : Prop := (PCore W s p σ ρ) ∧ (ρ.1 0 79 = nI s) ∧ (ρ.1 0 118 = nI p) ∧ (ρ.1 0 119 = nI (8 * s + p)) ∧ (ρ.1 0 120 = nI (8192 * s + W.bs p)) ∧ (ρ.1 29 p = nI (W.sz p)) ∧ (s < 2 ∧ p < 8 ∧ 16 ≤ W.sz p ∧ W.sz p ≤ 2048 ∧ W.bs p + W.sz p ≤ 8192)
theorem Ctx.co {W : Wd} {s p : Nat} {σ : cl_S} {ρ : rf_S} (hS : Ctx W s p σ ρ) : PCore W s p σ ρ := hS.1
theorem Ctx.sd {W : Wd} {s p : Nat} {σ : cl_S} {ρ : rf_S} (hS : Ctx W s p σ ρ) : ρ.1 0 79 = nI s := hS.2.1
theorem Ctx.me {W : Wd} {s p : Nat} {σ : cl_S} {ρ : rf_S} (hS : Ctx W s p σ ρ) : ρ.1 0 118 = nI p := hS.2.2.1
theorem Ctx.at' {W : Wd} {s p : Nat} {σ : cl_S} {ρ : rf_S} (hS : Ctx W s p σ ρ) : ρ.1 0 119 = nI (8 * s + p) := hS.2.2.2.1
theorem Ctx.gd {W : Wd} {s p : Nat} {σ : cl_S} {ρ : rf_S} (hS : Ctx W s p σ ρ) : ρ.1 0 120 = nI (8192 * s + W.bs p) := hS.2.2.2.2.1
theorem Ctx.rz {W : Wd} {s p : Nat} {σ : cl_S} {ρ : rf_S} (hS : Ctx W s p σ ρ) : ρ.1 29 p = nI (W.sz p) := hS.2.2.2.2.2.1
theorem Ctx.bd {W : Wd} {s p : Nat} {σ : cl_S} {ρ : rf_S} (hS : Ctx W s p σ ρ) : s < 2 ∧ p < 8 ∧ 16 ≤ W.sz p ∧ W.sz p ≤ 2048 ∧ W.bs p + W.sz p ≤ 8192 := hS.2.2.2.2.2.2
/-- what the core's step leaves as it was -/
def CoF (W : Wd) (s p : Nat) (σ σ' : cl_S) (ρ ρ' : rf_S) : Prop := (σ'.2 = σ.2) ∧ (∀ b, b < 84 + 135 * s + 12 * p ∨ 86 + 135 * s + 12 * p < b → σ'.1 b = σ.1 b) ∧ (ρ'.2 = ρ.2) ∧ (∀ c j, c ≠ 0 → ¬ seg W s p c j → ρ'.1 c j = ρ.1 c j) ∧ (∀ c, c ≠ 0 → c < 52 ∨ 59 < c → ρ'.1 c = ρ.1 c) ∧ (∀ j, j ≠ 118 → j ≠ 119 → j ≠ 120 → j ≠ 121 → ρ'.1 0 j = ρ.1 0 j)
theorem CoF.c2 {W : Wd} {s p : Nat} {σ σ' : cl_S} {ρ ρ' : rf_S} (hS : CoF W s p σ σ' ρ ρ') : σ'.2 = σ.2 := hS.1
theorem CoF.cI {W : Wd} {s p : Nat} {σ σ' : cl_S} {ρ ρ' : rf_S} (hS : CoF W s p σ σ' ρ ρ') : ∀ b, b < 84 + 135 * s + 12 * p ∨ 86 + 135 * s + 12 * p < b → σ'.1 b = σ.1 b := hS.2.1
theorem CoF.q2 {W : Wd} {s p : Nat} {σ σ' : cl_S} {ρ ρ' : rf_S} (hS : CoF W s p σ σ' ρ ρ') : ρ'.2 = ρ.2 := hS.2.2.1
theorem CoF.qI {W : Wd} {s p : Nat} {σ σ' : cl_S} {ρ ρ' : rf_S} (hS : CoF W s p σ σ' ρ ρ') : ∀ c j, c ≠ 0 → ¬ seg W s p c j → ρ'.1 c j = ρ.1 c j := hS.2.2.2.1
theorem CoF.qA {W : Wd} {s p : Nat} {σ σ' : cl_S} {ρ ρ' : rf_S} (hS : CoF W s p σ σ' ρ ρ') : ∀ c, c ≠ 0 → c < 52 ∨ 59 < c → ρ'.1 c = ρ.1 c := hS.2.2.2.2.1
theorem CoF.qf {W : Wd} {s p : Nat} {σ σ' : cl_S} {ρ ρ' : rf_S} (hS : CoF W s p σ σ' ρ ρ') : ∀ j, j ≠ 118 → j ≠ 119 → j ≠ 120 → j ≠ 121 → ρ'.1 0 j = ρ.1 0 j := hS.2.2.2.2.2
variable {W : Wd} {s p : Nat} {σ σ' : cl_S} {ρ ρ' : rf_S}
theorem CoF.refl : CoF W s p σ σ ρ ρ := ⟨rfl, fun _ _ => rfl, rfl, fun _ _ _ _ => rfl, fun _ _ _ => rfl, fun _ _ _ _ _ => rfl⟩
theorem CoF.trans {σ'' : cl_S} {ρ'' : rf_S} (h : CoF W s p σ σ' ρ ρ') (k : CoF W s p σ' σ'' ρ' ρ'') : CoF W s p σ σ'' ρ ρ'' :=
  ⟨k.c2.trans h.c2, fun b q => (k.cI b q).trans (h.cI b q), k.q2.trans h.q2, fun c j a b => (k.qI c j a b).trans (h.qI c j a b), fun c a b => (k.qA c a b).trans (h.qA c a b), fun j a b c d => (k.qf j a b c d).trans (h.qf j a b c d)⟩
theorem CoF.w {a k : Nat} {v : Int32} (ha : 84 + 135 * s + 12 * p ≤ a ∧ a ≤ 86 + 135 * s + 12 * p) : CoF W s p σ (cl_w σ a k v) ρ ρ := ⟨rfl, fun b q => r_w (by omega), rfl, fun _ _ _ _ => rfl, fun _ _ _ => rfl, fun _ _ _ _ _ => rfl⟩
theorem CoF.q {c j : Nat} {v : Int32} (hs : seg W s p c j) (hc : 51 < c ∧ c < 60) : CoF W s p σ σ ρ (rf_w ρ c j v) := by
  refine ⟨rfl, fun _ _ => rfl, rfl, fun c' j' h1 h2 => ?_, fun c' h1 h2 => q_w (by omega), fun j' _ _ _ _ => by rw [q_w (by omega)]⟩
  rw [g_q, if_neg]
  rintro ⟨rfl, rfl⟩
  exact h2 hs
theorem CoF.f {j : Nat} {v : Int32} (hj : j = 118 ∨ j = 119 ∨ j = 120 ∨ j = 121) : CoF W s p σ σ ρ (rf_w ρ 0 j v) :=
  ⟨rfl, fun _ _ => rfl, rfl, fun c' j' h1 h2 => by rw [q_w h1], fun c' h1 h2 => q_w h1, fun j' _ _ _ _ => q_wk (by omega)⟩
/-- a field of the core -/
def cfl (f : Nat) : Nat := if f = 3 then 54 else if f = 4 then 58 else if f = 5 then 56 else if f = 6 then 57 else if f = 7 then 55 else 59
theorem Ctx.fl {f : Nat} (h : Ctx W s p σ ρ) (hf : 2 < f ∧ f < 9) (v : Int32) : Ctx W s p (cl_w σ (84 + 135 * s + 12 * p) f v) (rf_w ρ (cfl f) (8 * s + p) v) ∧ CoF W s p σ (cl_w σ (84 + 135 * s + 12 * p) f v) ρ (rf_w ρ (cfl f) (8 * s + p) v) := by
  have hc : 53 < cfl f ∧ cfl f < 60 := by
    have hf' : f = 3 ∨ f = 4 ∨ f = 5 ∨ f = 6 ∨ f = 7 ∨ f = 8 := by omega
    rcases hf' with rfl | rfl | rfl | rfl | rfl | rfl <;> decide
  refine ⟨?_, (CoF.w ⟨by omega, by omega⟩).trans (CoF.q (.co _ hc.1 hc.2) (by omega))⟩
  obtain ⟨co, sd, me, at', gd, rz, bd⟩ := h
  have e0 : ∀ j, (rf_w ρ (cfl f) (8 * s + p) v).1 0 j = ρ.1 0 j := fun j => by rw [q_w (by omega)]
  refine ⟨?_, by rw [e0]; exact sd, by rw [e0]; exact me, by rw [e0]; exact at', by rw [e0]; exact gd, by rw [q_w (by omega)]; exact rz, bd⟩
  have hf' : f = 3 ∨ f = 4 ∨ f = 5 ∨ f = 6 ∨ f = 7 ∨ f = 8 := by omega
  refine ⟨?_, ?_, ?_, ?_, ?_, ?_, ?_, ?_, ?_, ?_⟩
  · rw [r_w (by omega)]; exact co.ix
  · rw [r_wk (by omega)]; exact co.sz
  · rcases hf' with rfl | rfl | rfl | rfl | rfl | rfl <;> simp only [cfl, g_w, g_q, true_and, false_and, and_false, if_true, if_false, Nat.reduceEqDiff, co.pc]
  · rcases hf' with rfl | rfl | rfl | rfl | rfl | rfl <;> simp only [cfl, g_w, g_q, true_and, false_and, and_false, if_true, if_false, Nat.reduceEqDiff, co.hd]
  · rcases hf' with rfl | rfl | rfl | rfl | rfl | rfl <;> simp only [cfl, g_w, g_q, true_and, false_and, and_false, if_true, if_false, Nat.reduceEqDiff, co.ca]
  · rcases hf' with rfl | rfl | rfl | rfl | rfl | rfl <;> simp only [cfl, g_w, g_q, true_and, false_and, and_false, if_true, if_false, Nat.reduceEqDiff, co.wh]
  · rcases hf' with rfl | rfl | rfl | rfl | rfl | rfl <;> simp only [cfl, g_w, g_q, true_and, false_and, and_false, if_true, if_false, Nat.reduceEqDiff, co.ha]
  · rcases hf' with rfl | rfl | rfl | rfl | rfl | rfl <;> simp only [cfl, g_w, g_q, true_and, false_and, and_false, if_true, if_false, Nat.reduceEqDiff, co.ih]
  · intro r hr; rw [r_w (by omega), q_w (by omega)]; exact co.rg r hr
  · intro i hi; rw [r_w (by omega), q_w (by omega)]; exact co.me i hi
theorem Ctx.rg {r : Nat} (h : Ctx W s p σ ρ) (hr : r < 16) (v : Int32) : Ctx W s p (cl_w σ (86 + 135 * s + 12 * p) r v) (rf_w ρ 53 (16 * (8 * s + p) + r) v) ∧ CoF W s p σ (cl_w σ (86 + 135 * s + 12 * p) r v) ρ (rf_w ρ 53 (16 * (8 * s + p) + r) v) := by
  refine ⟨?_, (CoF.w ⟨by omega, by omega⟩).trans (CoF.q (.rg _ hr) (by omega))⟩
  obtain ⟨co, sd, me, at', gd, rz, bd⟩ := h
  have e0 : ∀ j, (rf_w ρ 53 (16 * (8 * s + p) + r) v).1 0 j = ρ.1 0 j := fun j => by rw [q_w (by omega)]
  refine ⟨?_, by rw [e0]; exact sd, by rw [e0]; exact me, by rw [e0]; exact at', by rw [e0]; exact gd, by rw [q_w (by omega)]; exact rz, bd⟩
  refine ⟨?_, ?_, ?_, ?_, ?_, ?_, ?_, ?_, ?_, ?_⟩
  · rw [r_w (by omega)]; exact co.ix
  · rw [r_w (by omega)]; exact co.sz
  · rw [r_w (by omega), q_w (by omega)]; exact co.pc
  · rw [r_w (by omega), q_w (by omega)]; exact co.hd
  · rw [r_w (by omega), q_w (by omega)]; exact co.ca
  · rw [r_w (by omega), q_w (by omega)]; exact co.wh
  · rw [r_w (by omega), q_w (by omega)]; exact co.ha
  · rw [r_w (by omega), q_w (by omega)]; exact co.ih
  · intro i hi
    by_cases q : i = r
    · subst q; rw [r_ws, q_ws]
    · rw [r_wk q, q_wk (by omega)]; exact co.rg i hi
  · intro i hi; rw [r_w (by omega), q_w (by omega)]; exact co.me i hi
theorem Ctx.mw {i : Nat} (h : Ctx W s p σ ρ) (hi : i < W.sz p) (v : Int32) : Ctx W s p (cl_w σ (85 + 135 * s + 12 * p) i v) (rf_w ρ 52 (8192 * s + W.bs p + i) v) ∧ CoF W s p σ (cl_w σ (85 + 135 * s + 12 * p) i v) ρ (rf_w ρ 52 (8192 * s + W.bs p + i) v) := by
  refine ⟨?_, (CoF.w ⟨by omega, by omega⟩).trans (CoF.q (.me _ hi) (by omega))⟩
  obtain ⟨co, sd, me, at', gd, rz, bd⟩ := h
  have e0 : ∀ j, (rf_w ρ 52 (8192 * s + W.bs p + i) v).1 0 j = ρ.1 0 j := fun j => by rw [q_w (by omega)]
  refine ⟨?_, by rw [e0]; exact sd, by rw [e0]; exact me, by rw [e0]; exact at', by rw [e0]; exact gd, by rw [q_w (by omega)]; exact rz, bd⟩
  refine ⟨?_, ?_, ?_, ?_, ?_, ?_, ?_, ?_, ?_, ?_⟩
  · rw [r_w (by omega)]; exact co.ix
  · rw [r_w (by omega)]; exact co.sz
  · rw [r_w (by omega), q_w (by omega)]; exact co.pc
  · rw [r_w (by omega), q_w (by omega)]; exact co.hd
  · rw [r_w (by omega), q_w (by omega)]; exact co.ca
  · rw [r_w (by omega), q_w (by omega)]; exact co.wh
  · rw [r_w (by omega), q_w (by omega)]; exact co.ha
  · rw [r_w (by omega), q_w (by omega)]; exact co.ih
  · intro r hr; rw [r_w (by omega), q_w (by omega)]; exact co.rg r hr
  · intro j hj
    by_cases q : j = i
    · subst q; rw [r_ws, q_ws]
    · rw [r_wk q, q_wk (by omega)]; exact co.me j hj
theorem Ctx.f {j : Nat} (h : Ctx W s p σ ρ) (hj : j = 121) (v : Int32) : Ctx W s p σ (rf_w ρ 0 j v) ∧ CoF W s p σ σ ρ (rf_w ρ 0 j v) := by
  subst hj
  refine ⟨?_, CoF.f (by omega)⟩
  obtain ⟨co, sd, me, at', gd, rz, bd⟩ := h
  have e0 : ∀ i, i ≠ 121 → (rf_w ρ 0 121 v).1 0 i = ρ.1 0 i := fun i hi => q_wk hi
  have e1 : ∀ c, c ≠ 0 → (rf_w ρ 0 121 v).1 c = ρ.1 c := fun c hc => q_w hc
  refine ⟨co.fr rfl rfl rfl rfl rfl rfl (fun c _ _ => by rw [e1 c (by omega)]) (fun r _ => by rw [e1 53 (by omega)]) (fun i _ => by rw [e1 52 (by omega)]), by rw [e0 _ (by omega)]; exact sd, by rw [e0 _ (by omega)]; exact me, by rw [e0 _ (by omega)]; exact at', by rw [e0 _ (by omega)]; exact gd, by rw [e1 29 (by omega)]; exact rz, bd⟩
/-- the outcome of a step of the core -/
def CoO (W : Wd) (s p : Nat) (σ : cl_S) (ρ : rf_S) : cl_S → rf_S → Prop := fun σ' ρ' => Ctx W s p σ' ρ' ∧ CoF W s p σ σ' ρ ρ'
theorem c_trap (h : Ctx W s p σ ρ) (v : Int32) : Sim (fc_X2_trap (84 + 135 * s + 12 * p) v σ) (fq_trap v ρ) (CoO W s p σ ρ) := by
  have hA : 8 * s + p < 16 := by have := h.bd; omega
  have i16 : ∀ {α : Type} (x : Option α), ix (nI (8 * s + p)) 16 x = x := fun x => n_ix hA (by omega)
  have cl : (nI (8 * s + p)).toNatClampNeg = 8 * s + p := n_cl (by omega)
  have h1 := h.fl (f := 5) (by omega) v
  have h2 := h1.1.fl (f := 6) (by omega) (ρ.1 54 (8 * s + p))
  have a1 : (rf_w ρ 56 (8 * s + p) v).1 0 119 = nI (8 * s + p) := h1.1.at'
  have a2 : (rf_w (rf_w ρ 56 (8 * s + p) v) 57 (8 * s + p) (ρ.1 54 (8 * s + p))).1 0 119 = nI (8 * s + p) := h2.1.at'
  have b1 : (cl_w σ (84 + 135 * s + 12 * p) 5 v).1 (84 + 135 * s + 12 * p) 3 = ρ.1 54 (8 * s + p) := by rw [r_wk (by decide)]; exact h.co.pc
  have b2 : (rf_w ρ 56 (8 * s + p) v).1 54 (8 * s + p) = ρ.1 54 (8 * s + p) := by rw [q_w (by decide)]
  unfold fc_X2_trap bc_X2_trap_0 bc_X2_trap_27 fq_trap bq_trap_0 bq_trap_52
  simp only [vl_eq, h.at', i16, cl, a1, b1, b2, a2, nar_1]
  have f1 := h2.1.co.hd
  have f2 := h2.1.co.ih
  have e5 : cfl 5 = 56 := rfl
  have e6 : cfl 6 = 57 := rfl
  rw [e5, e6] at h2 f1 f2
  rw [e5] at h1
  refine Sim.ite (by rw [f1]) (fun _ _ => ?_) (fun _ _ => ?_)
  · have h3 := h2.1.fl (f := 7) (by omega) 1
    exact Sim.mk ⟨h3.1, (h1.2.trans h2.2).trans h3.2⟩
  · refine Sim.ite (by rw [f2]) (fun _ _ => ?_) (fun _ _ => ?_)
    · have h3 := h2.1.fl (f := 3) (by omega) ((cl_w (cl_w σ (84 + 135 * s + 12 * p) 5 v) (84 + 135 * s + 12 * p) 6 (ρ.1 54 (8 * s + p))).1 (84 + 135 * s + 12 * p) 4)
      have a3 := h3.1.at'
      have e3 : cfl 3 = 54 := rfl
      rw [e3] at h3 a3
      rw [f1] at h3 a3
      rw [f1, a3, i16, cl]
      have h4 := h3.1.fl (f := 8) (by omega) 1
      exact Sim.mk ⟨h4.1, ((h1.2.trans h2.2).trans h3.2).trans h4.2⟩
    · have h3 := h2.1.fl (f := 7) (by omega) 1
      exact Sim.mk ⟨h3.1, (h1.2.trans h2.2).trans h3.2⟩
theorem c_write {d : Nat} (h : Ctx W s p σ ρ) (hd : d < 16) (v : Int32) : ∃ σ' ρ', fc_X2_write (84 + 135 * s + 12 * p) (nI d) v σ = some σ' ∧ fq_give (nI d) v ρ = some ρ' ∧ Ctx W s p σ' ρ' ∧ CoF W s p σ σ' ρ ρ' ∧ σ'.1 (84 + 135 * s + 12 * p) = σ.1 (84 + 135 * s + 12 * p) ∧ ρ'.1 0 121 = ρ.1 0 121 := by
  have hA := h.bd
  unfold fc_X2_write bc_X2_write_0 fq_give bq_give_0
  by_cases q : d = 0
  · subst q
    rw [if_pos (show nI 0 = 0 from rfl), if_pos (show nI 0 = 0 from rfl)]
    exact ⟨σ, ρ, rfl, rfl, h, CoF.refl, rfl, rfl⟩
  · have q' : ¬ nI d = 0 := by rw [i32_0, n_eq (by omega) (by omega)]; exact q
    have k1 : (16:Int32) * nI (8 * s + p) + nI d = nI (16 * (8 * s + p) + d) := by rw [li, n_mul, n_add]
    rw [if_neg q', if_neg q', h.at', k1, n_ix hd (by omega), n_ix (show 16 * (8 * s + p) + d < 256 by omega) (by omega), n_cl (by omega), n_cl (by omega)]
    have h1 := h.rg hd v
    refine ⟨_, _, rfl, rfl, ?_, ?_, ?_, ?_⟩
    · have := h1.1; rw [show 86 + 135 * s + 12 * p = 84 + 135 * s + 12 * p + 2 by omega] at this; exact this
    · have := h1.2; rw [show 86 + 135 * s + 12 * p = 84 + 135 * s + 12 * p + 2 by omega] at this; exact this
    · exact r_w (by omega)
    · rw [q_w (by omega)]
theorem c_reg {d : Nat} (h : Ctx W s p σ ρ) (hd : d < 16) : fq_reg (nI d) ρ = some (σ.1 (84 + 135 * s + 12 * p + 2) d, ρ) := by
  have hA := h.bd
  unfold fq_reg bq_reg_0
  have k1 : (16:Int32) * nI (8 * s + p) + nI d = nI (16 * (8 * s + p) + d) := by rw [li, n_mul, n_add]
  rw [h.at', k1, n_ix (show 16 * (8 * s + p) + d < 256 by omega) (by omega), n_cl (by omega), ← h.co.rg d hd, show 86 + 135 * s + 12 * p = 84 + 135 * s + 12 * p + 2 by omega]
theorem c_522 (h : Ctx W s p σ ρ) : bq_step_522 ρ = some (rf_w ρ 54 (8 * s + p) (ρ.1 0 121)) := by
  have hA := h.bd
  unfold bq_step_522
  rw [h.at', n_ix (show 8 * s + p < 16 by omega) (by omega), n_cl (by omega), vl_eq]
end Z2_C
