section Z2_LK
variable {K : Bd} {W W' : Wd} {b : Bool} {k s p : Nat} {σ σ' : cl_S} {ρ ρ' : rf_S}
/-! LAYER 2: the dispatch of the asks -/
theorem w_o {x : Option (Int32 × cl_S)} {y : Option (Int32 × rf_S)} (h : Sim x y (AkO K W b k s p ρ)) : Sim x y (AkS K W b k s p ρ) := h.imp (fun _ _ q => Or.inl q)
theorem w_l {P : Int32 × cl_S → Int32 × rf_S → Prop} {x : Option (Int32 × cl_S)} {y : Option (Int32 × rf_S)} (h : Sim x y P) : Sim (bd2 x (fun r σ => some (r, σ))) y P := by
  obtain ⟨u, w, rfl, rfl, o⟩ := h
  exact ⟨u, w, rfl, rfl, o⟩
theorem w_r {P : Int32 × cl_S → Int32 × rf_S → Prop} {x : Option (Int32 × cl_S)} {y : Option (Int32 × rf_S)} (h : Sim x y P) : Sim x (bd2 y (fun r σ => some (r, σ))) P := by
  obtain ⟨u, w, rfl, rfl, o⟩ := h
  exact ⟨u, w, rfl, rfl, o⟩
noncomputable def q_ans (m x y : Int32) (ρ : rf_S) : Option (Int32 × rf_S) := if (13:Int32) ≤ m then (if (29:Int32) ≤ m then fq_askSealed m x y ρ else fq_askTerms m x y ρ) else fq_askMachine m x y ρ
theorem ix1 {α : Type} (x : Option α) : ix (1:Int32) 16 x = x := n_ix (a := 1) (n := 16) (by omega) (by omega)
theorem c_ans (h : Ak K W b k s p σ ρ) {r : Option Nat} (er : fc_X8_at (92 + 135 * s + 12 * p) (σ.1 (86 + 135 * s + 12 * p) 1) σ = some (r, σ)) (m : Int32) {y : Option (Int32 × rf_S)} {P : Int32 × cl_S → Int32 × rf_S → Prop} {F : Option Nat → cl_S → Option (Int32 × cl_S)} (e : fc_X5_answer (47 + 132 * s) (some (83 + 135 * s + 12 * p)) m σ = bd2 (fc_X8_at (92 + 135 * s + 12 * p) (σ.1 (86 + 135 * s + 12 * p) 1) σ) F) (q : Sim (F r σ) y P) : Sim (fc_X5_answer (47 + 132 * s) (some (83 + 135 * s + 12 * p)) m σ) y P := by
  rw [e, er, bd2n]; exact q
theorem a_83 : 83 + 135 * s + 12 * p + 9 = 92 + 135 * s + 12 * p ∧ 83 + 135 * s + 12 * p + 1 = 84 + 135 * s + 12 * p ∧ 83 + 135 * s + 12 * p + 1 + 2 = 86 + 135 * s + 12 * p := by omega
theorem ans_0 (v : KV K) (h : Ak K W b k s p σ ρ) : Sim (fc_X5_answer (47 + 132 * s) (some (83 + 135 * s + 12 * p)) (0:Int32) σ) (q_ans (0:Int32) (σ.1 (86 + 135 * s + 12 * p) 1) (σ.1 (86 + 135 * s + 12 * p) 2) ρ) (AkS K W b k s p ρ) := by
  have s2 := h.s2
  have p8 := h.p8
  have e33 := h.R.T.C.tms.2.2.1
  have z1 : ¬ (1:Int32) = 0 := by decide
  have b3 := (a_83 (s := s) (p := p))
  obtain ⟨r, er⟩ : ∃ r, fc_X8_at (92 + 135 * s + 12 * p) (σ.1 (86 + 135 * s + 12 * p) 1) σ = some (r, σ) := by
    rcases h.hnd (σ.1 (86 + 135 * s + 12 * p) 1) with ⟨t, ht, -, -, f3, -⟩ | ⟨-, -, f3⟩
    · exact ⟨_, f3⟩
    · exact ⟨_, f3⟩
  unfold fc_X5_answer bc_X5_answer_0 q_ans
  rw [nnn, ix1, vln, show (1:Int32).toNatClampNeg = 1 from rfl, b3.1, b3.2.2, b3.2.1]
  rw [er, bd2n]
  rw [if_pos (show (0:Int32) = (0:Int32) from rfl)]
  unfold fq_askMachine bq_askMachine_0
  rw [if_neg (show ¬ (13:Int32) ≤ (0:Int32) by decide), if_pos (show (0:Int32) = (0:Int32) from rfl)]
  obtain ⟨σ', ρ', e1, e2, h', kp⟩ := ask_yield h
  rw [e1, bd2n, h.sd, n_ix s2 (by omega), n_cl (show s < 2147483648 by omega), nar_1, vln, ← e2]
  exact Sim.mk (Or.inl ⟨rfl, W, Wd.le.refl W, h', kp⟩)
theorem ans_1 (v : KV K) (h : Ak K W b k s p σ ρ) : Sim (fc_X5_answer (47 + 132 * s) (some (83 + 135 * s + 12 * p)) (1:Int32) σ) (q_ans (1:Int32) (σ.1 (86 + 135 * s + 12 * p) 1) (σ.1 (86 + 135 * s + 12 * p) 2) ρ) (AkS K W b k s p ρ) := by
  have s2 := h.s2
  have p8 := h.p8
  have e33 := h.R.T.C.tms.2.2.1
  have z1 : ¬ (1:Int32) = 0 := by decide
  have b3 := (a_83 (s := s) (p := p))
  obtain ⟨r, er⟩ : ∃ r, fc_X8_at (92 + 135 * s + 12 * p) (σ.1 (86 + 135 * s + 12 * p) 1) σ = some (r, σ) := by
    rcases h.hnd (σ.1 (86 + 135 * s + 12 * p) 1) with ⟨t, ht, -, -, f3, -⟩ | ⟨-, -, f3⟩
    · exact ⟨_, f3⟩
    · exact ⟨_, f3⟩
  unfold fc_X5_answer bc_X5_answer_0 q_ans
  rw [nnn, ix1, vln, show (1:Int32).toNatClampNeg = 1 from rfl, b3.1, b3.2.2, b3.2.1]
  rw [er, bd2n]
  rw [if_neg (show ¬ (1:Int32) = (0:Int32) by decide), if_pos (show (1:Int32) = (1:Int32) from rfl)]
  unfold fq_askMachine bq_askMachine_0
  rw [if_neg (show ¬ (13:Int32) ≤ (1:Int32) by decide), if_neg (show ¬ (1:Int32) = (0:Int32) by decide), if_pos (show (1:Int32) = (1:Int32) from rfl)]
  exact w_o (w_l (ask_handler h _))
theorem ans_2 (v : KV K) (h : Ak K W b k s p σ ρ) : Sim (fc_X5_answer (47 + 132 * s) (some (83 + 135 * s + 12 * p)) (2:Int32) σ) (q_ans (2:Int32) (σ.1 (86 + 135 * s + 12 * p) 1) (σ.1 (86 + 135 * s + 12 * p) 2) ρ) (AkS K W b k s p ρ) := by
  have s2 := h.s2
  have p8 := h.p8
  have e33 := h.R.T.C.tms.2.2.1
  have z1 : ¬ (1:Int32) = 0 := by decide
  have b3 := (a_83 (s := s) (p := p))
  obtain ⟨r, er⟩ : ∃ r, fc_X8_at (92 + 135 * s + 12 * p) (σ.1 (86 + 135 * s + 12 * p) 1) σ = some (r, σ) := by
    rcases h.hnd (σ.1 (86 + 135 * s + 12 * p) 1) with ⟨t, ht, -, -, f3, -⟩ | ⟨-, -, f3⟩
    · exact ⟨_, f3⟩
    · exact ⟨_, f3⟩
  unfold fc_X5_answer bc_X5_answer_0 q_ans
  rw [nnn, ix1, vln, show (1:Int32).toNatClampNeg = 1 from rfl, b3.1, b3.2.2, b3.2.1]
  rw [er, bd2n]
  rw [if_neg (show ¬ (2:Int32) = (0:Int32) by decide), if_neg (show ¬ (2:Int32) = (1:Int32) by decide), if_pos (show (2:Int32) = (2:Int32) from rfl)]
  unfold fq_askMachine bq_askMachine_0
  rw [if_neg (show ¬ (13:Int32) ≤ (2:Int32) by decide), if_neg (show ¬ (2:Int32) = (0:Int32) by decide), if_neg (show ¬ (2:Int32) = (1:Int32) by decide), if_pos (show (2:Int32) = (2:Int32) from rfl)]
  rw [h.at', n_ix (show 8 * s + p < 16 by omega) (by omega), n_cl (show 8 * s + p < 2147483648 by omega), h.P.co.ca]
  exact Sim.mk (Or.inl (AkO.same h _))
theorem ans_3 (v : KV K) (h : Ak K W b k s p σ ρ) : Sim (fc_X5_answer (47 + 132 * s) (some (83 + 135 * s + 12 * p)) (3:Int32) σ) (q_ans (3:Int32) (σ.1 (86 + 135 * s + 12 * p) 1) (σ.1 (86 + 135 * s + 12 * p) 2) ρ) (AkS K W b k s p ρ) := by
  have s2 := h.s2
  have p8 := h.p8
  have e33 := h.R.T.C.tms.2.2.1
  have z1 : ¬ (1:Int32) = 0 := by decide
  have b3 := (a_83 (s := s) (p := p))
  obtain ⟨r, er⟩ : ∃ r, fc_X8_at (92 + 135 * s + 12 * p) (σ.1 (86 + 135 * s + 12 * p) 1) σ = some (r, σ) := by
    rcases h.hnd (σ.1 (86 + 135 * s + 12 * p) 1) with ⟨t, ht, -, -, f3, -⟩ | ⟨-, -, f3⟩
    · exact ⟨_, f3⟩
    · exact ⟨_, f3⟩
  unfold fc_X5_answer bc_X5_answer_0 q_ans
  rw [nnn, ix1, vln, show (1:Int32).toNatClampNeg = 1 from rfl, b3.1, b3.2.2, b3.2.1]
  rw [er, bd2n]
  rw [if_neg (show ¬ (3:Int32) = (0:Int32) by decide), if_neg (show ¬ (3:Int32) = (1:Int32) by decide), if_neg (show ¬ (3:Int32) = (2:Int32) by decide), if_pos (show (3:Int32) = (3:Int32) from rfl)]
  unfold fq_askMachine bq_askMachine_0
  rw [if_neg (show ¬ (13:Int32) ≤ (3:Int32) by decide), if_neg (show ¬ (3:Int32) = (0:Int32) by decide), if_neg (show ¬ (3:Int32) = (1:Int32) by decide), if_neg (show ¬ (3:Int32) = (2:Int32) by decide), if_pos (show (3:Int32) = (3:Int32) from rfl)]
  rw [h.at', n_ix (show 8 * s + p < 16 by omega) (by omega), n_cl (show 8 * s + p < 2147483648 by omega), h.P.co.wh]
  exact Sim.mk (Or.inl (AkO.same h _))
theorem ans_4 (v : KV K) (h : Ak K W b k s p σ ρ) : Sim (fc_X5_answer (47 + 132 * s) (some (83 + 135 * s + 12 * p)) (4:Int32) σ) (q_ans (4:Int32) (σ.1 (86 + 135 * s + 12 * p) 1) (σ.1 (86 + 135 * s + 12 * p) 2) ρ) (AkS K W b k s p ρ) := by
  have s2 := h.s2
  have p8 := h.p8
  have e33 := h.R.T.C.tms.2.2.1
  have z1 : ¬ (1:Int32) = 0 := by decide
  have b3 := (a_83 (s := s) (p := p))
  obtain ⟨r, er⟩ : ∃ r, fc_X8_at (92 + 135 * s + 12 * p) (σ.1 (86 + 135 * s + 12 * p) 1) σ = some (r, σ) := by
    rcases h.hnd (σ.1 (86 + 135 * s + 12 * p) 1) with ⟨t, ht, -, -, f3, -⟩ | ⟨-, -, f3⟩
    · exact ⟨_, f3⟩
    · exact ⟨_, f3⟩
  unfold fc_X5_answer bc_X5_answer_0 q_ans
  rw [nnn, ix1, vln, show (1:Int32).toNatClampNeg = 1 from rfl, b3.1, b3.2.2, b3.2.1]
  rw [er, bd2n]
  rw [if_neg (show ¬ (4:Int32) = (0:Int32) by decide), if_neg (show ¬ (4:Int32) = (1:Int32) by decide), if_neg (show ¬ (4:Int32) = (2:Int32) by decide), if_neg (show ¬ (4:Int32) = (3:Int32) by decide), if_pos (show (4:Int32) = (4:Int32) from rfl)]
  unfold fq_askMachine bq_askMachine_0
  rw [if_neg (show ¬ (13:Int32) ≤ (4:Int32) by decide), if_neg (show ¬ (4:Int32) = (0:Int32) by decide), if_neg (show ¬ (4:Int32) = (1:Int32) by decide), if_neg (show ¬ (4:Int32) = (2:Int32) by decide), if_neg (show ¬ (4:Int32) = (3:Int32) by decide), if_pos (show (4:Int32) = (4:Int32) from rfl)]
  obtain ⟨t, ht, t1, t2⟩ := h.M.tk
  rw [h.sd, n_ix s2 (by omega), n_cl (show s < 2147483648 by omega), t1, t2]
  exact Sim.mk (Or.inl (AkO.same h _))
theorem ans_5 (v : KV K) (h : Ak K W b k s p σ ρ) : Sim (fc_X5_answer (47 + 132 * s) (some (83 + 135 * s + 12 * p)) (5:Int32) σ) (q_ans (5:Int32) (σ.1 (86 + 135 * s + 12 * p) 1) (σ.1 (86 + 135 * s + 12 * p) 2) ρ) (AkS K W b k s p ρ) := by
  have s2 := h.s2
  have p8 := h.p8
  have e33 := h.R.T.C.tms.2.2.1
  have z1 : ¬ (1:Int32) = 0 := by decide
  have b3 := (a_83 (s := s) (p := p))
  obtain ⟨r, er⟩ : ∃ r, fc_X8_at (92 + 135 * s + 12 * p) (σ.1 (86 + 135 * s + 12 * p) 1) σ = some (r, σ) := by
    rcases h.hnd (σ.1 (86 + 135 * s + 12 * p) 1) with ⟨t, ht, -, -, f3, -⟩ | ⟨-, -, f3⟩
    · exact ⟨_, f3⟩
    · exact ⟨_, f3⟩
  unfold fc_X5_answer bc_X5_answer_0 q_ans
  rw [nnn, ix1, vln, show (1:Int32).toNatClampNeg = 1 from rfl, b3.1, b3.2.2, b3.2.1]
  rw [er, bd2n]
  rw [if_neg (show ¬ (5:Int32) = (0:Int32) by decide), if_neg (show ¬ (5:Int32) = (1:Int32) by decide), if_neg (show ¬ (5:Int32) = (2:Int32) by decide), if_neg (show ¬ (5:Int32) = (3:Int32) by decide), if_neg (show ¬ (5:Int32) = (4:Int32) by decide), if_pos (show (5:Int32) = (5:Int32) from rfl)]
  unfold fq_askMachine bq_askMachine_0
  rw [if_neg (show ¬ (13:Int32) ≤ (5:Int32) by decide), if_neg (show ¬ (5:Int32) = (0:Int32) by decide), if_neg (show ¬ (5:Int32) = (1:Int32) by decide), if_neg (show ¬ (5:Int32) = (2:Int32) by decide), if_neg (show ¬ (5:Int32) = (3:Int32) by decide), if_neg (show ¬ (5:Int32) = (4:Int32) by decide), if_pos (show (5:Int32) = (5:Int32) from rfl)]
  exact w_o (w_l (w_r (ask_word h)))
theorem ans_6 (v : KV K) (h : Ak K W b k s p σ ρ) : Sim (fc_X5_answer (47 + 132 * s) (some (83 + 135 * s + 12 * p)) (6:Int32) σ) (q_ans (6:Int32) (σ.1 (86 + 135 * s + 12 * p) 1) (σ.1 (86 + 135 * s + 12 * p) 2) ρ) (AkS K W b k s p ρ) := by
  have s2 := h.s2
  have p8 := h.p8
  have e33 := h.R.T.C.tms.2.2.1
  have z1 : ¬ (1:Int32) = 0 := by decide
  have b3 := (a_83 (s := s) (p := p))
  obtain ⟨r, er⟩ : ∃ r, fc_X8_at (92 + 135 * s + 12 * p) (σ.1 (86 + 135 * s + 12 * p) 1) σ = some (r, σ) := by
    rcases h.hnd (σ.1 (86 + 135 * s + 12 * p) 1) with ⟨t, ht, -, -, f3, -⟩ | ⟨-, -, f3⟩
    · exact ⟨_, f3⟩
    · exact ⟨_, f3⟩
  unfold fc_X5_answer bc_X5_answer_0 q_ans
  rw [nnn, ix1, vln, show (1:Int32).toNatClampNeg = 1 from rfl, b3.1, b3.2.2, b3.2.1]
  rw [er, bd2n]
  rw [if_neg (show ¬ (6:Int32) = (0:Int32) by decide), if_neg (show ¬ (6:Int32) = (1:Int32) by decide), if_neg (show ¬ (6:Int32) = (2:Int32) by decide), if_neg (show ¬ (6:Int32) = (3:Int32) by decide), if_neg (show ¬ (6:Int32) = (4:Int32) by decide), if_neg (show ¬ (6:Int32) = (5:Int32) by decide), if_pos (show (6:Int32) = (6:Int32) from rfl)]
  unfold fq_askMachine bq_askMachine_0
  rw [if_neg (show ¬ (13:Int32) ≤ (6:Int32) by decide), if_neg (show ¬ (6:Int32) = (0:Int32) by decide), if_neg (show ¬ (6:Int32) = (1:Int32) by decide), if_neg (show ¬ (6:Int32) = (2:Int32) by decide), if_neg (show ¬ (6:Int32) = (3:Int32) by decide), if_neg (show ¬ (6:Int32) = (4:Int32) by decide), if_neg (show ¬ (6:Int32) = (5:Int32) by decide), if_pos (show (6:Int32) = (6:Int32) from rfl)]
  rw [vln, e33]
  exact w_o (w_l (w_r (ask_out h _)))
theorem ans_7 (v : KV K) (h : Ak K W b k s p σ ρ) : Sim (fc_X5_answer (47 + 132 * s) (some (83 + 135 * s + 12 * p)) (7:Int32) σ) (q_ans (7:Int32) (σ.1 (86 + 135 * s + 12 * p) 1) (σ.1 (86 + 135 * s + 12 * p) 2) ρ) (AkS K W b k s p ρ) := by
  have s2 := h.s2
  have p8 := h.p8
  have e33 := h.R.T.C.tms.2.2.1
  have z1 : ¬ (1:Int32) = 0 := by decide
  have b3 := (a_83 (s := s) (p := p))
  obtain ⟨r, er⟩ : ∃ r, fc_X8_at (92 + 135 * s + 12 * p) (σ.1 (86 + 135 * s + 12 * p) 1) σ = some (r, σ) := by
    rcases h.hnd (σ.1 (86 + 135 * s + 12 * p) 1) with ⟨t, ht, -, -, f3, -⟩ | ⟨-, -, f3⟩
    · exact ⟨_, f3⟩
    · exact ⟨_, f3⟩
  unfold fc_X5_answer bc_X5_answer_0 q_ans
  rw [nnn, ix1, vln, show (1:Int32).toNatClampNeg = 1 from rfl, b3.1, b3.2.2, b3.2.1]
  rw [er, bd2n]
  rw [if_neg (show ¬ (7:Int32) = (0:Int32) by decide), if_neg (show ¬ (7:Int32) = (1:Int32) by decide), if_neg (show ¬ (7:Int32) = (2:Int32) by decide), if_neg (show ¬ (7:Int32) = (3:Int32) by decide), if_neg (show ¬ (7:Int32) = (4:Int32) by decide), if_neg (show ¬ (7:Int32) = (5:Int32) by decide), if_neg (show ¬ (7:Int32) = (6:Int32) by decide), if_pos (show (7:Int32) = (7:Int32) from rfl)]
  unfold fq_askMachine bq_askMachine_0
  rw [if_neg (show ¬ (13:Int32) ≤ (7:Int32) by decide), if_neg (show ¬ (7:Int32) = (0:Int32) by decide), if_neg (show ¬ (7:Int32) = (1:Int32) by decide), if_neg (show ¬ (7:Int32) = (2:Int32) by decide), if_neg (show ¬ (7:Int32) = (3:Int32) by decide), if_neg (show ¬ (7:Int32) = (4:Int32) by decide), if_neg (show ¬ (7:Int32) = (5:Int32) by decide), if_neg (show ¬ (7:Int32) = (6:Int32) by decide), if_pos (show (7:Int32) = (7:Int32) from rfl)]
  exact w_o (w_l (w_r (ask_send h _)))
theorem ans_8 (v : KV K) (h : Ak K W b k s p σ ρ) : Sim (fc_X5_answer (47 + 132 * s) (some (83 + 135 * s + 12 * p)) (8:Int32) σ) (q_ans (8:Int32) (σ.1 (86 + 135 * s + 12 * p) 1) (σ.1 (86 + 135 * s + 12 * p) 2) ρ) (AkS K W b k s p ρ) := by
  have s2 := h.s2
  have p8 := h.p8
  have e33 := h.R.T.C.tms.2.2.1
  have z1 : ¬ (1:Int32) = 0 := by decide
  have b3 := (a_83 (s := s) (p := p))
  obtain ⟨r, er⟩ : ∃ r, fc_X8_at (92 + 135 * s + 12 * p) (σ.1 (86 + 135 * s + 12 * p) 1) σ = some (r, σ) := by
    rcases h.hnd (σ.1 (86 + 135 * s + 12 * p) 1) with ⟨t, ht, -, -, f3, -⟩ | ⟨-, -, f3⟩
    · exact ⟨_, f3⟩
    · exact ⟨_, f3⟩
  unfold fc_X5_answer bc_X5_answer_0 q_ans
  rw [nnn, ix1, vln, show (1:Int32).toNatClampNeg = 1 from rfl, b3.1, b3.2.2, b3.2.1]
  rw [er, bd2n]
  rw [if_neg (show ¬ (8:Int32) = (0:Int32) by decide), if_neg (show ¬ (8:Int32) = (1:Int32) by decide), if_neg (show ¬ (8:Int32) = (2:Int32) by decide), if_neg (show ¬ (8:Int32) = (3:Int32) by decide), if_neg (show ¬ (8:Int32) = (4:Int32) by decide), if_neg (show ¬ (8:Int32) = (5:Int32) by decide), if_neg (show ¬ (8:Int32) = (6:Int32) by decide), if_neg (show ¬ (8:Int32) = (7:Int32) by decide), if_pos (show (8:Int32) = (8:Int32) from rfl)]
  unfold fq_askMachine bq_askMachine_0
  rw [if_neg (show ¬ (13:Int32) ≤ (8:Int32) by decide), if_neg (show ¬ (8:Int32) = (0:Int32) by decide), if_neg (show ¬ (8:Int32) = (1:Int32) by decide), if_neg (show ¬ (8:Int32) = (2:Int32) by decide), if_neg (show ¬ (8:Int32) = (3:Int32) by decide), if_neg (show ¬ (8:Int32) = (4:Int32) by decide), if_neg (show ¬ (8:Int32) = (5:Int32) by decide), if_neg (show ¬ (8:Int32) = (6:Int32) by decide), if_neg (show ¬ (8:Int32) = (7:Int32) by decide), if_pos (show (8:Int32) = (8:Int32) from rfl)]
  exact w_o (w_l (w_r (ask_receive h _)))
theorem ans_9 (v : KV K) (h : Ak K W b k s p σ ρ) : Sim (fc_X5_answer (47 + 132 * s) (some (83 + 135 * s + 12 * p)) (9:Int32) σ) (q_ans (9:Int32) (σ.1 (86 + 135 * s + 12 * p) 1) (σ.1 (86 + 135 * s + 12 * p) 2) ρ) (AkS K W b k s p ρ) := by
  have s2 := h.s2
  have p8 := h.p8
  have e33 := h.R.T.C.tms.2.2.1
  have z1 : ¬ (1:Int32) = 0 := by decide
  have b3 := (a_83 (s := s) (p := p))
  obtain ⟨r, er⟩ : ∃ r, fc_X8_at (92 + 135 * s + 12 * p) (σ.1 (86 + 135 * s + 12 * p) 1) σ = some (r, σ) := by
    rcases h.hnd (σ.1 (86 + 135 * s + 12 * p) 1) with ⟨t, ht, -, -, f3, -⟩ | ⟨-, -, f3⟩
    · exact ⟨_, f3⟩
    · exact ⟨_, f3⟩
  unfold fc_X5_answer bc_X5_answer_0 q_ans
  rw [nnn, ix1, vln, show (1:Int32).toNatClampNeg = 1 from rfl, b3.1, b3.2.2, b3.2.1]
  rw [er, bd2n]
  rw [if_neg (show ¬ (9:Int32) = (0:Int32) by decide), if_neg (show ¬ (9:Int32) = (1:Int32) by decide), if_neg (show ¬ (9:Int32) = (2:Int32) by decide), if_neg (show ¬ (9:Int32) = (3:Int32) by decide), if_neg (show ¬ (9:Int32) = (4:Int32) by decide), if_neg (show ¬ (9:Int32) = (5:Int32) by decide), if_neg (show ¬ (9:Int32) = (6:Int32) by decide), if_neg (show ¬ (9:Int32) = (7:Int32) by decide), if_neg (show ¬ (9:Int32) = (8:Int32) by decide), if_pos (show (9:Int32) = (9:Int32) from rfl)]
  unfold fq_askMachine bq_askMachine_0
  rw [if_neg (show ¬ (13:Int32) ≤ (9:Int32) by decide), if_neg (show ¬ (9:Int32) = (0:Int32) by decide), if_neg (show ¬ (9:Int32) = (1:Int32) by decide), if_neg (show ¬ (9:Int32) = (2:Int32) by decide), if_neg (show ¬ (9:Int32) = (3:Int32) by decide), if_neg (show ¬ (9:Int32) = (4:Int32) by decide), if_neg (show ¬ (9:Int32) = (5:Int32) by decide), if_neg (show ¬ (9:Int32) = (6:Int32) by decide), if_neg (show ¬ (9:Int32) = (7:Int32) by decide), if_neg (show ¬ (9:Int32) = (8:Int32) by decide), if_pos (show (9:Int32) = (9:Int32) from rfl)]
  exact w_o (w_l (ask_sendTerm h _))
theorem ans_10 (v : KV K) (h : Ak K W b k s p σ ρ) : Sim (fc_X5_answer (47 + 132 * s) (some (83 + 135 * s + 12 * p)) (10:Int32) σ) (q_ans (10:Int32) (σ.1 (86 + 135 * s + 12 * p) 1) (σ.1 (86 + 135 * s + 12 * p) 2) ρ) (AkS K W b k s p ρ) := by
  have s2 := h.s2
  have p8 := h.p8
  have e33 := h.R.T.C.tms.2.2.1
  have z1 : ¬ (1:Int32) = 0 := by decide
  have b3 := (a_83 (s := s) (p := p))
  obtain ⟨r, er⟩ : ∃ r, fc_X8_at (92 + 135 * s + 12 * p) (σ.1 (86 + 135 * s + 12 * p) 1) σ = some (r, σ) := by
    rcases h.hnd (σ.1 (86 + 135 * s + 12 * p) 1) with ⟨t, ht, -, -, f3, -⟩ | ⟨-, -, f3⟩
    · exact ⟨_, f3⟩
    · exact ⟨_, f3⟩
  unfold fc_X5_answer bc_X5_answer_0 q_ans
  rw [nnn, ix1, vln, show (1:Int32).toNatClampNeg = 1 from rfl, b3.1, b3.2.2, b3.2.1]
  rw [er, bd2n]
  rw [if_neg (show ¬ (10:Int32) = (0:Int32) by decide), if_neg (show ¬ (10:Int32) = (1:Int32) by decide), if_neg (show ¬ (10:Int32) = (2:Int32) by decide), if_neg (show ¬ (10:Int32) = (3:Int32) by decide), if_neg (show ¬ (10:Int32) = (4:Int32) by decide), if_neg (show ¬ (10:Int32) = (5:Int32) by decide), if_neg (show ¬ (10:Int32) = (6:Int32) by decide), if_neg (show ¬ (10:Int32) = (7:Int32) by decide), if_neg (show ¬ (10:Int32) = (8:Int32) by decide), if_neg (show ¬ (10:Int32) = (9:Int32) by decide), if_pos (show (10:Int32) = (10:Int32) from rfl)]
  unfold fq_askMachine bq_askMachine_0
  rw [if_neg (show ¬ (13:Int32) ≤ (10:Int32) by decide), if_neg (show ¬ (10:Int32) = (0:Int32) by decide), if_neg (show ¬ (10:Int32) = (1:Int32) by decide), if_neg (show ¬ (10:Int32) = (2:Int32) by decide), if_neg (show ¬ (10:Int32) = (3:Int32) by decide), if_neg (show ¬ (10:Int32) = (4:Int32) by decide), if_neg (show ¬ (10:Int32) = (5:Int32) by decide), if_neg (show ¬ (10:Int32) = (6:Int32) by decide), if_neg (show ¬ (10:Int32) = (7:Int32) by decide), if_neg (show ¬ (10:Int32) = (8:Int32) by decide), if_neg (show ¬ (10:Int32) = (9:Int32) by decide), if_pos (show (10:Int32) = (10:Int32) from rfl)]
  exact w_o (w_l (ask_receiveTerm h _))
theorem ans_11 (v : KV K) (h : Ak K W b k s p σ ρ) : Sim (fc_X5_answer (47 + 132 * s) (some (83 + 135 * s + 12 * p)) (11:Int32) σ) (q_ans (11:Int32) (σ.1 (86 + 135 * s + 12 * p) 1) (σ.1 (86 + 135 * s + 12 * p) 2) ρ) (AkS K W b k s p ρ) := by
  have s2 := h.s2
  have p8 := h.p8
  have e33 := h.R.T.C.tms.2.2.1
  have z1 : ¬ (1:Int32) = 0 := by decide
  have b3 := (a_83 (s := s) (p := p))
  obtain ⟨r, er⟩ : ∃ r, fc_X8_at (92 + 135 * s + 12 * p) (σ.1 (86 + 135 * s + 12 * p) 1) σ = some (r, σ) := by
    rcases h.hnd (σ.1 (86 + 135 * s + 12 * p) 1) with ⟨t, ht, -, -, f3, -⟩ | ⟨-, -, f3⟩
    · exact ⟨_, f3⟩
    · exact ⟨_, f3⟩
  unfold fc_X5_answer bc_X5_answer_0 q_ans
  rw [nnn, ix1, vln, show (1:Int32).toNatClampNeg = 1 from rfl, b3.1, b3.2.2, b3.2.1]
  rw [er, bd2n]
  rw [if_neg (show ¬ (11:Int32) = (0:Int32) by decide), if_neg (show ¬ (11:Int32) = (1:Int32) by decide), if_neg (show ¬ (11:Int32) = (2:Int32) by decide), if_neg (show ¬ (11:Int32) = (3:Int32) by decide), if_neg (show ¬ (11:Int32) = (4:Int32) by decide), if_neg (show ¬ (11:Int32) = (5:Int32) by decide), if_neg (show ¬ (11:Int32) = (6:Int32) by decide), if_neg (show ¬ (11:Int32) = (7:Int32) by decide), if_neg (show ¬ (11:Int32) = (8:Int32) by decide), if_neg (show ¬ (11:Int32) = (9:Int32) by decide), if_neg (show ¬ (11:Int32) = (10:Int32) by decide), if_pos (show (11:Int32) = (11:Int32) from rfl)]
  unfold fq_askMachine bq_askMachine_0
  rw [if_neg (show ¬ (13:Int32) ≤ (11:Int32) by decide), if_neg (show ¬ (11:Int32) = (0:Int32) by decide), if_neg (show ¬ (11:Int32) = (1:Int32) by decide), if_neg (show ¬ (11:Int32) = (2:Int32) by decide), if_neg (show ¬ (11:Int32) = (3:Int32) by decide), if_neg (show ¬ (11:Int32) = (4:Int32) by decide), if_neg (show ¬ (11:Int32) = (5:Int32) by decide), if_neg (show ¬ (11:Int32) = (6:Int32) by decide), if_neg (show ¬ (11:Int32) = (7:Int32) by decide), if_neg (show ¬ (11:Int32) = (8:Int32) by decide), if_neg (show ¬ (11:Int32) = (9:Int32) by decide), if_neg (show ¬ (11:Int32) = (10:Int32) by decide), if_pos (show (11:Int32) = (11:Int32) from rfl)]
  have A := ask_outTerm h (σ.1 (86 + 135 * s + 12 * p) 1)
  rw [er, bd2n] at A
  exact w_o A
theorem ans_12 (v : KV K) (h : Ak K W b k s p σ ρ) : Sim (fc_X5_answer (47 + 132 * s) (some (83 + 135 * s + 12 * p)) (12:Int32) σ) (q_ans (12:Int32) (σ.1 (86 + 135 * s + 12 * p) 1) (σ.1 (86 + 135 * s + 12 * p) 2) ρ) (AkS K W b k s p ρ) := by
  have s2 := h.s2
  have p8 := h.p8
  have e33 := h.R.T.C.tms.2.2.1
  have z1 : ¬ (1:Int32) = 0 := by decide
  have b3 := (a_83 (s := s) (p := p))
  obtain ⟨r, er⟩ : ∃ r, fc_X8_at (92 + 135 * s + 12 * p) (σ.1 (86 + 135 * s + 12 * p) 1) σ = some (r, σ) := by
    rcases h.hnd (σ.1 (86 + 135 * s + 12 * p) 1) with ⟨t, ht, -, -, f3, -⟩ | ⟨-, -, f3⟩
    · exact ⟨_, f3⟩
    · exact ⟨_, f3⟩
  unfold fc_X5_answer bc_X5_answer_0 q_ans
  rw [nnn, ix1, vln, show (1:Int32).toNatClampNeg = 1 from rfl, b3.1, b3.2.2, b3.2.1]
  rw [er, bd2n]
  rw [if_neg (show ¬ (12:Int32) = (0:Int32) by decide), if_neg (show ¬ (12:Int32) = (1:Int32) by decide), if_neg (show ¬ (12:Int32) = (2:Int32) by decide), if_neg (show ¬ (12:Int32) = (3:Int32) by decide), if_neg (show ¬ (12:Int32) = (4:Int32) by decide), if_neg (show ¬ (12:Int32) = (5:Int32) by decide), if_neg (show ¬ (12:Int32) = (6:Int32) by decide), if_neg (show ¬ (12:Int32) = (7:Int32) by decide), if_neg (show ¬ (12:Int32) = (8:Int32) by decide), if_neg (show ¬ (12:Int32) = (9:Int32) by decide), if_neg (show ¬ (12:Int32) = (10:Int32) by decide), if_neg (show ¬ (12:Int32) = (11:Int32) by decide), if_pos (show (12:Int32) = (12:Int32) from rfl)]
  unfold fq_askMachine bq_askMachine_0
  rw [if_neg (show ¬ (13:Int32) ≤ (12:Int32) by decide), if_neg (show ¬ (12:Int32) = (0:Int32) by decide), if_neg (show ¬ (12:Int32) = (1:Int32) by decide), if_neg (show ¬ (12:Int32) = (2:Int32) by decide), if_neg (show ¬ (12:Int32) = (3:Int32) by decide), if_neg (show ¬ (12:Int32) = (4:Int32) by decide), if_neg (show ¬ (12:Int32) = (5:Int32) by decide), if_neg (show ¬ (12:Int32) = (6:Int32) by decide), if_neg (show ¬ (12:Int32) = (7:Int32) by decide), if_neg (show ¬ (12:Int32) = (8:Int32) by decide), if_neg (show ¬ (12:Int32) = (9:Int32) by decide), if_neg (show ¬ (12:Int32) = (10:Int32) by decide), if_neg (show ¬ (12:Int32) = (11:Int32) by decide)]
  exact w_o (w_l (w_r (ask_term h)))
theorem ans_13 (v : KV K) (h : Ak K W b k s p σ ρ) : Sim (fc_X5_answer (47 + 132 * s) (some (83 + 135 * s + 12 * p)) (13:Int32) σ) (q_ans (13:Int32) (σ.1 (86 + 135 * s + 12 * p) 1) (σ.1 (86 + 135 * s + 12 * p) 2) ρ) (AkS K W b k s p ρ) := by
  have s2 := h.s2
  have p8 := h.p8
  have e33 := h.R.T.C.tms.2.2.1
  have z1 : ¬ (1:Int32) = 0 := by decide
  have b3 := (a_83 (s := s) (p := p))
  obtain ⟨r, er⟩ : ∃ r, fc_X8_at (92 + 135 * s + 12 * p) (σ.1 (86 + 135 * s + 12 * p) 1) σ = some (r, σ) := by
    rcases h.hnd (σ.1 (86 + 135 * s + 12 * p) 1) with ⟨t, ht, -, -, f3, -⟩ | ⟨-, -, f3⟩
    · exact ⟨_, f3⟩
    · exact ⟨_, f3⟩
  unfold fc_X5_answer bc_X5_answer_0 q_ans
  rw [nnn, ix1, vln, show (1:Int32).toNatClampNeg = 1 from rfl, b3.1, b3.2.2, b3.2.1]
  rw [er, bd2n]
  rw [if_neg (show ¬ (13:Int32) = (0:Int32) by decide), if_neg (show ¬ (13:Int32) = (1:Int32) by decide), if_neg (show ¬ (13:Int32) = (2:Int32) by decide), if_neg (show ¬ (13:Int32) = (3:Int32) by decide), if_neg (show ¬ (13:Int32) = (4:Int32) by decide), if_neg (show ¬ (13:Int32) = (5:Int32) by decide), if_neg (show ¬ (13:Int32) = (6:Int32) by decide), if_neg (show ¬ (13:Int32) = (7:Int32) by decide), if_neg (show ¬ (13:Int32) = (8:Int32) by decide), if_neg (show ¬ (13:Int32) = (9:Int32) by decide), if_neg (show ¬ (13:Int32) = (10:Int32) by decide), if_neg (show ¬ (13:Int32) = (11:Int32) by decide), if_neg (show ¬ (13:Int32) = (12:Int32) by decide), if_pos (show (13:Int32) = (13:Int32) from rfl)]
  unfold fq_askTerms bq_askTerms_0
  rw [if_pos (show (13:Int32) ≤ (13:Int32) by decide), if_neg (show ¬ (29:Int32) ≤ (13:Int32) by decide), if_pos (show (13:Int32) = (13:Int32) from rfl)]
  rw [vln, vln, vln, e33]
  exact w_o (w_l (w_r (Ak.mkT v h (kk := 0) (by omega) (by omega) (by omega) (by unfold argR; rw [if_pos rfl]; exact ⟨rfl, rfl, rfl, rfl, rfl, rfl⟩))))
theorem ans_14 (v : KV K) (h : Ak K W b k s p σ ρ) : Sim (fc_X5_answer (47 + 132 * s) (some (83 + 135 * s + 12 * p)) (14:Int32) σ) (q_ans (14:Int32) (σ.1 (86 + 135 * s + 12 * p) 1) (σ.1 (86 + 135 * s + 12 * p) 2) ρ) (AkS K W b k s p ρ) := by
  have s2 := h.s2
  have p8 := h.p8
  have e33 := h.R.T.C.tms.2.2.1
  have z1 : ¬ (1:Int32) = 0 := by decide
  have b3 := (a_83 (s := s) (p := p))
  obtain ⟨r, er⟩ : ∃ r, fc_X8_at (92 + 135 * s + 12 * p) (σ.1 (86 + 135 * s + 12 * p) 1) σ = some (r, σ) := by
    rcases h.hnd (σ.1 (86 + 135 * s + 12 * p) 1) with ⟨t, ht, -, -, f3, -⟩ | ⟨-, -, f3⟩
    · exact ⟨_, f3⟩
    · exact ⟨_, f3⟩
  unfold fc_X5_answer bc_X5_answer_0 q_ans
  rw [nnn, ix1, vln, show (1:Int32).toNatClampNeg = 1 from rfl, b3.1, b3.2.2, b3.2.1]
  rw [er, bd2n]
  rw [if_neg (show ¬ (14:Int32) = (0:Int32) by decide), if_neg (show ¬ (14:Int32) = (1:Int32) by decide), if_neg (show ¬ (14:Int32) = (2:Int32) by decide), if_neg (show ¬ (14:Int32) = (3:Int32) by decide), if_neg (show ¬ (14:Int32) = (4:Int32) by decide), if_neg (show ¬ (14:Int32) = (5:Int32) by decide), if_neg (show ¬ (14:Int32) = (6:Int32) by decide), if_neg (show ¬ (14:Int32) = (7:Int32) by decide), if_neg (show ¬ (14:Int32) = (8:Int32) by decide), if_neg (show ¬ (14:Int32) = (9:Int32) by decide), if_neg (show ¬ (14:Int32) = (10:Int32) by decide), if_neg (show ¬ (14:Int32) = (11:Int32) by decide), if_neg (show ¬ (14:Int32) = (12:Int32) by decide), if_neg (show ¬ (14:Int32) = (13:Int32) by decide), if_pos (show (14:Int32) = (14:Int32) from rfl)]
  unfold fq_askTerms bq_askTerms_0
  rw [if_pos (show (13:Int32) ≤ (14:Int32) by decide), if_neg (show ¬ (29:Int32) ≤ (14:Int32) by decide), if_neg (show ¬ (14:Int32) = (13:Int32) by decide), if_neg (show ¬ (14:Int32) = (21:Int32) by decide), if_neg (show ¬ (14:Int32) = (23:Int32) by decide), if_pos (show (14:Int32) = (14:Int32) from rfl)]
  have A := ask_mk v h (kk := 3) (by omega)
  have R := h.ctx.co.rg 3 (by omega)
  apply w_o
  apply w_l
  have eq : q_mk 3 (σ.1 (86 + 135 * s + 12 * p) 1) (σ.1 (86 + 135 * s + 12 * p) 2) (σ.1 (86 + 135 * s + 12 * p) 3) ρ = bq_askTerms_137 (14:Int32) (σ.1 (86 + 135 * s + 12 * p) 1) (σ.1 (86 + 135 * s + 12 * p) 2) ρ := by
    unfold q_mk bq_askTerms_137 bq_askTerms_142 bq_askTerms_165 bq_askTerms_186
    rcases h.hnd (σ.1 (86 + 135 * s + 12 * p) 1) with ⟨t, ht, -, f2, -, f4⟩ | ⟨-, f2, -⟩
    rotate_left
    · rw [f2, bd2n, bd2n, if_pos rfl, if_pos rfl]
    rw [f2, bd2n, bd2n, if_neg z1, if_neg z1]
    rw [if_neg (show ¬ prc 3 = 1 by decide), if_neg z1]
    rcases h.hnd (σ.1 (86 + 135 * s + 12 * p) 2) with ⟨t', ht', -, g2, -, g4⟩ | ⟨-, g2, -⟩
    rotate_left
    · rw [g2, bd2n, bd2n, if_pos rfl, if_pos rfl]
    rw [g2, bd2n, bd2n, if_neg z1, if_neg z1]
    rw [if_pos (show prc 3 = 2 from rfl), if_neg (show ¬ (14:Int32) = (19:Int32) by decide), f4, bd2n, bd2n, if_pos (show (14:Int32) = (14:Int32) from rfl), g4, bd2n, bd2n]
    rfl
  rw [← eq]
  exact A
theorem ans_15 (v : KV K) (h : Ak K W b k s p σ ρ) : Sim (fc_X5_answer (47 + 132 * s) (some (83 + 135 * s + 12 * p)) (15:Int32) σ) (q_ans (15:Int32) (σ.1 (86 + 135 * s + 12 * p) 1) (σ.1 (86 + 135 * s + 12 * p) 2) ρ) (AkS K W b k s p ρ) := by
  have s2 := h.s2
  have p8 := h.p8
  have e33 := h.R.T.C.tms.2.2.1
  have z1 : ¬ (1:Int32) = 0 := by decide
  have b3 := (a_83 (s := s) (p := p))
  obtain ⟨r, er⟩ : ∃ r, fc_X8_at (92 + 135 * s + 12 * p) (σ.1 (86 + 135 * s + 12 * p) 1) σ = some (r, σ) := by
    rcases h.hnd (σ.1 (86 + 135 * s + 12 * p) 1) with ⟨t, ht, -, -, f3, -⟩ | ⟨-, -, f3⟩
    · exact ⟨_, f3⟩
    · exact ⟨_, f3⟩
  unfold fc_X5_answer bc_X5_answer_0 q_ans
  rw [nnn, ix1, vln, show (1:Int32).toNatClampNeg = 1 from rfl, b3.1, b3.2.2, b3.2.1]
  rw [er, bd2n]
  rw [if_neg (show ¬ (15:Int32) = (0:Int32) by decide), if_neg (show ¬ (15:Int32) = (1:Int32) by decide), if_neg (show ¬ (15:Int32) = (2:Int32) by decide), if_neg (show ¬ (15:Int32) = (3:Int32) by decide), if_neg (show ¬ (15:Int32) = (4:Int32) by decide), if_neg (show ¬ (15:Int32) = (5:Int32) by decide), if_neg (show ¬ (15:Int32) = (6:Int32) by decide), if_neg (show ¬ (15:Int32) = (7:Int32) by decide), if_neg (show ¬ (15:Int32) = (8:Int32) by decide), if_neg (show ¬ (15:Int32) = (9:Int32) by decide), if_neg (show ¬ (15:Int32) = (10:Int32) by decide), if_neg (show ¬ (15:Int32) = (11:Int32) by decide), if_neg (show ¬ (15:Int32) = (12:Int32) by decide), if_neg (show ¬ (15:Int32) = (13:Int32) by decide), if_neg (show ¬ (15:Int32) = (14:Int32) by decide), if_pos (show (15:Int32) = (15:Int32) from rfl)]
  unfold fq_askTerms bq_askTerms_0
  rw [if_pos (show (13:Int32) ≤ (15:Int32) by decide), if_neg (show ¬ (29:Int32) ≤ (15:Int32) by decide), if_neg (show ¬ (15:Int32) = (13:Int32) by decide), if_neg (show ¬ (15:Int32) = (21:Int32) by decide), if_neg (show ¬ (15:Int32) = (23:Int32) by decide), if_neg (show ¬ (15:Int32) = (14:Int32) by decide), if_neg (show ¬ (15:Int32) = (16:Int32) by decide), if_neg (show ¬ (15:Int32) = (18:Int32) by decide), if_neg (show ¬ (15:Int32) = (19:Int32) by decide), if_neg (show ¬ (15:Int32) = (20:Int32) by decide), if_neg (show ¬ (15:Int32) = (27:Int32) by decide), if_neg (show ¬ (15:Int32) = (28:Int32) by decide)]
  have A := ask_mk v h (kk := 4) (by omega)
  have R := h.ctx.co.rg 3 (by omega)
  apply w_o
  apply w_l
  have eq : q_mk 4 (σ.1 (86 + 135 * s + 12 * p) 1) (σ.1 (86 + 135 * s + 12 * p) 2) (σ.1 (86 + 135 * s + 12 * p) 3) ρ = bq_askTerms_142 (15:Int32) (σ.1 (86 + 135 * s + 12 * p) 1) (σ.1 (86 + 135 * s + 12 * p) 2) (0:Int32) ρ := by
    unfold q_mk bq_askTerms_142 bq_askTerms_165 bq_askTerms_186
    rcases h.hnd (σ.1 (86 + 135 * s + 12 * p) 1) with ⟨t, ht, -, f2, -, f4⟩ | ⟨-, f2, -⟩
    rotate_left
    · rw [f2, bd2n, bd2n, if_pos rfl, if_pos rfl]
    rw [f2, bd2n, bd2n, if_neg z1, if_neg z1]
    rw [if_pos (show prc 4 = 1 from rfl), if_pos rfl, if_neg (show ¬ (15:Int32) = (19:Int32) by decide), f4, bd2n, bd2n, if_neg (show ¬ (15:Int32) = (14:Int32) by decide), if_pos (show (15:Int32) = (15:Int32) from rfl)]
    rfl
  rw [← eq]
  exact A
theorem ans_16 (v : KV K) (h : Ak K W b k s p σ ρ) : Sim (fc_X5_answer (47 + 132 * s) (some (83 + 135 * s + 12 * p)) (16:Int32) σ) (q_ans (16:Int32) (σ.1 (86 + 135 * s + 12 * p) 1) (σ.1 (86 + 135 * s + 12 * p) 2) ρ) (AkS K W b k s p ρ) := by
  have s2 := h.s2
  have p8 := h.p8
  have e33 := h.R.T.C.tms.2.2.1
  have z1 : ¬ (1:Int32) = 0 := by decide
  have b3 := (a_83 (s := s) (p := p))
  obtain ⟨r, er⟩ : ∃ r, fc_X8_at (92 + 135 * s + 12 * p) (σ.1 (86 + 135 * s + 12 * p) 1) σ = some (r, σ) := by
    rcases h.hnd (σ.1 (86 + 135 * s + 12 * p) 1) with ⟨t, ht, -, -, f3, -⟩ | ⟨-, -, f3⟩
    · exact ⟨_, f3⟩
    · exact ⟨_, f3⟩
  unfold fc_X5_answer bc_X5_answer_0 q_ans
  rw [nnn, ix1, vln, show (1:Int32).toNatClampNeg = 1 from rfl, b3.1, b3.2.2, b3.2.1]
  rw [er, bd2n]
  rw [if_neg (show ¬ (16:Int32) = (0:Int32) by decide), if_neg (show ¬ (16:Int32) = (1:Int32) by decide), if_neg (show ¬ (16:Int32) = (2:Int32) by decide), if_neg (show ¬ (16:Int32) = (3:Int32) by decide), if_neg (show ¬ (16:Int32) = (4:Int32) by decide), if_neg (show ¬ (16:Int32) = (5:Int32) by decide), if_neg (show ¬ (16:Int32) = (6:Int32) by decide), if_neg (show ¬ (16:Int32) = (7:Int32) by decide), if_neg (show ¬ (16:Int32) = (8:Int32) by decide), if_neg (show ¬ (16:Int32) = (9:Int32) by decide), if_neg (show ¬ (16:Int32) = (10:Int32) by decide), if_neg (show ¬ (16:Int32) = (11:Int32) by decide), if_neg (show ¬ (16:Int32) = (12:Int32) by decide), if_neg (show ¬ (16:Int32) = (13:Int32) by decide), if_neg (show ¬ (16:Int32) = (14:Int32) by decide), if_neg (show ¬ (16:Int32) = (15:Int32) by decide), if_pos (show (16:Int32) = (16:Int32) from rfl)]
  unfold fq_askTerms bq_askTerms_0
  rw [if_pos (show (13:Int32) ≤ (16:Int32) by decide), if_neg (show ¬ (29:Int32) ≤ (16:Int32) by decide), if_neg (show ¬ (16:Int32) = (13:Int32) by decide), if_neg (show ¬ (16:Int32) = (21:Int32) by decide), if_neg (show ¬ (16:Int32) = (23:Int32) by decide), if_neg (show ¬ (16:Int32) = (14:Int32) by decide), if_pos (show (16:Int32) = (16:Int32) from rfl)]
  have A := ask_mk v h (kk := 5) (by omega)
  have R := h.ctx.co.rg 3 (by omega)
  apply w_o
  apply w_l
  have eq : q_mk 5 (σ.1 (86 + 135 * s + 12 * p) 1) (σ.1 (86 + 135 * s + 12 * p) 2) (σ.1 (86 + 135 * s + 12 * p) 3) ρ = bq_askTerms_137 (16:Int32) (σ.1 (86 + 135 * s + 12 * p) 1) (σ.1 (86 + 135 * s + 12 * p) 2) ρ := by
    unfold q_mk bq_askTerms_137 bq_askTerms_142 bq_askTerms_165 bq_askTerms_186
    rcases h.hnd (σ.1 (86 + 135 * s + 12 * p) 1) with ⟨t, ht, -, f2, -, f4⟩ | ⟨-, f2, -⟩
    rotate_left
    · rw [f2, bd2n, bd2n, if_pos rfl, if_pos rfl]
    rw [f2, bd2n, bd2n, if_neg z1, if_neg z1]
    rw [if_neg (show ¬ prc 5 = 1 by decide), if_neg z1]
    rcases h.hnd (σ.1 (86 + 135 * s + 12 * p) 2) with ⟨t', ht', -, g2, -, g4⟩ | ⟨-, g2, -⟩
    rotate_left
    · rw [g2, bd2n, bd2n, if_pos rfl, if_pos rfl]
    rw [g2, bd2n, bd2n, if_neg z1, if_neg z1]
    rw [if_pos (show prc 5 = 2 from rfl), if_neg (show ¬ (16:Int32) = (19:Int32) by decide), f4, bd2n, bd2n, if_neg (show ¬ (16:Int32) = (14:Int32) by decide), if_neg (show ¬ (16:Int32) = (15:Int32) by decide), if_pos (show (16:Int32) = (16:Int32) from rfl), g4, bd2n, bd2n]
    rfl
  rw [← eq]
  exact A
theorem ans_17 (v : KV K) (h : Ak K W b k s p σ ρ) : Sim (fc_X5_answer (47 + 132 * s) (some (83 + 135 * s + 12 * p)) (17:Int32) σ) (q_ans (17:Int32) (σ.1 (86 + 135 * s + 12 * p) 1) (σ.1 (86 + 135 * s + 12 * p) 2) ρ) (AkS K W b k s p ρ) := by
  have s2 := h.s2
  have p8 := h.p8
  have e33 := h.R.T.C.tms.2.2.1
  have z1 : ¬ (1:Int32) = 0 := by decide
  have b3 := (a_83 (s := s) (p := p))
  obtain ⟨r, er⟩ : ∃ r, fc_X8_at (92 + 135 * s + 12 * p) (σ.1 (86 + 135 * s + 12 * p) 1) σ = some (r, σ) := by
    rcases h.hnd (σ.1 (86 + 135 * s + 12 * p) 1) with ⟨t, ht, -, -, f3, -⟩ | ⟨-, -, f3⟩
    · exact ⟨_, f3⟩
    · exact ⟨_, f3⟩
  unfold fc_X5_answer bc_X5_answer_0 q_ans
  rw [nnn, ix1, vln, show (1:Int32).toNatClampNeg = 1 from rfl, b3.1, b3.2.2, b3.2.1]
  rw [er, bd2n]
  rw [if_neg (show ¬ (17:Int32) = (0:Int32) by decide), if_neg (show ¬ (17:Int32) = (1:Int32) by decide), if_neg (show ¬ (17:Int32) = (2:Int32) by decide), if_neg (show ¬ (17:Int32) = (3:Int32) by decide), if_neg (show ¬ (17:Int32) = (4:Int32) by decide), if_neg (show ¬ (17:Int32) = (5:Int32) by decide), if_neg (show ¬ (17:Int32) = (6:Int32) by decide), if_neg (show ¬ (17:Int32) = (7:Int32) by decide), if_neg (show ¬ (17:Int32) = (8:Int32) by decide), if_neg (show ¬ (17:Int32) = (9:Int32) by decide), if_neg (show ¬ (17:Int32) = (10:Int32) by decide), if_neg (show ¬ (17:Int32) = (11:Int32) by decide), if_neg (show ¬ (17:Int32) = (12:Int32) by decide), if_neg (show ¬ (17:Int32) = (13:Int32) by decide), if_neg (show ¬ (17:Int32) = (14:Int32) by decide), if_neg (show ¬ (17:Int32) = (15:Int32) by decide), if_neg (show ¬ (17:Int32) = (16:Int32) by decide), if_pos (show (17:Int32) = (17:Int32) from rfl)]
  unfold fq_askTerms bq_askTerms_0
  rw [if_pos (show (13:Int32) ≤ (17:Int32) by decide), if_neg (show ¬ (29:Int32) ≤ (17:Int32) by decide), if_neg (show ¬ (17:Int32) = (13:Int32) by decide), if_neg (show ¬ (17:Int32) = (21:Int32) by decide), if_neg (show ¬ (17:Int32) = (23:Int32) by decide), if_neg (show ¬ (17:Int32) = (14:Int32) by decide), if_neg (show ¬ (17:Int32) = (16:Int32) by decide), if_neg (show ¬ (17:Int32) = (18:Int32) by decide), if_neg (show ¬ (17:Int32) = (19:Int32) by decide), if_neg (show ¬ (17:Int32) = (20:Int32) by decide), if_neg (show ¬ (17:Int32) = (27:Int32) by decide), if_neg (show ¬ (17:Int32) = (28:Int32) by decide)]
  have A := ask_mk v h (kk := 6) (by omega)
  have R := h.ctx.co.rg 3 (by omega)
  apply w_o
  apply w_l
  have eq : q_mk 6 (σ.1 (86 + 135 * s + 12 * p) 1) (σ.1 (86 + 135 * s + 12 * p) 2) (σ.1 (86 + 135 * s + 12 * p) 3) ρ = bq_askTerms_142 (17:Int32) (σ.1 (86 + 135 * s + 12 * p) 1) (σ.1 (86 + 135 * s + 12 * p) 2) (0:Int32) ρ := by
    unfold q_mk bq_askTerms_142 bq_askTerms_165 bq_askTerms_186
    rcases h.hnd (σ.1 (86 + 135 * s + 12 * p) 1) with ⟨t, ht, -, f2, -, f4⟩ | ⟨-, f2, -⟩
    rotate_left
    · rw [f2, bd2n, bd2n, if_pos rfl, if_pos rfl]
    rw [f2, bd2n, bd2n, if_neg z1, if_neg z1]
    rw [if_pos (show prc 6 = 1 from rfl), if_pos rfl, if_neg (show ¬ (17:Int32) = (19:Int32) by decide), f4, bd2n, bd2n, if_neg (show ¬ (17:Int32) = (14:Int32) by decide), if_neg (show ¬ (17:Int32) = (15:Int32) by decide), if_neg (show ¬ (17:Int32) = (16:Int32) by decide), if_pos (show (17:Int32) = (17:Int32) from rfl)]
    rfl
  rw [← eq]
  exact A
theorem ans_18 (v : KV K) (h : Ak K W b k s p σ ρ) : Sim (fc_X5_answer (47 + 132 * s) (some (83 + 135 * s + 12 * p)) (18:Int32) σ) (q_ans (18:Int32) (σ.1 (86 + 135 * s + 12 * p) 1) (σ.1 (86 + 135 * s + 12 * p) 2) ρ) (AkS K W b k s p ρ) := by
  have s2 := h.s2
  have p8 := h.p8
  have e33 := h.R.T.C.tms.2.2.1
  have z1 : ¬ (1:Int32) = 0 := by decide
  have b3 := (a_83 (s := s) (p := p))
  obtain ⟨r, er⟩ : ∃ r, fc_X8_at (92 + 135 * s + 12 * p) (σ.1 (86 + 135 * s + 12 * p) 1) σ = some (r, σ) := by
    rcases h.hnd (σ.1 (86 + 135 * s + 12 * p) 1) with ⟨t, ht, -, -, f3, -⟩ | ⟨-, -, f3⟩
    · exact ⟨_, f3⟩
    · exact ⟨_, f3⟩
  unfold fc_X5_answer bc_X5_answer_0 q_ans
  rw [nnn, ix1, vln, show (1:Int32).toNatClampNeg = 1 from rfl, b3.1, b3.2.2, b3.2.1]
  rw [er, bd2n]
  rw [if_neg (show ¬ (18:Int32) = (0:Int32) by decide), if_neg (show ¬ (18:Int32) = (1:Int32) by decide), if_neg (show ¬ (18:Int32) = (2:Int32) by decide), if_neg (show ¬ (18:Int32) = (3:Int32) by decide), if_neg (show ¬ (18:Int32) = (4:Int32) by decide), if_neg (show ¬ (18:Int32) = (5:Int32) by decide), if_neg (show ¬ (18:Int32) = (6:Int32) by decide), if_neg (show ¬ (18:Int32) = (7:Int32) by decide), if_neg (show ¬ (18:Int32) = (8:Int32) by decide), if_neg (show ¬ (18:Int32) = (9:Int32) by decide), if_neg (show ¬ (18:Int32) = (10:Int32) by decide), if_neg (show ¬ (18:Int32) = (11:Int32) by decide), if_neg (show ¬ (18:Int32) = (12:Int32) by decide), if_neg (show ¬ (18:Int32) = (13:Int32) by decide), if_neg (show ¬ (18:Int32) = (14:Int32) by decide), if_neg (show ¬ (18:Int32) = (15:Int32) by decide), if_neg (show ¬ (18:Int32) = (16:Int32) by decide), if_neg (show ¬ (18:Int32) = (17:Int32) by decide), if_pos (show (18:Int32) = (18:Int32) from rfl)]
  unfold fq_askTerms bq_askTerms_0
  rw [if_pos (show (13:Int32) ≤ (18:Int32) by decide), if_neg (show ¬ (29:Int32) ≤ (18:Int32) by decide), if_neg (show ¬ (18:Int32) = (13:Int32) by decide), if_neg (show ¬ (18:Int32) = (21:Int32) by decide), if_neg (show ¬ (18:Int32) = (23:Int32) by decide), if_neg (show ¬ (18:Int32) = (14:Int32) by decide), if_neg (show ¬ (18:Int32) = (16:Int32) by decide), if_pos (show (18:Int32) = (18:Int32) from rfl)]
  have A := ask_mk v h (kk := 7) (by omega)
  have R := h.ctx.co.rg 3 (by omega)
  apply w_o
  apply w_l
  have eq : q_mk 7 (σ.1 (86 + 135 * s + 12 * p) 1) (σ.1 (86 + 135 * s + 12 * p) 2) (σ.1 (86 + 135 * s + 12 * p) 3) ρ = bq_askTerms_137 (18:Int32) (σ.1 (86 + 135 * s + 12 * p) 1) (σ.1 (86 + 135 * s + 12 * p) 2) ρ := by
    unfold q_mk bq_askTerms_137 bq_askTerms_142 bq_askTerms_165 bq_askTerms_186
    rcases h.hnd (σ.1 (86 + 135 * s + 12 * p) 1) with ⟨t, ht, -, f2, -, f4⟩ | ⟨-, f2, -⟩
    rotate_left
    · rw [f2, bd2n, bd2n, if_pos rfl, if_pos rfl]
    rw [f2, bd2n, bd2n, if_neg z1, if_neg z1]
    rw [if_neg (show ¬ prc 7 = 1 by decide), if_neg z1]
    rcases h.hnd (σ.1 (86 + 135 * s + 12 * p) 2) with ⟨t', ht', -, g2, -, g4⟩ | ⟨-, g2, -⟩
    rotate_left
    · rw [g2, bd2n, bd2n, if_pos rfl, if_pos rfl]
    rw [g2, bd2n, bd2n, if_neg z1, if_neg z1]
    rw [if_pos (show prc 7 = 2 from rfl), if_neg (show ¬ (18:Int32) = (19:Int32) by decide), f4, bd2n, bd2n, if_neg (show ¬ (18:Int32) = (14:Int32) by decide), if_neg (show ¬ (18:Int32) = (15:Int32) by decide), if_neg (show ¬ (18:Int32) = (16:Int32) by decide), if_neg (show ¬ (18:Int32) = (17:Int32) by decide), if_pos (show (18:Int32) = (18:Int32) from rfl), g4, bd2n, bd2n]
    rfl
  rw [← eq]
  exact A
theorem ans_19 (v : KV K) (h : Ak K W b k s p σ ρ) : Sim (fc_X5_answer (47 + 132 * s) (some (83 + 135 * s + 12 * p)) (19:Int32) σ) (q_ans (19:Int32) (σ.1 (86 + 135 * s + 12 * p) 1) (σ.1 (86 + 135 * s + 12 * p) 2) ρ) (AkS K W b k s p ρ) := by
  have s2 := h.s2
  have p8 := h.p8
  have e33 := h.R.T.C.tms.2.2.1
  have z1 : ¬ (1:Int32) = 0 := by decide
  have b3 := (a_83 (s := s) (p := p))
  obtain ⟨r, er⟩ : ∃ r, fc_X8_at (92 + 135 * s + 12 * p) (σ.1 (86 + 135 * s + 12 * p) 1) σ = some (r, σ) := by
    rcases h.hnd (σ.1 (86 + 135 * s + 12 * p) 1) with ⟨t, ht, -, -, f3, -⟩ | ⟨-, -, f3⟩
    · exact ⟨_, f3⟩
    · exact ⟨_, f3⟩
  unfold fc_X5_answer bc_X5_answer_0 q_ans
  rw [nnn, ix1, vln, show (1:Int32).toNatClampNeg = 1 from rfl, b3.1, b3.2.2, b3.2.1]
  rw [er, bd2n]
  rw [if_neg (show ¬ (19:Int32) = (0:Int32) by decide), if_neg (show ¬ (19:Int32) = (1:Int32) by decide), if_neg (show ¬ (19:Int32) = (2:Int32) by decide), if_neg (show ¬ (19:Int32) = (3:Int32) by decide), if_neg (show ¬ (19:Int32) = (4:Int32) by decide), if_neg (show ¬ (19:Int32) = (5:Int32) by decide), if_neg (show ¬ (19:Int32) = (6:Int32) by decide), if_neg (show ¬ (19:Int32) = (7:Int32) by decide), if_neg (show ¬ (19:Int32) = (8:Int32) by decide), if_neg (show ¬ (19:Int32) = (9:Int32) by decide), if_neg (show ¬ (19:Int32) = (10:Int32) by decide), if_neg (show ¬ (19:Int32) = (11:Int32) by decide), if_neg (show ¬ (19:Int32) = (12:Int32) by decide), if_neg (show ¬ (19:Int32) = (13:Int32) by decide), if_neg (show ¬ (19:Int32) = (14:Int32) by decide), if_neg (show ¬ (19:Int32) = (15:Int32) by decide), if_neg (show ¬ (19:Int32) = (16:Int32) by decide), if_neg (show ¬ (19:Int32) = (17:Int32) by decide), if_neg (show ¬ (19:Int32) = (18:Int32) by decide), if_pos (show (19:Int32) = (19:Int32) from rfl)]
  unfold fq_askTerms bq_askTerms_0
  rw [if_pos (show (13:Int32) ≤ (19:Int32) by decide), if_neg (show ¬ (29:Int32) ≤ (19:Int32) by decide), if_neg (show ¬ (19:Int32) = (13:Int32) by decide), if_neg (show ¬ (19:Int32) = (21:Int32) by decide), if_neg (show ¬ (19:Int32) = (23:Int32) by decide), if_neg (show ¬ (19:Int32) = (14:Int32) by decide), if_neg (show ¬ (19:Int32) = (16:Int32) by decide), if_neg (show ¬ (19:Int32) = (18:Int32) by decide), if_pos (show (19:Int32) = (19:Int32) from rfl)]
  have A := ask_mk v h (kk := 8) (by omega)
  have R := h.ctx.co.rg 3 (by omega)
  apply w_o
  apply w_l
  have eq : q_mk 8 (σ.1 (86 + 135 * s + 12 * p) 1) (σ.1 (86 + 135 * s + 12 * p) 2) (σ.1 (86 + 135 * s + 12 * p) 3) ρ = bq_askTerms_137 (19:Int32) (σ.1 (86 + 135 * s + 12 * p) 1) (σ.1 (86 + 135 * s + 12 * p) 2) ρ := by
    unfold q_mk bq_askTerms_137 bq_askTerms_142 bq_askTerms_165 bq_askTerms_186
    rcases h.hnd (σ.1 (86 + 135 * s + 12 * p) 1) with ⟨t, ht, -, f2, -, f4⟩ | ⟨-, f2, -⟩
    rotate_left
    · rw [f2, bd2n, bd2n, if_pos rfl, if_pos rfl]
    rw [f2, bd2n, bd2n, if_neg z1, if_neg z1]
    rw [if_neg (show ¬ prc 8 = 1 by decide), if_neg z1]
    rcases h.hnd (σ.1 (86 + 135 * s + 12 * p) 2) with ⟨t', ht', -, g2, -, g4⟩ | ⟨-, g2, -⟩
    rotate_left
    · rw [g2, bd2n, bd2n, if_pos rfl, if_pos rfl]
    rw [g2, bd2n, bd2n, if_neg z1, if_neg z1]
    have rg3 : fq_reg (3:Int32) ρ = some (σ.1 (86 + 135 * s + 12 * p) 3, ρ) := by
      unfold fq_reg bq_reg_0
      rw [h.at', show (16:Int32) * nI (8 * s + p) + 3 = nI (16 * (8 * s + p) + 3) from by rw [show (16:Int32) = nI 16 from rfl, n_mul, show (3:Int32) = nI 3 from rfl, n_add], n_ix (show 16 * (8 * s + p) + 3 < 256 by omega) (by omega), n_cl (by omega), R]
    rw [if_neg (show ¬ prc 8 = 2 by decide), if_pos rfl, rg3, bd2n]
    rcases h.hnd (σ.1 (86 + 135 * s + 12 * p) 3) with ⟨t2, ht2, -, k2, -, k4⟩ | ⟨-, k2, -⟩
    rotate_left
    · rw [k2, bd2n, bd2n, if_pos rfl, if_pos rfl]
    rw [k2, bd2n, bd2n, if_neg z1, if_neg z1, f4, bd2n, bd2n, if_neg (show ¬ (19:Int32) = (14:Int32) by decide), if_neg (show ¬ (19:Int32) = (15:Int32) by decide), if_neg (show ¬ (19:Int32) = (16:Int32) by decide), if_neg (show ¬ (19:Int32) = (17:Int32) by decide), if_neg (show ¬ (19:Int32) = (18:Int32) by decide), if_pos (show (19:Int32) = (19:Int32) from rfl), g4, bd2n, bd2n, k4, bd2n, rg3, bd2n, k4, bd2n]
    rfl
  rw [← eq]
  exact A
theorem ans_20 (v : KV K) (h : Ak K W b k s p σ ρ) : Sim (fc_X5_answer (47 + 132 * s) (some (83 + 135 * s + 12 * p)) (20:Int32) σ) (q_ans (20:Int32) (σ.1 (86 + 135 * s + 12 * p) 1) (σ.1 (86 + 135 * s + 12 * p) 2) ρ) (AkS K W b k s p ρ) := by
  have s2 := h.s2
  have p8 := h.p8
  have e33 := h.R.T.C.tms.2.2.1
  have z1 : ¬ (1:Int32) = 0 := by decide
  have b3 := (a_83 (s := s) (p := p))
  obtain ⟨r, er⟩ : ∃ r, fc_X8_at (92 + 135 * s + 12 * p) (σ.1 (86 + 135 * s + 12 * p) 1) σ = some (r, σ) := by
    rcases h.hnd (σ.1 (86 + 135 * s + 12 * p) 1) with ⟨t, ht, -, -, f3, -⟩ | ⟨-, -, f3⟩
    · exact ⟨_, f3⟩
    · exact ⟨_, f3⟩
  unfold fc_X5_answer bc_X5_answer_0 q_ans
  rw [nnn, ix1, vln, show (1:Int32).toNatClampNeg = 1 from rfl, b3.1, b3.2.2, b3.2.1]
  rw [er, bd2n]
  rw [if_neg (show ¬ (20:Int32) = (0:Int32) by decide), if_neg (show ¬ (20:Int32) = (1:Int32) by decide), if_neg (show ¬ (20:Int32) = (2:Int32) by decide), if_neg (show ¬ (20:Int32) = (3:Int32) by decide), if_neg (show ¬ (20:Int32) = (4:Int32) by decide), if_neg (show ¬ (20:Int32) = (5:Int32) by decide), if_neg (show ¬ (20:Int32) = (6:Int32) by decide), if_neg (show ¬ (20:Int32) = (7:Int32) by decide), if_neg (show ¬ (20:Int32) = (8:Int32) by decide), if_neg (show ¬ (20:Int32) = (9:Int32) by decide), if_neg (show ¬ (20:Int32) = (10:Int32) by decide), if_neg (show ¬ (20:Int32) = (11:Int32) by decide), if_neg (show ¬ (20:Int32) = (12:Int32) by decide), if_neg (show ¬ (20:Int32) = (13:Int32) by decide), if_neg (show ¬ (20:Int32) = (14:Int32) by decide), if_neg (show ¬ (20:Int32) = (15:Int32) by decide), if_neg (show ¬ (20:Int32) = (16:Int32) by decide), if_neg (show ¬ (20:Int32) = (17:Int32) by decide), if_neg (show ¬ (20:Int32) = (18:Int32) by decide), if_neg (show ¬ (20:Int32) = (19:Int32) by decide), if_pos (show (20:Int32) = (20:Int32) from rfl)]
  unfold fq_askTerms bq_askTerms_0
  rw [if_pos (show (13:Int32) ≤ (20:Int32) by decide), if_neg (show ¬ (29:Int32) ≤ (20:Int32) by decide), if_neg (show ¬ (20:Int32) = (13:Int32) by decide), if_neg (show ¬ (20:Int32) = (21:Int32) by decide), if_neg (show ¬ (20:Int32) = (23:Int32) by decide), if_neg (show ¬ (20:Int32) = (14:Int32) by decide), if_neg (show ¬ (20:Int32) = (16:Int32) by decide), if_neg (show ¬ (20:Int32) = (18:Int32) by decide), if_neg (show ¬ (20:Int32) = (19:Int32) by decide), if_pos (show (20:Int32) = (20:Int32) from rfl)]
  have A := ask_mk v h (kk := 9) (by omega)
  have R := h.ctx.co.rg 3 (by omega)
  apply w_o
  apply w_l
  have eq : q_mk 9 (σ.1 (86 + 135 * s + 12 * p) 1) (σ.1 (86 + 135 * s + 12 * p) 2) (σ.1 (86 + 135 * s + 12 * p) 3) ρ = bq_askTerms_137 (20:Int32) (σ.1 (86 + 135 * s + 12 * p) 1) (σ.1 (86 + 135 * s + 12 * p) 2) ρ := by
    unfold q_mk bq_askTerms_137 bq_askTerms_142 bq_askTerms_165 bq_askTerms_186
    rcases h.hnd (σ.1 (86 + 135 * s + 12 * p) 1) with ⟨t, ht, -, f2, -, f4⟩ | ⟨-, f2, -⟩
    rotate_left
    · rw [f2, bd2n, bd2n, if_pos rfl, if_pos rfl]
    rw [f2, bd2n, bd2n, if_neg z1, if_neg z1]
    rw [if_neg (show ¬ prc 9 = 1 by decide), if_neg z1]
    rcases h.hnd (σ.1 (86 + 135 * s + 12 * p) 2) with ⟨t', ht', -, g2, -, g4⟩ | ⟨-, g2, -⟩
    rotate_left
    · rw [g2, bd2n, bd2n, if_pos rfl, if_pos rfl]
    rw [g2, bd2n, bd2n, if_neg z1, if_neg z1]
    rw [if_pos (show prc 9 = 2 from rfl), if_neg (show ¬ (20:Int32) = (19:Int32) by decide), f4, bd2n, bd2n, if_neg (show ¬ (20:Int32) = (14:Int32) by decide), if_neg (show ¬ (20:Int32) = (15:Int32) by decide), if_neg (show ¬ (20:Int32) = (16:Int32) by decide), if_neg (show ¬ (20:Int32) = (17:Int32) by decide), if_neg (show ¬ (20:Int32) = (18:Int32) by decide), if_neg (show ¬ (20:Int32) = (19:Int32) by decide), if_pos (show (20:Int32) = (20:Int32) from rfl), g4, bd2n, bd2n]
    rfl
  rw [← eq]
  exact A
theorem ans_21 (v : KV K) (h : Ak K W b k s p σ ρ) : Sim (fc_X5_answer (47 + 132 * s) (some (83 + 135 * s + 12 * p)) (21:Int32) σ) (q_ans (21:Int32) (σ.1 (86 + 135 * s + 12 * p) 1) (σ.1 (86 + 135 * s + 12 * p) 2) ρ) (AkS K W b k s p ρ) := by
  have s2 := h.s2
  have p8 := h.p8
  have e33 := h.R.T.C.tms.2.2.1
  have z1 : ¬ (1:Int32) = 0 := by decide
  have b3 := (a_83 (s := s) (p := p))
  obtain ⟨r, er⟩ : ∃ r, fc_X8_at (92 + 135 * s + 12 * p) (σ.1 (86 + 135 * s + 12 * p) 1) σ = some (r, σ) := by
    rcases h.hnd (σ.1 (86 + 135 * s + 12 * p) 1) with ⟨t, ht, -, -, f3, -⟩ | ⟨-, -, f3⟩
    · exact ⟨_, f3⟩
    · exact ⟨_, f3⟩
  unfold fc_X5_answer bc_X5_answer_0 q_ans
  rw [nnn, ix1, vln, show (1:Int32).toNatClampNeg = 1 from rfl, b3.1, b3.2.2, b3.2.1]
  rw [er, bd2n]
  rw [if_neg (show ¬ (21:Int32) = (0:Int32) by decide), if_neg (show ¬ (21:Int32) = (1:Int32) by decide), if_neg (show ¬ (21:Int32) = (2:Int32) by decide), if_neg (show ¬ (21:Int32) = (3:Int32) by decide), if_neg (show ¬ (21:Int32) = (4:Int32) by decide), if_neg (show ¬ (21:Int32) = (5:Int32) by decide), if_neg (show ¬ (21:Int32) = (6:Int32) by decide), if_neg (show ¬ (21:Int32) = (7:Int32) by decide), if_neg (show ¬ (21:Int32) = (8:Int32) by decide), if_neg (show ¬ (21:Int32) = (9:Int32) by decide), if_neg (show ¬ (21:Int32) = (10:Int32) by decide), if_neg (show ¬ (21:Int32) = (11:Int32) by decide), if_neg (show ¬ (21:Int32) = (12:Int32) by decide), if_neg (show ¬ (21:Int32) = (13:Int32) by decide), if_neg (show ¬ (21:Int32) = (14:Int32) by decide), if_neg (show ¬ (21:Int32) = (15:Int32) by decide), if_neg (show ¬ (21:Int32) = (16:Int32) by decide), if_neg (show ¬ (21:Int32) = (17:Int32) by decide), if_neg (show ¬ (21:Int32) = (18:Int32) by decide), if_neg (show ¬ (21:Int32) = (19:Int32) by decide), if_neg (show ¬ (21:Int32) = (20:Int32) by decide), if_pos (show (21:Int32) = (21:Int32) from rfl)]
  unfold fq_askTerms bq_askTerms_0
  rw [if_pos (show (13:Int32) ≤ (21:Int32) by decide), if_neg (show ¬ (29:Int32) ≤ (21:Int32) by decide), if_neg (show ¬ (21:Int32) = (13:Int32) by decide), if_pos (show (21:Int32) = (21:Int32) from rfl)]
  exact w_o (w_l (w_r (ask_secret v h)))
theorem ans_22 (v : KV K) (h : Ak K W b k s p σ ρ) : Sim (fc_X5_answer (47 + 132 * s) (some (83 + 135 * s + 12 * p)) (22:Int32) σ) (q_ans (22:Int32) (σ.1 (86 + 135 * s + 12 * p) 1) (σ.1 (86 + 135 * s + 12 * p) 2) ρ) (AkS K W b k s p ρ) := by
  have s2 := h.s2
  have p8 := h.p8
  have e33 := h.R.T.C.tms.2.2.1
  have z1 : ¬ (1:Int32) = 0 := by decide
  have b3 := (a_83 (s := s) (p := p))
  obtain ⟨r, er⟩ : ∃ r, fc_X8_at (92 + 135 * s + 12 * p) (σ.1 (86 + 135 * s + 12 * p) 1) σ = some (r, σ) := by
    rcases h.hnd (σ.1 (86 + 135 * s + 12 * p) 1) with ⟨t, ht, -, -, f3, -⟩ | ⟨-, -, f3⟩
    · exact ⟨_, f3⟩
    · exact ⟨_, f3⟩
  unfold fc_X5_answer bc_X5_answer_0 q_ans
  rw [nnn, ix1, vln, show (1:Int32).toNatClampNeg = 1 from rfl, b3.1, b3.2.2, b3.2.1]
  rw [er, bd2n]
  rw [if_neg (show ¬ (22:Int32) = (0:Int32) by decide), if_neg (show ¬ (22:Int32) = (1:Int32) by decide), if_neg (show ¬ (22:Int32) = (2:Int32) by decide), if_neg (show ¬ (22:Int32) = (3:Int32) by decide), if_neg (show ¬ (22:Int32) = (4:Int32) by decide), if_neg (show ¬ (22:Int32) = (5:Int32) by decide), if_neg (show ¬ (22:Int32) = (6:Int32) by decide), if_neg (show ¬ (22:Int32) = (7:Int32) by decide), if_neg (show ¬ (22:Int32) = (8:Int32) by decide), if_neg (show ¬ (22:Int32) = (9:Int32) by decide), if_neg (show ¬ (22:Int32) = (10:Int32) by decide), if_neg (show ¬ (22:Int32) = (11:Int32) by decide), if_neg (show ¬ (22:Int32) = (12:Int32) by decide), if_neg (show ¬ (22:Int32) = (13:Int32) by decide), if_neg (show ¬ (22:Int32) = (14:Int32) by decide), if_neg (show ¬ (22:Int32) = (15:Int32) by decide), if_neg (show ¬ (22:Int32) = (16:Int32) by decide), if_neg (show ¬ (22:Int32) = (17:Int32) by decide), if_neg (show ¬ (22:Int32) = (18:Int32) by decide), if_neg (show ¬ (22:Int32) = (19:Int32) by decide), if_neg (show ¬ (22:Int32) = (20:Int32) by decide), if_neg (show ¬ (22:Int32) = (21:Int32) by decide), if_pos (show (22:Int32) = (22:Int32) from rfl)]
  unfold fq_askTerms bq_askTerms_0
  rw [if_pos (show (13:Int32) ≤ (22:Int32) by decide), if_neg (show ¬ (29:Int32) ≤ (22:Int32) by decide), if_neg (show ¬ (22:Int32) = (13:Int32) by decide), if_neg (show ¬ (22:Int32) = (21:Int32) by decide), if_neg (show ¬ (22:Int32) = (23:Int32) by decide), if_neg (show ¬ (22:Int32) = (14:Int32) by decide), if_neg (show ¬ (22:Int32) = (16:Int32) by decide), if_neg (show ¬ (22:Int32) = (18:Int32) by decide), if_neg (show ¬ (22:Int32) = (19:Int32) by decide), if_neg (show ¬ (22:Int32) = (20:Int32) by decide), if_neg (show ¬ (22:Int32) = (27:Int32) by decide), if_neg (show ¬ (22:Int32) = (28:Int32) by decide)]
  have A := ask_kind h (σ.1 (86 + 135 * s + 12 * p) 1)
  rw [er, bd2n] at A
  unfold bq_askTerms_142 bq_askTerms_165 bq_askTerms_186
  apply w_o
  rcases h.hnd (σ.1 (86 + 135 * s + 12 * p) 1) with ⟨t, ht, -, f2, -, f4⟩ | ⟨-, f2, -⟩
  · rw [f2, bd2n, if_neg z1, f4, bd2n] at A
    rw [f2, bd2n, if_neg z1, if_pos rfl, if_neg (show ¬ (22:Int32) = (19:Int32) by decide), f4, bd2n, if_neg (show ¬ (22:Int32) = (14:Int32) by decide), if_neg (show ¬ (22:Int32) = (15:Int32) by decide), if_neg (show ¬ (22:Int32) = (16:Int32) by decide), if_neg (show ¬ (22:Int32) = (17:Int32) by decide), if_neg (show ¬ (22:Int32) = (18:Int32) by decide), if_neg (show ¬ (22:Int32) = (19:Int32) by decide), if_neg (show ¬ (22:Int32) = (20:Int32) by decide), if_pos (show (22:Int32) = (22:Int32) from rfl)]
    exact A
  · rw [f2, bd2n, if_pos rfl] at A
    rw [f2, bd2n, if_pos rfl]
    exact A
theorem ans_23 (v : KV K) (h : Ak K W b k s p σ ρ) : Sim (fc_X5_answer (47 + 132 * s) (some (83 + 135 * s + 12 * p)) (23:Int32) σ) (q_ans (23:Int32) (σ.1 (86 + 135 * s + 12 * p) 1) (σ.1 (86 + 135 * s + 12 * p) 2) ρ) (AkS K W b k s p ρ) := by
  have s2 := h.s2
  have p8 := h.p8
  have e33 := h.R.T.C.tms.2.2.1
  have z1 : ¬ (1:Int32) = 0 := by decide
  have b3 := (a_83 (s := s) (p := p))
  obtain ⟨r, er⟩ : ∃ r, fc_X8_at (92 + 135 * s + 12 * p) (σ.1 (86 + 135 * s + 12 * p) 1) σ = some (r, σ) := by
    rcases h.hnd (σ.1 (86 + 135 * s + 12 * p) 1) with ⟨t, ht, -, -, f3, -⟩ | ⟨-, -, f3⟩
    · exact ⟨_, f3⟩
    · exact ⟨_, f3⟩
  unfold fc_X5_answer bc_X5_answer_0 q_ans
  rw [nnn, ix1, vln, show (1:Int32).toNatClampNeg = 1 from rfl, b3.1, b3.2.2, b3.2.1]
  rw [er, bd2n]
  rw [if_neg (show ¬ (23:Int32) = (0:Int32) by decide), if_neg (show ¬ (23:Int32) = (1:Int32) by decide), if_neg (show ¬ (23:Int32) = (2:Int32) by decide), if_neg (show ¬ (23:Int32) = (3:Int32) by decide), if_neg (show ¬ (23:Int32) = (4:Int32) by decide), if_neg (show ¬ (23:Int32) = (5:Int32) by decide), if_neg (show ¬ (23:Int32) = (6:Int32) by decide), if_neg (show ¬ (23:Int32) = (7:Int32) by decide), if_neg (show ¬ (23:Int32) = (8:Int32) by decide), if_neg (show ¬ (23:Int32) = (9:Int32) by decide), if_neg (show ¬ (23:Int32) = (10:Int32) by decide), if_neg (show ¬ (23:Int32) = (11:Int32) by decide), if_neg (show ¬ (23:Int32) = (12:Int32) by decide), if_neg (show ¬ (23:Int32) = (13:Int32) by decide), if_neg (show ¬ (23:Int32) = (14:Int32) by decide), if_neg (show ¬ (23:Int32) = (15:Int32) by decide), if_neg (show ¬ (23:Int32) = (16:Int32) by decide), if_neg (show ¬ (23:Int32) = (17:Int32) by decide), if_neg (show ¬ (23:Int32) = (18:Int32) by decide), if_neg (show ¬ (23:Int32) = (19:Int32) by decide), if_neg (show ¬ (23:Int32) = (20:Int32) by decide), if_neg (show ¬ (23:Int32) = (21:Int32) by decide), if_neg (show ¬ (23:Int32) = (22:Int32) by decide), if_pos (show (23:Int32) = (23:Int32) from rfl)]
  unfold fq_askTerms bq_askTerms_0
  rw [if_pos (show (13:Int32) ≤ (23:Int32) by decide), if_neg (show ¬ (29:Int32) ≤ (23:Int32) by decide), if_neg (show ¬ (23:Int32) = (13:Int32) by decide), if_neg (show ¬ (23:Int32) = (21:Int32) by decide), if_pos (show (23:Int32) = (23:Int32) from rfl)]
  have A := ask_number h (σ.1 (86 + 135 * s + 12 * p) 1)
  rw [er, bd2n] at A
  exact w_o A
theorem ans_24 (v : KV K) (h : Ak K W b k s p σ ρ) : Sim (fc_X5_answer (47 + 132 * s) (some (83 + 135 * s + 12 * p)) (24:Int32) σ) (q_ans (24:Int32) (σ.1 (86 + 135 * s + 12 * p) 1) (σ.1 (86 + 135 * s + 12 * p) 2) ρ) (AkS K W b k s p ρ) := by
  have s2 := h.s2
  have p8 := h.p8
  have e33 := h.R.T.C.tms.2.2.1
  have z1 : ¬ (1:Int32) = 0 := by decide
  have b3 := (a_83 (s := s) (p := p))
  obtain ⟨r, er⟩ : ∃ r, fc_X8_at (92 + 135 * s + 12 * p) (σ.1 (86 + 135 * s + 12 * p) 1) σ = some (r, σ) := by
    rcases h.hnd (σ.1 (86 + 135 * s + 12 * p) 1) with ⟨t, ht, -, -, f3, -⟩ | ⟨-, -, f3⟩
    · exact ⟨_, f3⟩
    · exact ⟨_, f3⟩
  unfold fc_X5_answer bc_X5_answer_0 q_ans
  rw [nnn, ix1, vln, show (1:Int32).toNatClampNeg = 1 from rfl, b3.1, b3.2.2, b3.2.1]
  rw [er, bd2n]
  rw [if_neg (show ¬ (24:Int32) = (0:Int32) by decide), if_neg (show ¬ (24:Int32) = (1:Int32) by decide), if_neg (show ¬ (24:Int32) = (2:Int32) by decide), if_neg (show ¬ (24:Int32) = (3:Int32) by decide), if_neg (show ¬ (24:Int32) = (4:Int32) by decide), if_neg (show ¬ (24:Int32) = (5:Int32) by decide), if_neg (show ¬ (24:Int32) = (6:Int32) by decide), if_neg (show ¬ (24:Int32) = (7:Int32) by decide), if_neg (show ¬ (24:Int32) = (8:Int32) by decide), if_neg (show ¬ (24:Int32) = (9:Int32) by decide), if_neg (show ¬ (24:Int32) = (10:Int32) by decide), if_neg (show ¬ (24:Int32) = (11:Int32) by decide), if_neg (show ¬ (24:Int32) = (12:Int32) by decide), if_neg (show ¬ (24:Int32) = (13:Int32) by decide), if_neg (show ¬ (24:Int32) = (14:Int32) by decide), if_neg (show ¬ (24:Int32) = (15:Int32) by decide), if_neg (show ¬ (24:Int32) = (16:Int32) by decide), if_neg (show ¬ (24:Int32) = (17:Int32) by decide), if_neg (show ¬ (24:Int32) = (18:Int32) by decide), if_neg (show ¬ (24:Int32) = (19:Int32) by decide), if_neg (show ¬ (24:Int32) = (20:Int32) by decide), if_neg (show ¬ (24:Int32) = (21:Int32) by decide), if_neg (show ¬ (24:Int32) = (22:Int32) by decide), if_neg (show ¬ (24:Int32) = (23:Int32) by decide), if_pos (show (24:Int32) = (24:Int32) from rfl)]
  unfold fq_askTerms bq_askTerms_0
  rw [if_pos (show (13:Int32) ≤ (24:Int32) by decide), if_neg (show ¬ (29:Int32) ≤ (24:Int32) by decide), if_neg (show ¬ (24:Int32) = (13:Int32) by decide), if_neg (show ¬ (24:Int32) = (21:Int32) by decide), if_neg (show ¬ (24:Int32) = (23:Int32) by decide), if_neg (show ¬ (24:Int32) = (14:Int32) by decide), if_neg (show ¬ (24:Int32) = (16:Int32) by decide), if_neg (show ¬ (24:Int32) = (18:Int32) by decide), if_neg (show ¬ (24:Int32) = (19:Int32) by decide), if_neg (show ¬ (24:Int32) = (20:Int32) by decide), if_neg (show ¬ (24:Int32) = (27:Int32) by decide), if_neg (show ¬ (24:Int32) = (28:Int32) by decide)]
  have hN := h.R.T.Q.n.2
  unfold bq_askTerms_142 bq_askTerms_165 bq_askTerms_186
  apply w_o
  rcases h.hnd (σ.1 (86 + 135 * s + 12 * p) 1) with ⟨t, ht, -, f2, f3, f4⟩ | ⟨-, f2, f3⟩
  · rw [f3] at er
    obtain rfl : some (W.tm t) = r := by
      have := Option.some.inj er
      rw [Prod.mk.injEq] at this
      exact this.1
    have A := look_into h ht (kk := 3) (by omega) (r := σ.2.2.1 (W.tm t) 3) (v := ρ.1 2 t) (fun e => by
      obtain ⟨a, ha, ea, ra⟩ := h.R.T.prA ht (by omega) e
      exact ⟨a, ha, ea, ra⟩)
    rw [f2, bd2n, if_neg z1, if_pos rfl, if_neg (show ¬ (24:Int32) = (19:Int32) by decide), f4, bd2n, if_neg (show ¬ (24:Int32) = (14:Int32) by decide), if_neg (show ¬ (24:Int32) = (15:Int32) by decide), if_neg (show ¬ (24:Int32) = (16:Int32) by decide), if_neg (show ¬ (24:Int32) = (17:Int32) by decide), if_neg (show ¬ (24:Int32) = (18:Int32) by decide), if_neg (show ¬ (24:Int32) = (19:Int32) by decide), if_neg (show ¬ (24:Int32) = (20:Int32) by decide), if_neg (show ¬ (24:Int32) = (22:Int32) by decide), if_pos (show (24:Int32) = (24:Int32) from rfl), nnn, vln]
    refine w_l ?_
    unfold bq_askTerms_374 bq_askTerms_409
    rw [n_ix (show t < 112000 by omega) (by omega), n_cl (show t < 2147483648 by omega)]
    by_cases c : ρ.1 1 t = (3:Int32)
    · have A' := A
      rw [if_pos (show ρ.1 1 t = nI 3 from c)] at A'
      rw [if_pos c, if_pos (show (24:Int32) = (24:Int32) from rfl), n_ix (show t < 112000 by omega) (by omega)]
      exact A'
    · have A' := A
      rw [if_neg (show ¬ ρ.1 1 t = nI 3 from c)] at A'
      rw [if_neg c]
      exact A'
  · rw [f3] at er
    obtain rfl : some 33 = r := by
      have := Option.some.inj er
      rw [Prod.mk.injEq] at this
      exact this.1
    unfold fc_X5_lookInto bc_X5_lookInto_0
    rw [f2, bd2n, if_pos rfl, nnn, vln, vln, e33, if_pos rfl, bd2n]
    exact Sim.mk (AkO.same h _)
theorem ans_25 (v : KV K) (h : Ak K W b k s p σ ρ) : Sim (fc_X5_answer (47 + 132 * s) (some (83 + 135 * s + 12 * p)) (25:Int32) σ) (q_ans (25:Int32) (σ.1 (86 + 135 * s + 12 * p) 1) (σ.1 (86 + 135 * s + 12 * p) 2) ρ) (AkS K W b k s p ρ) := by
  have s2 := h.s2
  have p8 := h.p8
  have e33 := h.R.T.C.tms.2.2.1
  have z1 : ¬ (1:Int32) = 0 := by decide
  have b3 := (a_83 (s := s) (p := p))
  obtain ⟨r, er⟩ : ∃ r, fc_X8_at (92 + 135 * s + 12 * p) (σ.1 (86 + 135 * s + 12 * p) 1) σ = some (r, σ) := by
    rcases h.hnd (σ.1 (86 + 135 * s + 12 * p) 1) with ⟨t, ht, -, -, f3, -⟩ | ⟨-, -, f3⟩
    · exact ⟨_, f3⟩
    · exact ⟨_, f3⟩
  unfold fc_X5_answer bc_X5_answer_0 q_ans
  rw [nnn, ix1, vln, show (1:Int32).toNatClampNeg = 1 from rfl, b3.1, b3.2.2, b3.2.1]
  rw [er, bd2n]
  rw [if_neg (show ¬ (25:Int32) = (0:Int32) by decide), if_neg (show ¬ (25:Int32) = (1:Int32) by decide), if_neg (show ¬ (25:Int32) = (2:Int32) by decide), if_neg (show ¬ (25:Int32) = (3:Int32) by decide), if_neg (show ¬ (25:Int32) = (4:Int32) by decide), if_neg (show ¬ (25:Int32) = (5:Int32) by decide), if_neg (show ¬ (25:Int32) = (6:Int32) by decide), if_neg (show ¬ (25:Int32) = (7:Int32) by decide), if_neg (show ¬ (25:Int32) = (8:Int32) by decide), if_neg (show ¬ (25:Int32) = (9:Int32) by decide), if_neg (show ¬ (25:Int32) = (10:Int32) by decide), if_neg (show ¬ (25:Int32) = (11:Int32) by decide), if_neg (show ¬ (25:Int32) = (12:Int32) by decide), if_neg (show ¬ (25:Int32) = (13:Int32) by decide), if_neg (show ¬ (25:Int32) = (14:Int32) by decide), if_neg (show ¬ (25:Int32) = (15:Int32) by decide), if_neg (show ¬ (25:Int32) = (16:Int32) by decide), if_neg (show ¬ (25:Int32) = (17:Int32) by decide), if_neg (show ¬ (25:Int32) = (18:Int32) by decide), if_neg (show ¬ (25:Int32) = (19:Int32) by decide), if_neg (show ¬ (25:Int32) = (20:Int32) by decide), if_neg (show ¬ (25:Int32) = (21:Int32) by decide), if_neg (show ¬ (25:Int32) = (22:Int32) by decide), if_neg (show ¬ (25:Int32) = (23:Int32) by decide), if_neg (show ¬ (25:Int32) = (24:Int32) by decide), if_pos (show (25:Int32) = (25:Int32) from rfl)]
  unfold fq_askTerms bq_askTerms_0
  rw [if_pos (show (13:Int32) ≤ (25:Int32) by decide), if_neg (show ¬ (29:Int32) ≤ (25:Int32) by decide), if_neg (show ¬ (25:Int32) = (13:Int32) by decide), if_neg (show ¬ (25:Int32) = (21:Int32) by decide), if_neg (show ¬ (25:Int32) = (23:Int32) by decide), if_neg (show ¬ (25:Int32) = (14:Int32) by decide), if_neg (show ¬ (25:Int32) = (16:Int32) by decide), if_neg (show ¬ (25:Int32) = (18:Int32) by decide), if_neg (show ¬ (25:Int32) = (19:Int32) by decide), if_neg (show ¬ (25:Int32) = (20:Int32) by decide), if_neg (show ¬ (25:Int32) = (27:Int32) by decide), if_neg (show ¬ (25:Int32) = (28:Int32) by decide)]
  have hN := h.R.T.Q.n.2
  unfold bq_askTerms_142 bq_askTerms_165 bq_askTerms_186
  apply w_o
  rcases h.hnd (σ.1 (86 + 135 * s + 12 * p) 1) with ⟨t, ht, -, f2, f3, f4⟩ | ⟨-, f2, f3⟩
  · rw [f3] at er
    obtain rfl : some (W.tm t) = r := by
      have := Option.some.inj er
      rw [Prod.mk.injEq] at this
      exact this.1
    have A := look_into h ht (kk := 3) (by omega) (r := σ.2.2.1 (W.tm t) 4) (v := ρ.1 3 t) (fun e => by
      obtain ⟨a, ha, ea, ra⟩ := h.R.T.prB ht (by omega) (by omega) (by omega) e
      exact ⟨a, ha, ea, ra⟩)
    rw [f2, bd2n, if_neg z1, if_pos rfl, if_neg (show ¬ (25:Int32) = (19:Int32) by decide), f4, bd2n, if_neg (show ¬ (25:Int32) = (14:Int32) by decide), if_neg (show ¬ (25:Int32) = (15:Int32) by decide), if_neg (show ¬ (25:Int32) = (16:Int32) by decide), if_neg (show ¬ (25:Int32) = (17:Int32) by decide), if_neg (show ¬ (25:Int32) = (18:Int32) by decide), if_neg (show ¬ (25:Int32) = (19:Int32) by decide), if_neg (show ¬ (25:Int32) = (20:Int32) by decide), if_neg (show ¬ (25:Int32) = (22:Int32) by decide), if_neg (show ¬ (25:Int32) = (24:Int32) by decide), if_pos (show (25:Int32) = (25:Int32) from rfl), nnn, vln]
    refine w_l ?_
    unfold bq_askTerms_374 bq_askTerms_409
    rw [n_ix (show t < 112000 by omega) (by omega), n_cl (show t < 2147483648 by omega)]
    by_cases c : ρ.1 1 t = (3:Int32)
    · have A' := A
      rw [if_pos (show ρ.1 1 t = nI 3 from c)] at A'
      rw [if_pos c, if_neg (show ¬ (25:Int32) = (24:Int32) by decide), n_ix (show t < 112000 by omega) (by omega)]
      exact A'
    · have A' := A
      rw [if_neg (show ¬ ρ.1 1 t = nI 3 from c)] at A'
      rw [if_neg c]
      exact A'
  · rw [f3] at er
    obtain rfl : some 33 = r := by
      have := Option.some.inj er
      rw [Prod.mk.injEq] at this
      exact this.1
    unfold fc_X5_lookInto bc_X5_lookInto_0
    rw [f2, bd2n, if_pos rfl, nnn, vln, vln, e33, if_pos rfl, bd2n]
    exact Sim.mk (AkO.same h _)
theorem ans_26 (v : KV K) (h : Ak K W b k s p σ ρ) : Sim (fc_X5_answer (47 + 132 * s) (some (83 + 135 * s + 12 * p)) (26:Int32) σ) (q_ans (26:Int32) (σ.1 (86 + 135 * s + 12 * p) 1) (σ.1 (86 + 135 * s + 12 * p) 2) ρ) (AkS K W b k s p ρ) := by
  have s2 := h.s2
  have p8 := h.p8
  have e33 := h.R.T.C.tms.2.2.1
  have z1 : ¬ (1:Int32) = 0 := by decide
  have b3 := (a_83 (s := s) (p := p))
  obtain ⟨r, er⟩ : ∃ r, fc_X8_at (92 + 135 * s + 12 * p) (σ.1 (86 + 135 * s + 12 * p) 1) σ = some (r, σ) := by
    rcases h.hnd (σ.1 (86 + 135 * s + 12 * p) 1) with ⟨t, ht, -, -, f3, -⟩ | ⟨-, -, f3⟩
    · exact ⟨_, f3⟩
    · exact ⟨_, f3⟩
  unfold fc_X5_answer bc_X5_answer_0 q_ans
  rw [nnn, ix1, vln, show (1:Int32).toNatClampNeg = 1 from rfl, b3.1, b3.2.2, b3.2.1]
  rw [er, bd2n]
  rw [if_neg (show ¬ (26:Int32) = (0:Int32) by decide), if_neg (show ¬ (26:Int32) = (1:Int32) by decide), if_neg (show ¬ (26:Int32) = (2:Int32) by decide), if_neg (show ¬ (26:Int32) = (3:Int32) by decide), if_neg (show ¬ (26:Int32) = (4:Int32) by decide), if_neg (show ¬ (26:Int32) = (5:Int32) by decide), if_neg (show ¬ (26:Int32) = (6:Int32) by decide), if_neg (show ¬ (26:Int32) = (7:Int32) by decide), if_neg (show ¬ (26:Int32) = (8:Int32) by decide), if_neg (show ¬ (26:Int32) = (9:Int32) by decide), if_neg (show ¬ (26:Int32) = (10:Int32) by decide), if_neg (show ¬ (26:Int32) = (11:Int32) by decide), if_neg (show ¬ (26:Int32) = (12:Int32) by decide), if_neg (show ¬ (26:Int32) = (13:Int32) by decide), if_neg (show ¬ (26:Int32) = (14:Int32) by decide), if_neg (show ¬ (26:Int32) = (15:Int32) by decide), if_neg (show ¬ (26:Int32) = (16:Int32) by decide), if_neg (show ¬ (26:Int32) = (17:Int32) by decide), if_neg (show ¬ (26:Int32) = (18:Int32) by decide), if_neg (show ¬ (26:Int32) = (19:Int32) by decide), if_neg (show ¬ (26:Int32) = (20:Int32) by decide), if_neg (show ¬ (26:Int32) = (21:Int32) by decide), if_neg (show ¬ (26:Int32) = (22:Int32) by decide), if_neg (show ¬ (26:Int32) = (23:Int32) by decide), if_neg (show ¬ (26:Int32) = (24:Int32) by decide), if_neg (show ¬ (26:Int32) = (25:Int32) by decide), if_pos (show (26:Int32) = (26:Int32) from rfl)]
  unfold fq_askTerms bq_askTerms_0
  rw [if_pos (show (13:Int32) ≤ (26:Int32) by decide), if_neg (show ¬ (29:Int32) ≤ (26:Int32) by decide), if_neg (show ¬ (26:Int32) = (13:Int32) by decide), if_neg (show ¬ (26:Int32) = (21:Int32) by decide), if_neg (show ¬ (26:Int32) = (23:Int32) by decide), if_neg (show ¬ (26:Int32) = (14:Int32) by decide), if_neg (show ¬ (26:Int32) = (16:Int32) by decide), if_neg (show ¬ (26:Int32) = (18:Int32) by decide), if_neg (show ¬ (26:Int32) = (19:Int32) by decide), if_neg (show ¬ (26:Int32) = (20:Int32) by decide), if_neg (show ¬ (26:Int32) = (27:Int32) by decide), if_neg (show ¬ (26:Int32) = (28:Int32) by decide)]
  have hN := h.R.T.Q.n.2
  unfold bq_askTerms_142 bq_askTerms_165 bq_askTerms_186
  apply w_o
  rcases h.hnd (σ.1 (86 + 135 * s + 12 * p) 1) with ⟨t, ht, -, f2, f3, f4⟩ | ⟨-, f2, f3⟩
  · rw [f3] at er
    obtain rfl : some (W.tm t) = r := by
      have := Option.some.inj er
      rw [Prod.mk.injEq] at this
      exact this.1
    have A := look_into h ht (kk := 7) (by omega) (r := σ.2.2.1 (W.tm t) 4) (v := ρ.1 3 t) (fun e => by
      obtain ⟨a, ha, ea, ra⟩ := h.R.T.prB ht (by omega) (by omega) (by omega) e
      exact ⟨a, ha, ea, ra⟩)
    rw [f2, bd2n, if_neg z1, if_pos rfl, if_neg (show ¬ (26:Int32) = (19:Int32) by decide), f4, bd2n, if_neg (show ¬ (26:Int32) = (14:Int32) by decide), if_neg (show ¬ (26:Int32) = (15:Int32) by decide), if_neg (show ¬ (26:Int32) = (16:Int32) by decide), if_neg (show ¬ (26:Int32) = (17:Int32) by decide), if_neg (show ¬ (26:Int32) = (18:Int32) by decide), if_neg (show ¬ (26:Int32) = (19:Int32) by decide), if_neg (show ¬ (26:Int32) = (20:Int32) by decide), if_neg (show ¬ (26:Int32) = (22:Int32) by decide), if_neg (show ¬ (26:Int32) = (24:Int32) by decide), if_neg (show ¬ (26:Int32) = (25:Int32) by decide), if_pos (show (26:Int32) = (26:Int32) from rfl), nnn, vln]
    refine w_l ?_
    rw [n_ix (show t < 112000 by omega) (by omega), n_cl (show t < 2147483648 by omega)]
    by_cases c : ρ.1 1 t = (7:Int32)
    · have A' := A
      rw [if_pos (show ρ.1 1 t = nI 7 from c)] at A'
      rw [if_pos c, n_ix (show t < 112000 by omega) (by omega)]
      exact A'
    · have A' := A
      rw [if_neg (show ¬ ρ.1 1 t = nI 7 from c)] at A'
      rw [if_neg c]
      exact A'
  · rw [f3] at er
    obtain rfl : some 33 = r := by
      have := Option.some.inj er
      rw [Prod.mk.injEq] at this
      exact this.1
    unfold fc_X5_lookInto bc_X5_lookInto_0
    rw [f2, bd2n, if_pos rfl, nnn, vln, vln, e33, if_pos rfl, bd2n]
    exact Sim.mk (AkO.same h _)
theorem ans_27 (v : KV K) (h : Ak K W b k s p σ ρ) : Sim (fc_X5_answer (47 + 132 * s) (some (83 + 135 * s + 12 * p)) (27:Int32) σ) (q_ans (27:Int32) (σ.1 (86 + 135 * s + 12 * p) 1) (σ.1 (86 + 135 * s + 12 * p) 2) ρ) (AkS K W b k s p ρ) := by
  have s2 := h.s2
  have p8 := h.p8
  have e33 := h.R.T.C.tms.2.2.1
  have z1 : ¬ (1:Int32) = 0 := by decide
  have b3 := (a_83 (s := s) (p := p))
  obtain ⟨r, er⟩ : ∃ r, fc_X8_at (92 + 135 * s + 12 * p) (σ.1 (86 + 135 * s + 12 * p) 1) σ = some (r, σ) := by
    rcases h.hnd (σ.1 (86 + 135 * s + 12 * p) 1) with ⟨t, ht, -, -, f3, -⟩ | ⟨-, -, f3⟩
    · exact ⟨_, f3⟩
    · exact ⟨_, f3⟩
  unfold fc_X5_answer bc_X5_answer_0 q_ans
  rw [nnn, ix1, vln, show (1:Int32).toNatClampNeg = 1 from rfl, b3.1, b3.2.2, b3.2.1]
  rw [er, bd2n]
  rw [if_neg (show ¬ (27:Int32) = (0:Int32) by decide), if_neg (show ¬ (27:Int32) = (1:Int32) by decide), if_neg (show ¬ (27:Int32) = (2:Int32) by decide), if_neg (show ¬ (27:Int32) = (3:Int32) by decide), if_neg (show ¬ (27:Int32) = (4:Int32) by decide), if_neg (show ¬ (27:Int32) = (5:Int32) by decide), if_neg (show ¬ (27:Int32) = (6:Int32) by decide), if_neg (show ¬ (27:Int32) = (7:Int32) by decide), if_neg (show ¬ (27:Int32) = (8:Int32) by decide), if_neg (show ¬ (27:Int32) = (9:Int32) by decide), if_neg (show ¬ (27:Int32) = (10:Int32) by decide), if_neg (show ¬ (27:Int32) = (11:Int32) by decide), if_neg (show ¬ (27:Int32) = (12:Int32) by decide), if_neg (show ¬ (27:Int32) = (13:Int32) by decide), if_neg (show ¬ (27:Int32) = (14:Int32) by decide), if_neg (show ¬ (27:Int32) = (15:Int32) by decide), if_neg (show ¬ (27:Int32) = (16:Int32) by decide), if_neg (show ¬ (27:Int32) = (17:Int32) by decide), if_neg (show ¬ (27:Int32) = (18:Int32) by decide), if_neg (show ¬ (27:Int32) = (19:Int32) by decide), if_neg (show ¬ (27:Int32) = (20:Int32) by decide), if_neg (show ¬ (27:Int32) = (21:Int32) by decide), if_neg (show ¬ (27:Int32) = (22:Int32) by decide), if_neg (show ¬ (27:Int32) = (23:Int32) by decide), if_neg (show ¬ (27:Int32) = (24:Int32) by decide), if_neg (show ¬ (27:Int32) = (25:Int32) by decide), if_neg (show ¬ (27:Int32) = (26:Int32) by decide), if_pos (show (27:Int32) = (27:Int32) from rfl)]
  unfold fq_askTerms bq_askTerms_0
  rw [if_pos (show (13:Int32) ≤ (27:Int32) by decide), if_neg (show ¬ (29:Int32) ≤ (27:Int32) by decide), if_neg (show ¬ (27:Int32) = (13:Int32) by decide), if_neg (show ¬ (27:Int32) = (21:Int32) by decide), if_neg (show ¬ (27:Int32) = (23:Int32) by decide), if_neg (show ¬ (27:Int32) = (14:Int32) by decide), if_neg (show ¬ (27:Int32) = (16:Int32) by decide), if_neg (show ¬ (27:Int32) = (18:Int32) by decide), if_neg (show ¬ (27:Int32) = (19:Int32) by decide), if_neg (show ¬ (27:Int32) = (20:Int32) by decide), if_pos (show (27:Int32) = (27:Int32) from rfl)]
  have A := ask_signed h (σ.1 (86 + 135 * s + 12 * p) 1)
  rw [er, bd2n] at A
  unfold bq_askTerms_137 bq_askTerms_142 bq_askTerms_165 bq_askTerms_186
  apply w_o
  rcases h.hnd (σ.1 (86 + 135 * s + 12 * p) 1) with ⟨t, ht, -, f2, -, f4⟩ | ⟨-, f2, -⟩
  · rw [f2, bd2n, if_neg z1] at A
    rw [f2, bd2n, if_neg z1, if_neg z1]
    rcases h.hnd (σ.1 (86 + 135 * s + 12 * p) 2) with ⟨t', ht', -, g2, -, g4⟩ | ⟨-, g2, -⟩
    · rw [g2, bd2n, if_neg z1, f4, bd2n] at A
      rw [g2, bd2n, if_neg z1, if_neg (show ¬ (27:Int32) = (19:Int32) by decide), f4, bd2n, if_neg (show ¬ (27:Int32) = (14:Int32) by decide), if_neg (show ¬ (27:Int32) = (15:Int32) by decide), if_neg (show ¬ (27:Int32) = (16:Int32) by decide), if_neg (show ¬ (27:Int32) = (17:Int32) by decide), if_neg (show ¬ (27:Int32) = (18:Int32) by decide), if_neg (show ¬ (27:Int32) = (19:Int32) by decide), if_neg (show ¬ (27:Int32) = (20:Int32) by decide), if_neg (show ¬ (27:Int32) = (22:Int32) by decide), if_neg (show ¬ (27:Int32) = (24:Int32) by decide), if_neg (show ¬ (27:Int32) = (25:Int32) by decide), if_neg (show ¬ (27:Int32) = (26:Int32) by decide), if_pos (show (27:Int32) = (27:Int32) from rfl)]
      exact A
    · rw [g2, bd2n, if_pos rfl] at A
      rw [g2, bd2n, if_pos rfl]
      exact A
  · rw [f2, bd2n, if_pos rfl] at A
    rw [f2, bd2n, if_pos rfl]
    exact A
theorem ans_28 (v : KV K) (h : Ak K W b k s p σ ρ) : Sim (fc_X5_answer (47 + 132 * s) (some (83 + 135 * s + 12 * p)) (28:Int32) σ) (q_ans (28:Int32) (σ.1 (86 + 135 * s + 12 * p) 1) (σ.1 (86 + 135 * s + 12 * p) 2) ρ) (AkS K W b k s p ρ) := by
  have s2 := h.s2
  have p8 := h.p8
  have e33 := h.R.T.C.tms.2.2.1
  have z1 : ¬ (1:Int32) = 0 := by decide
  have b3 := (a_83 (s := s) (p := p))
  obtain ⟨r, er⟩ : ∃ r, fc_X8_at (92 + 135 * s + 12 * p) (σ.1 (86 + 135 * s + 12 * p) 1) σ = some (r, σ) := by
    rcases h.hnd (σ.1 (86 + 135 * s + 12 * p) 1) with ⟨t, ht, -, -, f3, -⟩ | ⟨-, -, f3⟩
    · exact ⟨_, f3⟩
    · exact ⟨_, f3⟩
  unfold fc_X5_answer bc_X5_answer_0 q_ans
  rw [nnn, ix1, vln, show (1:Int32).toNatClampNeg = 1 from rfl, b3.1, b3.2.2, b3.2.1]
  rw [er, bd2n]
  rw [if_neg (show ¬ (28:Int32) = (0:Int32) by decide), if_neg (show ¬ (28:Int32) = (1:Int32) by decide), if_neg (show ¬ (28:Int32) = (2:Int32) by decide), if_neg (show ¬ (28:Int32) = (3:Int32) by decide), if_neg (show ¬ (28:Int32) = (4:Int32) by decide), if_neg (show ¬ (28:Int32) = (5:Int32) by decide), if_neg (show ¬ (28:Int32) = (6:Int32) by decide), if_neg (show ¬ (28:Int32) = (7:Int32) by decide), if_neg (show ¬ (28:Int32) = (8:Int32) by decide), if_neg (show ¬ (28:Int32) = (9:Int32) by decide), if_neg (show ¬ (28:Int32) = (10:Int32) by decide), if_neg (show ¬ (28:Int32) = (11:Int32) by decide), if_neg (show ¬ (28:Int32) = (12:Int32) by decide), if_neg (show ¬ (28:Int32) = (13:Int32) by decide), if_neg (show ¬ (28:Int32) = (14:Int32) by decide), if_neg (show ¬ (28:Int32) = (15:Int32) by decide), if_neg (show ¬ (28:Int32) = (16:Int32) by decide), if_neg (show ¬ (28:Int32) = (17:Int32) by decide), if_neg (show ¬ (28:Int32) = (18:Int32) by decide), if_neg (show ¬ (28:Int32) = (19:Int32) by decide), if_neg (show ¬ (28:Int32) = (20:Int32) by decide), if_neg (show ¬ (28:Int32) = (21:Int32) by decide), if_neg (show ¬ (28:Int32) = (22:Int32) by decide), if_neg (show ¬ (28:Int32) = (23:Int32) by decide), if_neg (show ¬ (28:Int32) = (24:Int32) by decide), if_neg (show ¬ (28:Int32) = (25:Int32) by decide), if_neg (show ¬ (28:Int32) = (26:Int32) by decide), if_neg (show ¬ (28:Int32) = (27:Int32) by decide), if_pos (show (28:Int32) = (28:Int32) from rfl)]
  unfold fq_askTerms bq_askTerms_0
  rw [if_pos (show (13:Int32) ≤ (28:Int32) by decide), if_neg (show ¬ (29:Int32) ≤ (28:Int32) by decide), if_neg (show ¬ (28:Int32) = (13:Int32) by decide), if_neg (show ¬ (28:Int32) = (21:Int32) by decide), if_neg (show ¬ (28:Int32) = (23:Int32) by decide), if_neg (show ¬ (28:Int32) = (14:Int32) by decide), if_neg (show ¬ (28:Int32) = (16:Int32) by decide), if_neg (show ¬ (28:Int32) = (18:Int32) by decide), if_neg (show ¬ (28:Int32) = (19:Int32) by decide), if_neg (show ¬ (28:Int32) = (20:Int32) by decide), if_neg (show ¬ (28:Int32) = (27:Int32) by decide), if_pos (show (28:Int32) = (28:Int32) from rfl)]
  have A := ask_open h (σ.1 (86 + 135 * s + 12 * p) 1)
  rw [er, bd2n] at A
  unfold bq_askTerms_137 bq_askTerms_142 bq_askTerms_165 bq_askTerms_186
  apply w_o
  rcases h.hnd (σ.1 (86 + 135 * s + 12 * p) 1) with ⟨t, ht, -, f2, -, f4⟩ | ⟨-, f2, -⟩
  · rw [f2, bd2n, if_neg z1] at A
    rw [f2, bd2n, if_neg z1, if_neg z1]
    rcases h.hnd (σ.1 (86 + 135 * s + 12 * p) 2) with ⟨t', ht', -, g2, -, g4⟩ | ⟨-, g2, -⟩
    · rw [g2, bd2n, if_neg z1, f4, bd2n] at A
      rw [g2, bd2n, if_neg z1, if_neg (show ¬ (28:Int32) = (19:Int32) by decide), f4, bd2n, if_neg (show ¬ (28:Int32) = (14:Int32) by decide), if_neg (show ¬ (28:Int32) = (15:Int32) by decide), if_neg (show ¬ (28:Int32) = (16:Int32) by decide), if_neg (show ¬ (28:Int32) = (17:Int32) by decide), if_neg (show ¬ (28:Int32) = (18:Int32) by decide), if_neg (show ¬ (28:Int32) = (19:Int32) by decide), if_neg (show ¬ (28:Int32) = (20:Int32) by decide), if_neg (show ¬ (28:Int32) = (22:Int32) by decide), if_neg (show ¬ (28:Int32) = (24:Int32) by decide), if_neg (show ¬ (28:Int32) = (25:Int32) by decide), if_neg (show ¬ (28:Int32) = (26:Int32) by decide), if_neg (show ¬ (28:Int32) = (27:Int32) by decide)]
      exact A
    · rw [g2, bd2n, if_pos rfl] at A
      rw [g2, bd2n, if_pos rfl]
      exact A
  · rw [f2, bd2n, if_pos rfl] at A
    rw [f2, bd2n, if_pos rfl]
    exact A
theorem ans_29 (v : KV K) (h : Ak K W b k s p σ ρ) : Sim (fc_X5_answer (47 + 132 * s) (some (83 + 135 * s + 12 * p)) (29:Int32) σ) (q_ans (29:Int32) (σ.1 (86 + 135 * s + 12 * p) 1) (σ.1 (86 + 135 * s + 12 * p) 2) ρ) (AkS K W b k s p ρ) := by
  have s2 := h.s2
  have p8 := h.p8
  have e33 := h.R.T.C.tms.2.2.1
  have z1 : ¬ (1:Int32) = 0 := by decide
  have b3 := (a_83 (s := s) (p := p))
  obtain ⟨r, er⟩ : ∃ r, fc_X8_at (92 + 135 * s + 12 * p) (σ.1 (86 + 135 * s + 12 * p) 1) σ = some (r, σ) := by
    rcases h.hnd (σ.1 (86 + 135 * s + 12 * p) 1) with ⟨t, ht, -, -, f3, -⟩ | ⟨-, -, f3⟩
    · exact ⟨_, f3⟩
    · exact ⟨_, f3⟩
  unfold fc_X5_answer bc_X5_answer_0 q_ans
  rw [nnn, ix1, vln, show (1:Int32).toNatClampNeg = 1 from rfl, b3.1, b3.2.2, b3.2.1]
  rw [er, bd2n]
  rw [if_neg (show ¬ (29:Int32) = (0:Int32) by decide), if_neg (show ¬ (29:Int32) = (1:Int32) by decide), if_neg (show ¬ (29:Int32) = (2:Int32) by decide), if_neg (show ¬ (29:Int32) = (3:Int32) by decide), if_neg (show ¬ (29:Int32) = (4:Int32) by decide), if_neg (show ¬ (29:Int32) = (5:Int32) by decide), if_neg (show ¬ (29:Int32) = (6:Int32) by decide), if_neg (show ¬ (29:Int32) = (7:Int32) by decide), if_neg (show ¬ (29:Int32) = (8:Int32) by decide), if_neg (show ¬ (29:Int32) = (9:Int32) by decide), if_neg (show ¬ (29:Int32) = (10:Int32) by decide), if_neg (show ¬ (29:Int32) = (11:Int32) by decide), if_neg (show ¬ (29:Int32) = (12:Int32) by decide), if_neg (show ¬ (29:Int32) = (13:Int32) by decide), if_neg (show ¬ (29:Int32) = (14:Int32) by decide), if_neg (show ¬ (29:Int32) = (15:Int32) by decide), if_neg (show ¬ (29:Int32) = (16:Int32) by decide), if_neg (show ¬ (29:Int32) = (17:Int32) by decide), if_neg (show ¬ (29:Int32) = (18:Int32) by decide), if_neg (show ¬ (29:Int32) = (19:Int32) by decide), if_neg (show ¬ (29:Int32) = (20:Int32) by decide), if_neg (show ¬ (29:Int32) = (21:Int32) by decide), if_neg (show ¬ (29:Int32) = (22:Int32) by decide), if_neg (show ¬ (29:Int32) = (23:Int32) by decide), if_neg (show ¬ (29:Int32) = (24:Int32) by decide), if_neg (show ¬ (29:Int32) = (25:Int32) by decide), if_neg (show ¬ (29:Int32) = (26:Int32) by decide), if_neg (show ¬ (29:Int32) = (27:Int32) by decide), if_neg (show ¬ (29:Int32) = (28:Int32) by decide), if_pos (show (29:Int32) = (29:Int32) from rfl)]
  unfold fq_askSealed bq_askSealed_0
  rw [if_pos (show (13:Int32) ≤ (29:Int32) by decide), if_pos (show (29:Int32) ≤ (29:Int32) by decide), if_pos (show (29:Int32) = (29:Int32) from rfl)]
  exact w_o (ask_measured h)
theorem ans_30 (v : KV K) (h : Ak K W b k s p σ ρ) : Sim (fc_X5_answer (47 + 132 * s) (some (83 + 135 * s + 12 * p)) (30:Int32) σ) (q_ans (30:Int32) (σ.1 (86 + 135 * s + 12 * p) 1) (σ.1 (86 + 135 * s + 12 * p) 2) ρ) (AkS K W b k s p ρ) := by
  have s2 := h.s2
  have p8 := h.p8
  have e33 := h.R.T.C.tms.2.2.1
  have z1 : ¬ (1:Int32) = 0 := by decide
  have b3 := (a_83 (s := s) (p := p))
  obtain ⟨r, er⟩ : ∃ r, fc_X8_at (92 + 135 * s + 12 * p) (σ.1 (86 + 135 * s + 12 * p) 1) σ = some (r, σ) := by
    rcases h.hnd (σ.1 (86 + 135 * s + 12 * p) 1) with ⟨t, ht, -, -, f3, -⟩ | ⟨-, -, f3⟩
    · exact ⟨_, f3⟩
    · exact ⟨_, f3⟩
  unfold fc_X5_answer bc_X5_answer_0 q_ans
  rw [nnn, ix1, vln, show (1:Int32).toNatClampNeg = 1 from rfl, b3.1, b3.2.2, b3.2.1]
  rw [er, bd2n]
  rw [if_neg (show ¬ (30:Int32) = (0:Int32) by decide), if_neg (show ¬ (30:Int32) = (1:Int32) by decide), if_neg (show ¬ (30:Int32) = (2:Int32) by decide), if_neg (show ¬ (30:Int32) = (3:Int32) by decide), if_neg (show ¬ (30:Int32) = (4:Int32) by decide), if_neg (show ¬ (30:Int32) = (5:Int32) by decide), if_neg (show ¬ (30:Int32) = (6:Int32) by decide), if_neg (show ¬ (30:Int32) = (7:Int32) by decide), if_neg (show ¬ (30:Int32) = (8:Int32) by decide), if_neg (show ¬ (30:Int32) = (9:Int32) by decide), if_neg (show ¬ (30:Int32) = (10:Int32) by decide), if_neg (show ¬ (30:Int32) = (11:Int32) by decide), if_neg (show ¬ (30:Int32) = (12:Int32) by decide), if_neg (show ¬ (30:Int32) = (13:Int32) by decide), if_neg (show ¬ (30:Int32) = (14:Int32) by decide), if_neg (show ¬ (30:Int32) = (15:Int32) by decide), if_neg (show ¬ (30:Int32) = (16:Int32) by decide), if_neg (show ¬ (30:Int32) = (17:Int32) by decide), if_neg (show ¬ (30:Int32) = (18:Int32) by decide), if_neg (show ¬ (30:Int32) = (19:Int32) by decide), if_neg (show ¬ (30:Int32) = (20:Int32) by decide), if_neg (show ¬ (30:Int32) = (21:Int32) by decide), if_neg (show ¬ (30:Int32) = (22:Int32) by decide), if_neg (show ¬ (30:Int32) = (23:Int32) by decide), if_neg (show ¬ (30:Int32) = (24:Int32) by decide), if_neg (show ¬ (30:Int32) = (25:Int32) by decide), if_neg (show ¬ (30:Int32) = (26:Int32) by decide), if_neg (show ¬ (30:Int32) = (27:Int32) by decide), if_neg (show ¬ (30:Int32) = (28:Int32) by decide), if_neg (show ¬ (30:Int32) = (29:Int32) by decide), if_pos (show (30:Int32) = (30:Int32) from rfl)]
  unfold fq_askSealed bq_askSealed_0
  rw [if_pos (show (13:Int32) ≤ (30:Int32) by decide), if_pos (show (29:Int32) ≤ (30:Int32) by decide), if_neg (show ¬ (30:Int32) = (29:Int32) by decide), if_pos (show (30:Int32) = (30:Int32) from rfl)]
  have A := ask_quote v h (σ.1 (86 + 135 * s + 12 * p) 1)
  rw [er, bd2n] at A
  exact w_o A
theorem ans_31 (v : KV K) (h : Ak K W b k s p σ ρ) : Sim (fc_X5_answer (47 + 132 * s) (some (83 + 135 * s + 12 * p)) (31:Int32) σ) (q_ans (31:Int32) (σ.1 (86 + 135 * s + 12 * p) 1) (σ.1 (86 + 135 * s + 12 * p) 2) ρ) (AkS K W b k s p ρ) := by
  have s2 := h.s2
  have p8 := h.p8
  have e33 := h.R.T.C.tms.2.2.1
  have z1 : ¬ (1:Int32) = 0 := by decide
  have b3 := (a_83 (s := s) (p := p))
  obtain ⟨r, er⟩ : ∃ r, fc_X8_at (92 + 135 * s + 12 * p) (σ.1 (86 + 135 * s + 12 * p) 1) σ = some (r, σ) := by
    rcases h.hnd (σ.1 (86 + 135 * s + 12 * p) 1) with ⟨t, ht, -, -, f3, -⟩ | ⟨-, -, f3⟩
    · exact ⟨_, f3⟩
    · exact ⟨_, f3⟩
  unfold fc_X5_answer bc_X5_answer_0 q_ans
  rw [nnn, ix1, vln, show (1:Int32).toNatClampNeg = 1 from rfl, b3.1, b3.2.2, b3.2.1]
  rw [er, bd2n]
  rw [if_neg (show ¬ (31:Int32) = (0:Int32) by decide), if_neg (show ¬ (31:Int32) = (1:Int32) by decide), if_neg (show ¬ (31:Int32) = (2:Int32) by decide), if_neg (show ¬ (31:Int32) = (3:Int32) by decide), if_neg (show ¬ (31:Int32) = (4:Int32) by decide), if_neg (show ¬ (31:Int32) = (5:Int32) by decide), if_neg (show ¬ (31:Int32) = (6:Int32) by decide), if_neg (show ¬ (31:Int32) = (7:Int32) by decide), if_neg (show ¬ (31:Int32) = (8:Int32) by decide), if_neg (show ¬ (31:Int32) = (9:Int32) by decide), if_neg (show ¬ (31:Int32) = (10:Int32) by decide), if_neg (show ¬ (31:Int32) = (11:Int32) by decide), if_neg (show ¬ (31:Int32) = (12:Int32) by decide), if_neg (show ¬ (31:Int32) = (13:Int32) by decide), if_neg (show ¬ (31:Int32) = (14:Int32) by decide), if_neg (show ¬ (31:Int32) = (15:Int32) by decide), if_neg (show ¬ (31:Int32) = (16:Int32) by decide), if_neg (show ¬ (31:Int32) = (17:Int32) by decide), if_neg (show ¬ (31:Int32) = (18:Int32) by decide), if_neg (show ¬ (31:Int32) = (19:Int32) by decide), if_neg (show ¬ (31:Int32) = (20:Int32) by decide), if_neg (show ¬ (31:Int32) = (21:Int32) by decide), if_neg (show ¬ (31:Int32) = (22:Int32) by decide), if_neg (show ¬ (31:Int32) = (23:Int32) by decide), if_neg (show ¬ (31:Int32) = (24:Int32) by decide), if_neg (show ¬ (31:Int32) = (25:Int32) by decide), if_neg (show ¬ (31:Int32) = (26:Int32) by decide), if_neg (show ¬ (31:Int32) = (27:Int32) by decide), if_neg (show ¬ (31:Int32) = (28:Int32) by decide), if_neg (show ¬ (31:Int32) = (29:Int32) by decide), if_neg (show ¬ (31:Int32) = (30:Int32) by decide), if_pos (show (31:Int32) = (31:Int32) from rfl)]
  unfold fq_askSealed bq_askSealed_0
  rw [if_pos (show (13:Int32) ≤ (31:Int32) by decide), if_pos (show (29:Int32) ≤ (31:Int32) by decide), if_neg (show ¬ (31:Int32) = (29:Int32) by decide), if_neg (show ¬ (31:Int32) = (30:Int32) by decide), if_pos (show (31:Int32) = (31:Int32) from rfl)]
  exact w_o (ask_public h)
theorem ans_32 (v : KV K) (h : Ak K W b k s p σ ρ) : Sim (fc_X5_answer (47 + 132 * s) (some (83 + 135 * s + 12 * p)) (32:Int32) σ) (q_ans (32:Int32) (σ.1 (86 + 135 * s + 12 * p) 1) (σ.1 (86 + 135 * s + 12 * p) 2) ρ) (AkS K W b k s p ρ) := by
  have s2 := h.s2
  have p8 := h.p8
  have e33 := h.R.T.C.tms.2.2.1
  have z1 : ¬ (1:Int32) = 0 := by decide
  have b3 := (a_83 (s := s) (p := p))
  obtain ⟨r, er⟩ : ∃ r, fc_X8_at (92 + 135 * s + 12 * p) (σ.1 (86 + 135 * s + 12 * p) 1) σ = some (r, σ) := by
    rcases h.hnd (σ.1 (86 + 135 * s + 12 * p) 1) with ⟨t, ht, -, -, f3, -⟩ | ⟨-, -, f3⟩
    · exact ⟨_, f3⟩
    · exact ⟨_, f3⟩
  unfold fc_X5_answer bc_X5_answer_0 q_ans
  rw [nnn, ix1, vln, show (1:Int32).toNatClampNeg = 1 from rfl, b3.1, b3.2.2, b3.2.1]
  rw [er, bd2n]
  rw [if_neg (show ¬ (32:Int32) = (0:Int32) by decide), if_neg (show ¬ (32:Int32) = (1:Int32) by decide), if_neg (show ¬ (32:Int32) = (2:Int32) by decide), if_neg (show ¬ (32:Int32) = (3:Int32) by decide), if_neg (show ¬ (32:Int32) = (4:Int32) by decide), if_neg (show ¬ (32:Int32) = (5:Int32) by decide), if_neg (show ¬ (32:Int32) = (6:Int32) by decide), if_neg (show ¬ (32:Int32) = (7:Int32) by decide), if_neg (show ¬ (32:Int32) = (8:Int32) by decide), if_neg (show ¬ (32:Int32) = (9:Int32) by decide), if_neg (show ¬ (32:Int32) = (10:Int32) by decide), if_neg (show ¬ (32:Int32) = (11:Int32) by decide), if_neg (show ¬ (32:Int32) = (12:Int32) by decide), if_neg (show ¬ (32:Int32) = (13:Int32) by decide), if_neg (show ¬ (32:Int32) = (14:Int32) by decide), if_neg (show ¬ (32:Int32) = (15:Int32) by decide), if_neg (show ¬ (32:Int32) = (16:Int32) by decide), if_neg (show ¬ (32:Int32) = (17:Int32) by decide), if_neg (show ¬ (32:Int32) = (18:Int32) by decide), if_neg (show ¬ (32:Int32) = (19:Int32) by decide), if_neg (show ¬ (32:Int32) = (20:Int32) by decide), if_neg (show ¬ (32:Int32) = (21:Int32) by decide), if_neg (show ¬ (32:Int32) = (22:Int32) by decide), if_neg (show ¬ (32:Int32) = (23:Int32) by decide), if_neg (show ¬ (32:Int32) = (24:Int32) by decide), if_neg (show ¬ (32:Int32) = (25:Int32) by decide), if_neg (show ¬ (32:Int32) = (26:Int32) by decide), if_neg (show ¬ (32:Int32) = (27:Int32) by decide), if_neg (show ¬ (32:Int32) = (28:Int32) by decide), if_neg (show ¬ (32:Int32) = (29:Int32) by decide), if_neg (show ¬ (32:Int32) = (30:Int32) by decide), if_neg (show ¬ (32:Int32) = (31:Int32) by decide), if_pos (show (32:Int32) = (32:Int32) from rfl)]
  unfold fq_askSealed bq_askSealed_0
  rw [if_pos (show (13:Int32) ≤ (32:Int32) by decide), if_pos (show (29:Int32) ≤ (32:Int32) by decide), if_neg (show ¬ (32:Int32) = (29:Int32) by decide), if_neg (show ¬ (32:Int32) = (30:Int32) by decide), if_neg (show ¬ (32:Int32) = (31:Int32) by decide)]
  rw [h.me, n_ix p8 (by omega), n_cl (show p < 2147483648 by omega), if_pos (show (32:Int32) = (32:Int32) from rfl)]
  exact w_l (ask_seal v h _)
theorem ans_33 (v : KV K) (h : Ak K W b k s p σ ρ) : Sim (fc_X5_answer (47 + 132 * s) (some (83 + 135 * s + 12 * p)) (33:Int32) σ) (q_ans (33:Int32) (σ.1 (86 + 135 * s + 12 * p) 1) (σ.1 (86 + 135 * s + 12 * p) 2) ρ) (AkS K W b k s p ρ) := by
  have s2 := h.s2
  have p8 := h.p8
  have e33 := h.R.T.C.tms.2.2.1
  have z1 : ¬ (1:Int32) = 0 := by decide
  have b3 := (a_83 (s := s) (p := p))
  obtain ⟨r, er⟩ : ∃ r, fc_X8_at (92 + 135 * s + 12 * p) (σ.1 (86 + 135 * s + 12 * p) 1) σ = some (r, σ) := by
    rcases h.hnd (σ.1 (86 + 135 * s + 12 * p) 1) with ⟨t, ht, -, -, f3, -⟩ | ⟨-, -, f3⟩
    · exact ⟨_, f3⟩
    · exact ⟨_, f3⟩
  unfold fc_X5_answer bc_X5_answer_0 q_ans
  rw [nnn, ix1, vln, show (1:Int32).toNatClampNeg = 1 from rfl, b3.1, b3.2.2, b3.2.1]
  rw [er, bd2n]
  rw [if_neg (show ¬ (33:Int32) = (0:Int32) by decide), if_neg (show ¬ (33:Int32) = (1:Int32) by decide), if_neg (show ¬ (33:Int32) = (2:Int32) by decide), if_neg (show ¬ (33:Int32) = (3:Int32) by decide), if_neg (show ¬ (33:Int32) = (4:Int32) by decide), if_neg (show ¬ (33:Int32) = (5:Int32) by decide), if_neg (show ¬ (33:Int32) = (6:Int32) by decide), if_neg (show ¬ (33:Int32) = (7:Int32) by decide), if_neg (show ¬ (33:Int32) = (8:Int32) by decide), if_neg (show ¬ (33:Int32) = (9:Int32) by decide), if_neg (show ¬ (33:Int32) = (10:Int32) by decide), if_neg (show ¬ (33:Int32) = (11:Int32) by decide), if_neg (show ¬ (33:Int32) = (12:Int32) by decide), if_neg (show ¬ (33:Int32) = (13:Int32) by decide), if_neg (show ¬ (33:Int32) = (14:Int32) by decide), if_neg (show ¬ (33:Int32) = (15:Int32) by decide), if_neg (show ¬ (33:Int32) = (16:Int32) by decide), if_neg (show ¬ (33:Int32) = (17:Int32) by decide), if_neg (show ¬ (33:Int32) = (18:Int32) by decide), if_neg (show ¬ (33:Int32) = (19:Int32) by decide), if_neg (show ¬ (33:Int32) = (20:Int32) by decide), if_neg (show ¬ (33:Int32) = (21:Int32) by decide), if_neg (show ¬ (33:Int32) = (22:Int32) by decide), if_neg (show ¬ (33:Int32) = (23:Int32) by decide), if_neg (show ¬ (33:Int32) = (24:Int32) by decide), if_neg (show ¬ (33:Int32) = (25:Int32) by decide), if_neg (show ¬ (33:Int32) = (26:Int32) by decide), if_neg (show ¬ (33:Int32) = (27:Int32) by decide), if_neg (show ¬ (33:Int32) = (28:Int32) by decide), if_neg (show ¬ (33:Int32) = (29:Int32) by decide), if_neg (show ¬ (33:Int32) = (30:Int32) by decide), if_neg (show ¬ (33:Int32) = (31:Int32) by decide), if_neg (show ¬ (33:Int32) = (32:Int32) by decide), if_pos (show (33:Int32) = (33:Int32) from rfl)]
  unfold fq_askSealed bq_askSealed_0
  rw [if_pos (show (13:Int32) ≤ (33:Int32) by decide), if_pos (show (29:Int32) ≤ (33:Int32) by decide), if_neg (show ¬ (33:Int32) = (29:Int32) by decide), if_neg (show ¬ (33:Int32) = (30:Int32) by decide), if_neg (show ¬ (33:Int32) = (31:Int32) by decide)]
  rw [h.me, n_ix p8 (by omega), n_cl (show p < 2147483648 by omega), if_neg (show ¬ (33:Int32) = (32:Int32) by decide)]
  exact w_o (w_l (ask_unseal h _))
theorem ans_34 (v : KV K) (h : Ak K W b k s p σ ρ) : Sim (fc_X5_answer (47 + 132 * s) (some (83 + 135 * s + 12 * p)) (34:Int32) σ) (q_ans (34:Int32) (σ.1 (86 + 135 * s + 12 * p) 1) (σ.1 (86 + 135 * s + 12 * p) 2) ρ) (AkS K W b k s p ρ) := by
  have s2 := h.s2
  have p8 := h.p8
  have e33 := h.R.T.C.tms.2.2.1
  have z1 : ¬ (1:Int32) = 0 := by decide
  have b3 := (a_83 (s := s) (p := p))
  obtain ⟨r, er⟩ : ∃ r, fc_X8_at (92 + 135 * s + 12 * p) (σ.1 (86 + 135 * s + 12 * p) 1) σ = some (r, σ) := by
    rcases h.hnd (σ.1 (86 + 135 * s + 12 * p) 1) with ⟨t, ht, -, -, f3, -⟩ | ⟨-, -, f3⟩
    · exact ⟨_, f3⟩
    · exact ⟨_, f3⟩
  unfold fc_X5_answer bc_X5_answer_0 q_ans
  rw [nnn, ix1, vln, show (1:Int32).toNatClampNeg = 1 from rfl, b3.1, b3.2.2, b3.2.1]
  rw [er, bd2n]
  rw [if_neg (show ¬ (34:Int32) = (0:Int32) by decide), if_neg (show ¬ (34:Int32) = (1:Int32) by decide), if_neg (show ¬ (34:Int32) = (2:Int32) by decide), if_neg (show ¬ (34:Int32) = (3:Int32) by decide), if_neg (show ¬ (34:Int32) = (4:Int32) by decide), if_neg (show ¬ (34:Int32) = (5:Int32) by decide), if_neg (show ¬ (34:Int32) = (6:Int32) by decide), if_neg (show ¬ (34:Int32) = (7:Int32) by decide), if_neg (show ¬ (34:Int32) = (8:Int32) by decide), if_neg (show ¬ (34:Int32) = (9:Int32) by decide), if_neg (show ¬ (34:Int32) = (10:Int32) by decide), if_neg (show ¬ (34:Int32) = (11:Int32) by decide), if_neg (show ¬ (34:Int32) = (12:Int32) by decide), if_neg (show ¬ (34:Int32) = (13:Int32) by decide), if_neg (show ¬ (34:Int32) = (14:Int32) by decide), if_neg (show ¬ (34:Int32) = (15:Int32) by decide), if_neg (show ¬ (34:Int32) = (16:Int32) by decide), if_neg (show ¬ (34:Int32) = (17:Int32) by decide), if_neg (show ¬ (34:Int32) = (18:Int32) by decide), if_neg (show ¬ (34:Int32) = (19:Int32) by decide), if_neg (show ¬ (34:Int32) = (20:Int32) by decide), if_neg (show ¬ (34:Int32) = (21:Int32) by decide), if_neg (show ¬ (34:Int32) = (22:Int32) by decide), if_neg (show ¬ (34:Int32) = (23:Int32) by decide), if_neg (show ¬ (34:Int32) = (24:Int32) by decide), if_neg (show ¬ (34:Int32) = (25:Int32) by decide), if_neg (show ¬ (34:Int32) = (26:Int32) by decide), if_neg (show ¬ (34:Int32) = (27:Int32) by decide), if_neg (show ¬ (34:Int32) = (28:Int32) by decide), if_neg (show ¬ (34:Int32) = (29:Int32) by decide), if_neg (show ¬ (34:Int32) = (30:Int32) by decide), if_neg (show ¬ (34:Int32) = (31:Int32) by decide), if_neg (show ¬ (34:Int32) = (32:Int32) by decide), if_neg (show ¬ (34:Int32) = (33:Int32) by decide)]
  unfold fq_askSealed bq_askSealed_0
  rw [if_pos (show (13:Int32) ≤ (34:Int32) by decide), if_pos (show (29:Int32) ≤ (34:Int32) by decide), if_neg (show ¬ (34:Int32) = (29:Int32) by decide), if_neg (show ¬ (34:Int32) = (30:Int32) by decide), if_neg (show ¬ (34:Int32) = (31:Int32) by decide)]
  rw [h.me, n_ix p8 (by omega), n_cl (show p < 2147483648 by omega), if_neg (show ¬ (34:Int32) = (32:Int32) by decide)]
  exact w_o (w_l (ask_version h _))
theorem ask_all (v : KV K) (h : Ak K W b k s p σ ρ) {m : Nat} (hm : m ≤ 34) : Sim (fc_X5_answer (47 + 132 * s) (some (83 + 135 * s + 12 * p)) (nI m) σ) (q_ans (nI m) (σ.1 (86 + 135 * s + 12 * p) 1) (σ.1 (86 + 135 * s + 12 * p) 2) ρ) (AkS K W b k s p ρ) := by
  have q : m = 0 ∨ m = 1 ∨ m = 2 ∨ m = 3 ∨ m = 4 ∨ m = 5 ∨ m = 6 ∨ m = 7 ∨ m = 8 ∨ m = 9 ∨ m = 10 ∨ m = 11 ∨ m = 12 ∨ m = 13 ∨ m = 14 ∨ m = 15 ∨ m = 16 ∨ m = 17 ∨ m = 18 ∨ m = 19 ∨ m = 20 ∨ m = 21 ∨ m = 22 ∨ m = 23 ∨ m = 24 ∨ m = 25 ∨ m = 26 ∨ m = 27 ∨ m = 28 ∨ m = 29 ∨ m = 30 ∨ m = 31 ∨ m = 32 ∨ m = 33 ∨ m = 34 := by omega
  rcases q with rfl | rfl | rfl | rfl | rfl | rfl | rfl | rfl | rfl | rfl | rfl | rfl | rfl | rfl | rfl | rfl | rfl | rfl | rfl | rfl | rfl | rfl | rfl | rfl | rfl | rfl | rfl | rfl | rfl | rfl | rfl | rfl | rfl | rfl | rfl
  · exact ans_0 v h
  · exact ans_1 v h
  · exact ans_2 v h
  · exact ans_3 v h
  · exact ans_4 v h
  · exact ans_5 v h
  · exact ans_6 v h
  · exact ans_7 v h
  · exact ans_8 v h
  · exact ans_9 v h
  · exact ans_10 v h
  · exact ans_11 v h
  · exact ans_12 v h
  · exact ans_13 v h
  · exact ans_14 v h
  · exact ans_15 v h
  · exact ans_16 v h
  · exact ans_17 v h
  · exact ans_18 v h
  · exact ans_19 v h
  · exact ans_20 v h
  · exact ans_21 v h
  · exact ans_22 v h
  · exact ans_23 v h
  · exact ans_24 v h
  · exact ans_25 v h
  · exact ans_26 v h
  · exact ans_27 v h
  · exact ans_28 v h
  · exact ans_29 v h
  · exact ans_30 v h
  · exact ans_31 v h
  · exact ans_32 v h
  · exact ans_33 v h
  · exact ans_34 v h
end Z2_LK
