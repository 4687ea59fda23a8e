section Z2_LL
variable {K : Bd} {W W' : Wd} {b : Bool} {k s p : Nat} {σ σ' : cl_S} {ρ ρ' : rf_S}
/-! LAYER 2: ticks -/
/-- the ints of the reference that the relation speaks of -/
def use (j : Nat) : Prop := (11 < j ∧ j < 17) ∨ (17 < j ∧ j < 22) ∨ j = 26 ∨ j = 28 ∨ j = 41 ∨ j = 43 ∨ (50 < j ∧ j < 56) ∨ j = 60 ∨ j = 64 ∨ j = 78 ∨ j = 110
theorem Rel.sc (h : Rel K W b k σ ρ) (hq : ∀ c, c ≠ 0 → c < 77 → ρ'.1 c = ρ.1 c) (hf : ∀ j, use j → ρ'.1 0 j = ρ.1 0 j) (hl : ρ'.2 = ρ.2) : Rel K W b k σ ρ' := by
  have M : ∀ s, s < 2 → MRel W s σ ρ → MRel W s σ ρ' := by
    intro s hs m
    refine m.fr (Wd.le.refl W) hs (fun p hp => (m.pr p hp).fr (TGo.refl h.T.L.inm) (fun _ _ => rfl) (fun _ _ => rfl) (fun c j q => ?_)) (fun _ _ => rfl) (fun _ => rfl) rfl (fun _ _ _ => ⟨rfl, rfl⟩) rfl rfl (fun c h1 h2 => by rw [hq c (by omega) (by omega)]) (fun _ => hf 54 (by unfold use; omega)) (fun j _ _ => by rw [hq 71 (by omega) (by omega)]) (fun c j hc _ _ => by rw [hq c (by omega) (by omega)]) (fun c j hc _ _ => by rw [hq c (by omega) (by omega)])
    have := q.out
    rw [hq c (by omega) (by omega)]
  refine ⟨h.T.sm ⟨fun _ _ => ⟨rfl, rfl⟩, rfl⟩ (fun c _ _ => hq c (by omega) (by omega)) (fun j hj => hf j (by unfold use; omega)), h.st, h.cf.fr (Wd.le.refl W) (fun _ _ => rfl) (fun c _ _ => hq c (by omega) (by omega)) (fun j hj => hf j (by unfold use; omega)), M 0 (by omega) h.m0, fun e => M 1 (by omega) (h.m1 e), h.oA.fr (fun _ _ => rfl) (fun c _ _ => hq c (by omega) (by omega)) (fun j hj => hf j (by unfold use; omega)), h.oB.fr (TGo.refl h.T.L.inm) rfl rfl (fun _ _ => rfl) (fun _ _ => rfl) (fun _ _ => rfl) (fun c hc => hq c (by omega) (by omega)) (fun j hj => hf j (by unfold use; omega)) (by rw [hq 48 (by omega) (by omega)]; exact Nat.le_refl _), ?_, h.n0, h.nm.fr rfl (by rw [hl]) (hq 14 (by omega) (by omega)) (hq 15 (by omega) (by omega)), fun e => (h.fz e).fr rfl (fun c j h1 h2 _ => by rw [hq c (by omega) h2]) (hf 110 (by unfold use; omega)) (hf 78 (by unfold use; omega))⟩
  have B := h.bd
  have e : ∀ s', phi s' ρ' = phi s' ρ := fun s' => phi_eq (fun g => by rw [hq 61 (by omega) (by omega)]) (fun g => by rw [hq 69 (by omega) (by omega)])
  exact ⟨by rw [e, e]; exact B.n, by rw [e, e]; exact B.l, B.c, B.s⟩
/-- between ticks -/
def Tk (K : Bd) (W : Wd) (b : Bool) (k s : Nat) (σ : cl_S) (ρ : rf_S) : Prop := (Rel K W b k σ ρ) ∧ (s = 0 ∧ b = false ∨ s = 1 ∧ b = true) ∧ (0 < W.np) ∧ (ρ.1 0 79 = nI s) ∧ (σ.1 (47 + 132 * s) 8 = 1) ∧ (s = 0 → ∃ n, ρ.1 0 52 = nI n ∧ 2 * n ≤ k ∧ ∃ E, ρ.1 0 18 = nI E ∧ E ≤ 16840 * n)
theorem Tk.R {K : Bd} {W : Wd} {b : Bool} {k s : Nat} {σ : cl_S} {ρ : rf_S} (hS : Tk K W b k s σ ρ) : Rel K W b k σ ρ := hS.1
theorem Tk.hs {K : Bd} {W : Wd} {b : Bool} {k s : Nat} {σ : cl_S} {ρ : rf_S} (hS : Tk K W b k s σ ρ) : s = 0 ∧ b = false ∨ s = 1 ∧ b = true := hS.2.1
theorem Tk.np {K : Bd} {W : Wd} {b : Bool} {k s : Nat} {σ : cl_S} {ρ : rf_S} (hS : Tk K W b k s σ ρ) : 0 < W.np := hS.2.2.1
theorem Tk.sd {K : Bd} {W : Wd} {b : Bool} {k s : Nat} {σ : cl_S} {ρ : rf_S} (hS : Tk K W b k s σ ρ) : ρ.1 0 79 = nI s := hS.2.2.2.1
theorem Tk.on {K : Bd} {W : Wd} {b : Bool} {k s : Nat} {σ : cl_S} {ρ : rf_S} (hS : Tk K W b k s σ ρ) : σ.1 (47 + 132 * s) 8 = 1 := hS.2.2.2.2.1
theorem Tk.bk {K : Bd} {W : Wd} {b : Bool} {k s : Nat} {σ : cl_S} {ρ : rf_S} (hS : Tk K W b k s σ ρ) : s = 0 → ∃ n, ρ.1 0 52 = nI n ∧ 2 * n ≤ k ∧ ∃ E, ρ.1 0 18 = nI E ∧ E ≤ 16840 * n := hS.2.2.2.2.2
theorem Tk.s2 (h : Tk K W b k s σ ρ) : s < 2 := by rcases h.hs with q | q <;> omega
theorem Tk.M (h : Tk K W b k s σ ρ) : MRel W s σ ρ := by
  rcases h.hs with ⟨rfl, -⟩ | ⟨rfl, q⟩
  · exact h.R.m0
  · exact h.R.m1 q
theorem Ak.tk (h : Ak K W b k s p σ ρ) : Tk K W b k s σ ρ := ⟨h.R, h.hs, Nat.lt_of_le_of_lt (Nat.zero_le _) h.hp, h.sd, h.on, h.bk⟩
/-- who steps is told -/
theorem Tk.ak (h : Tk K W b k s σ ρ) (hp : p < W.np) (hq : ∀ c, c ≠ 0 → ρ'.1 c = ρ.1 c) (hl : ρ'.2 = ρ.2) (hf : ∀ j, j ≠ 108 → j ≠ 118 → j ≠ 119 → j ≠ 120 → j ≠ 121 → ρ'.1 0 j = ρ.1 0 j) (me : ρ'.1 0 118 = nI p) (at' : ρ'.1 0 119 = nI (8 * s + p)) (gd : ρ'.1 0 120 = nI (8192 * s + W.bs p)) (pw : ρ'.1 0 108 = 0) : Ak K W b k s p σ ρ' := by
  refine ⟨h.R.sc (fun c h1 _ => hq c h1) (fun j hj => hf j ?_ ?_ ?_ ?_ ?_) hl, h.hs, hp, by rw [hf 79 (by decide) (by decide) (by decide) (by decide) (by decide)]; exact h.sd, me, at', gd, pw, h.on, by rw [hf 52 (by decide) (by decide) (by decide) (by decide) (by decide), hf 18 (by decide) (by decide) (by decide) (by decide) (by decide)]; exact h.bk⟩ <;> (unfold use at hj; omega)
/-- the step of a partition -/
theorem Ctx.ak (h : Tk K W b k s σ ρ) (hp : p < W.np) {ρ2 : rf_S} (C : Ctx W s p σ' ρ2) (F : CoF W s p σ σ' (rf_w ρ 0 108 0) ρ2) : Ak K W b k s p σ' ρ2 ∧ ρ2.1 48 = ρ.1 48 := by
  have f4 : ∀ j, j = 118 ∨ j = 119 ∨ j = 120 ∨ j = 121 → (rf_w (rf_w (rf_w (rf_w (rf_w ρ 0 108 0) 0 118 (ρ2.1 0 118)) 0 119 (ρ2.1 0 119)) 0 120 (ρ2.1 0 120)) 0 121 (ρ2.1 0 121)).1 0 j = ρ2.1 0 j := by
    intro j hj
    rcases hj with rfl | rfl | rfl | rfl <;> simp only [g_q, Nat.reduceEqDiff, and_false, false_and, if_false, true_and, and_true, if_true, and_self]
  have fo : ∀ j, j ≠ 118 → j ≠ 119 → j ≠ 120 → j ≠ 121 → (rf_w (rf_w (rf_w (rf_w (rf_w ρ 0 108 0) 0 118 (ρ2.1 0 118)) 0 119 (ρ2.1 0 119)) 0 120 (ρ2.1 0 120)) 0 121 (ρ2.1 0 121)).1 0 j = (rf_w ρ 0 108 0).1 0 j := by
    intro j h1 h2 h3 h4; rw [q_wk h4, q_wk h3, q_wk h2, q_wk h1]
  have fc : ∀ c, c ≠ 0 → (rf_w (rf_w (rf_w (rf_w (rf_w ρ 0 108 0) 0 118 (ρ2.1 0 118)) 0 119 (ρ2.1 0 119)) 0 120 (ρ2.1 0 120)) 0 121 (ρ2.1 0 121)).1 c = (rf_w ρ 0 108 0).1 c := by
    intro c hc; rw [q_w hc, q_w hc, q_w hc, q_w hc]
  have l : (rf_w (rf_w (rf_w (rf_w (rf_w ρ 0 108 0) 0 118 (ρ2.1 0 118)) 0 119 (ρ2.1 0 119)) 0 120 (ρ2.1 0 120)) 0 121 (ρ2.1 0 121)).2 = (rf_w ρ 0 108 0).2 := rfl
  generalize (rf_w (rf_w (rf_w (rf_w (rf_w ρ 0 108 0) 0 118 (ρ2.1 0 118)) 0 119 (ρ2.1 0 119)) 0 120 (ρ2.1 0 120)) 0 121 (ρ2.1 0 121)) = τ at f4 fo fc l
  have o8 : (rf_w ρ 0 108 0).1 0 108 = 0 := q_ws
  have A : Ak K W b k s p σ τ := h.ak hp (fun c hc => by rw [fc c hc, q_w hc]) (by rw [l]; rfl) (fun j h1 h2 h3 h4 h5 => by rw [fo j h2 h3 h4 h5, q_wk h1]) (by rw [f4 118 (by omega)]; exact C.me) (by rw [f4 119 (by omega)]; exact C.at') (by rw [f4 120 (by omega)]; exact C.gd) (by rw [fo 108 (by decide) (by decide) (by decide) (by decide)]; exact o8)
  refine ⟨A.core C ⟨F.c2, F.cI, by rw [F.q2, l], fun c j h1 h2 => by rw [fc c h1]; exact F.qI c j h1 h2, fun c h1 h2 => by rw [fc c h1]; exact F.qA c h1 h2, fun j h1 h2 h3 h4 => by rw [fo j h1 h2 h3 h4]; exact F.qf j h1 h2 h3 h4⟩ (fun j => ?_), ?_⟩
  · by_cases q : j = 118 ∨ j = 119 ∨ j = 120 ∨ j = 121
    · rw [f4 j q]
    · rw [fo j (by omega) (by omega) (by omega) (by omega)]; exact F.qf j (by omega) (by omega) (by omega) (by omega)
  · rw [F.qA 48 (by decide) (by omega), q_w (by decide)]
def OKT (K : Bd) (W : Wd) (b : Bool) (k s : Nat) (ρ : rf_S) (σ' : cl_S) (ρ' : rf_S) : Prop := ∃ W', W.le W' ∧ Tk K W' b k s σ' ρ' ∧ ρ'.1 0 108 = 0 ∧ ρ'.1 48 = ρ.1 48
def GON (K : Bd) (W : Wd) (b : Bool) (k s : Nat) (σ' : cl_S) (ρ' : rf_S) : Prop := s = 0 ∧ b = false ∧ Rel K W b k σ' ρ' ∧ σ'.1 47 8 = 0 ∧ ρ'.1 0 108 = 1 ∧ ρ'.1 0 79 = 0
theorem Tk.act (v : KV K) (h : Tk K W b k s σ ρ) (hp : p < W.np) :
    (∃ σ' ρ', fc_X2_step (84 + 135 * s + 12 * p) σ = some (-1, σ') ∧ fq_step (nI p) (rf_w ρ 0 108 0) = some ρ' ∧ OKT K W b k s ρ σ' ρ') ∨
    (∃ m r σ1 σ' ρ', m ≤ 34 ∧ fc_X2_step (84 + 135 * s + 12 * p) σ = some (nI m, σ) ∧ fc_X5_answer (47 + 132 * s) (some (83 + 135 * s + 12 * p)) (nI m) σ = some (r, σ1) ∧ fc_X5_endAsk (47 + 132 * s) (some (84 + 135 * s + 12 * p)) r σ1 = some σ' ∧ fq_step (nI p) (rf_w ρ 0 108 0) = some ρ' ∧ (OKT K W b k s ρ σ' ρ' ∨ GON K W b k s σ' ρ')) := by
  have s2 := h.s2
  have p8 : p < 8 := Nat.lt_of_lt_of_le hp h.R.cf.np.1
  have A1 : Ak K W b k s p σ (rf_w (rf_w (rf_w (rf_w ρ 0 108 0) 0 118 (nI p)) 0 119 (nI (8 * s + p))) 0 120 (nI (8192 * s + W.bs p))) := by
    refine h.ak hp (fun c hc => by rw [q_w hc, q_w hc, q_w hc, q_w hc]) rfl (fun j h1 h2 h3 h4 h5 => by rw [q_wk h4, q_wk h3, q_wk h2, q_wk h1]) ?_ ?_ ?_ ?_ <;> simp only [g_q, Nat.reduceEqDiff, and_false, false_and, if_false, true_and, and_true, if_true, and_self]
  have hbs : (rf_w ρ 0 108 0).1 28 p = nI (W.bs p) := by rw [q_w (by decide)]; exact (h.R.cf.pa p hp).2.2.2.1
  rcases c_step A1.ctx hbs with ⟨u, ρ', e1, e2, hu, C, F⟩ | ⟨m, ρ2, hm, e1, C, F, ej, e2⟩
  · left
    obtain ⟨u1, u2⟩ := u
    cases (show u1 = -1 from hu)
    obtain ⟨A, e48⟩ := Ctx.ak h hp C F
    exact ⟨u2, ρ', e1, e2, W, Wd.le.refl W, A.tk, A.pw, e48⟩
  · right
    obtain ⟨A, e48⟩ := Ctx.ak h hp C F
    have rg : ∀ i, i < 16 → fq_reg (nI i) ρ2 = some (σ.1 (86 + 135 * s + 12 * p) i, ρ2) := by
      intro i hi
      unfold fq_reg bq_reg_0
      rw [A.at', show (16:Int32) * nI (8 * s + p) + nI i = nI (16 * (8 * s + p) + i) from by rw [show (16:Int32) = nI 16 from rfl, n_mul, n_add], n_ix (show 16 * (8 * s + p) + i < 256 by omega) (by omega), n_cl (by omega), A.ctx.co.rg i hi]
    have ea : fq_ask (nI m) ρ2 = bd2 (q_ans (nI m) (σ.1 (86 + 135 * s + 12 * p) 1) (σ.1 (86 + 135 * s + 12 * p) 2) ρ2) (fun r ρ => bq_ask_51 r ρ) := by
      unfold fq_ask bq_ask_0 q_ans
      have r1 : fq_reg (1:Int32) ρ2 = _ := rg 1 (by omega)
      have r2 : fq_reg (2:Int32) ρ2 = _ := rg 2 (by omega)
      rw [r1, bd2n, r2, bd2n]
      by_cases c1 : (13:Int32) ≤ nI m
      · rw [if_pos c1, if_pos c1]
        by_cases c2 : (29:Int32) ≤ nI m
        · rw [if_pos c2, if_pos c2]
        · rw [if_neg c2, if_neg c2]
      · rw [if_neg c1, if_neg c1]
    obtain ⟨⟨r, σ1⟩, ⟨r', ρ3⟩, f1, f2, o⟩ := ask_all v A hm
    rw [ea, f2, bd2n] at e2
    unfold bq_ask_51 at e2
    rcases o with ⟨hr, W', le, A3, kp⟩ | ⟨hs0, hb, R3, o8, q8, q79⟩
    · cases (show r = r' from hr)
      have pw3 : ρ3.1 0 108 = 0 := A3.pw
      have on3 : ¬ σ1.1 (47 + 132 * s) 8 = 0 := by rw [show σ1.1 (47 + 132 * s) 8 = 1 from A3.on]; decide
      obtain ⟨σ4, ρ4, g1, g2, C4, F4, g3, g4⟩ := c_write A3.ctx (d := 1) (by omega) r
      have g2' : fq_give (1:Int32) r ρ3 = some ρ4 := g2
      have z4 : ∀ j, ρ4.1 0 j = ρ3.1 0 j := by
        intro j
        unfold fq_give bq_give_0 at g2'
        rw [if_neg (by decide)] at g2'
        obtain ⟨-, f3⟩ := ix_some g2'
        rw [vln] at f3
        rw [← Option.some.inj f3, q_w (by decide)]
      have A4 : Ak K W' b k s p σ4 ρ4 := A3.core C4 F4 z4
      have e4 : cl_w σ1 (86 + 135 * s + 12 * p) 1 r = σ4 := by
        unfold fc_X2_write bc_X2_write_0 at g1
        rw [if_neg (by decide)] at g1
        obtain ⟨-, f3⟩ := ix_some g1
        rw [vln, show 84 + 135 * s + 12 * p + 2 = 86 + 135 * s + 12 * p by omega] at f3
        exact Option.some.inj f3
      have j4 : ρ4.1 0 121 = σ4.1 (84 + 135 * s + 12 * p) 3 + 4 := by
        rw [z4, kp.1, ej, C4.co.pc]
        have : ρ4.1 54 (8 * s + p) = ρ3.1 54 (8 * s + p) := by
          rw [← C4.co.pc, ← A3.ctx.co.pc, g3]
        rw [this, kp.2.1, C.co.pc]
      rw [if_pos pw3, g2', bd1n, bd1n, if_pos (by rw [z4]; exact pw3), c_522 A4.ctx, j4] at e2
      have eE : fc_X5_endAsk (47 + 132 * s) (some (84 + 135 * s + 12 * p)) r σ1 = some (cl_w σ4 (84 + 135 * s + 12 * p) 3 (σ4.1 (84 + 135 * s + 12 * p) 3 + 4)) := by
        unfold fc_X5_endAsk bc_X5_endAsk_0
        rw [if_neg on3, nnn, ix1, show (1:Int32).toNatClampNeg = 1 from rfl, vln, show 84 + 135 * s + 12 * p + 2 = 86 + 135 * s + 12 * p by omega, e4, vln]
      have h5 := A4.ctx.fl (f := 3) (by omega) (σ4.1 (84 + 135 * s + 12 * p) 3 + 4)
      have e5 : cfl 3 = 54 := rfl
      rw [e5] at h5
      have A5 := A4.core h5.1 h5.2 (fun j => by rw [q_w (by decide)])
      refine ⟨m, r, σ1, _, _, hm, e1, f1, eE, e2, Or.inl ⟨W', le, A5.tk, by rw [q_w (by decide), z4]; exact pw3, ?_⟩⟩
      rw [q_w (by decide), F4.qA 48 (by decide) (by omega), kp.2.2, e48]
    · subst hs0
      have q8' : ¬ ρ3.1 0 108 = 0 := by rw [show ρ3.1 0 108 = 1 from q8]; decide
      rw [if_neg q8', bd1n, if_neg q8'] at e2
      have eE : fc_X5_endAsk (47 + 132 * 0) (some (84 + 135 * 0 + 12 * p)) r σ1 = some σ1 := by
        unfold fc_X5_endAsk bc_X5_endAsk_0
        rw [if_pos (show σ1.1 (47 + 132 * 0) 8 = 0 from o8)]
      exact ⟨m, r, σ1, σ1, ρ3, hm, e1, f1, eE, e2, Or.inr ⟨rfl, hb, R3, o8, q8, q79⟩⟩
end Z2_LL
