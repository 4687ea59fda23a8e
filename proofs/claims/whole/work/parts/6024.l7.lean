section Z2_L7
variable {K : Bd} {W W' : Wd} {b : Bool} {k s p : Nat} {σ σ' : cl_S} {ρ ρ' : rf_S}
/-- register 2 is written, then something is answered -/
theorem Ak.reg2 (h : Ak K W b k s p σ ρ) (v : Int32) : ∃ ρ1, fq_give (2:Int32) v ρ = some ρ1 ∧ Ak K W b k s p (cl_w σ (86 + 135 * s + 12 * p) 2 v) ρ1 ∧ Kp s p ρ ρ1 ∧ ∀ c, c ≠ 53 → ρ1.1 c = ρ.1 c := by
  have s2 := h.s2
  have p8 := h.p8
  have C := h.ctx
  have c := C.rg (r := 2) (by omega) v
  refine ⟨rf_w ρ 53 (16 * (8 * s + p) + 2) v, ?_, h.core c.1 c.2 (fun j => by rw [q_w (by decide)]), ⟨by rw [q_w (by decide)], by rw [q_w (by decide)], q_w (by decide)⟩, fun c hc => q_w hc⟩
  unfold fq_give bq_give_0
  have k2 : (16:Int32) * nI (8 * s + p) + (2:Int32) = nI (16 * (8 * s + p) + 2) := by rw [show (16:Int32) = nI 16 from rfl, show (2:Int32) = nI 2 from rfl, n_mul, n_add]
  rw [if_neg (by decide), h.at', k2, n_ix (show 16 * (8 * s + p) + 2 < 256 by omega) (by omega), n_cl (by omega), vl_eq]
theorem kd0 (h : Ak K W b k s p σ ρ) : ¬ (σ.1 33 0 = 0) := by rw [h.R.T.C.non.1]; decide
theorem ask_number (h : Ak K W b k s p σ ρ) (x : Int32) : Sim (bd2 (fc_X8_at (92 + 135 * s + 12 * p) x σ) (fun r σ => bd2 (fc_X5_lookAtNumber (47 + 132 * s) (some (83 + 135 * s + 12 * p)) r σ) (fun r σ => some (r, σ)))) (bd2 (fq_isHandle x ρ) (fun r_56 ρ_55 => (if r_56 = 0 then bq_askTerms_57 x ρ_55 else bd2 (fq_of x ρ_55) (fun r_61 ρ_60 => ix r_61 112000 ((if (ρ_60.1 1 r_61.toNatClampNeg) = 0 then bq_askTerms_58 x (1:Int32) ρ_60 else bq_askTerms_57 x ρ_60)))))) (AkO K W b k s p ρ) := by
  have z1 : ¬ (1:Int32) = 0 := by decide
  have hN := h.R.T.Q.n.2
  have c2 : (2:Int32).toNatClampNeg = 2 := by decide
  have i2 : ∀ {α : Type} (x : Option α), ix (2:Int32) 16 x = x := fun x => n_ix (a := 2) (by omega) (by omega)
  have a3 : 83 + 135 * s + 12 * p + 1 + 2 = 86 + 135 * s + 12 * p := by omega
  have s2 := h.s2
  have p8 := h.p8
  unfold fc_X5_lookAtNumber bc_X5_lookAtNumber_0 bc_X5_lookAtNumber_12 bc_X5_lookAtNumber_30 bq_askTerms_57 bq_askTerms_58 bq_askTerms_72
  have none0 : Sim (bd2 (some ((0:Int32), cl_w σ (86 + 135 * s + 12 * p) 2 0)) (fun r σ => some (r, σ))) (bd1 (fq_give (2:Int32) (0:Int32) ρ) (fun ρ_57 => some ((0:Int32), ρ_57))) (AkO K W b k s p ρ) := by
    obtain ⟨ρ1, e1, h1, kp, -⟩ := h.reg2 0
    rw [e1, bd1_eq, bd2_eq]
    exact Sim.mk ⟨rfl, W, Wd.le.refl W, h1, kp⟩
  rcases h.hnd x with ⟨t, ht, -, e2, e3, e4⟩ | ⟨-, e2, e3⟩
  · rw [e3, bd2_eq, e2, bd2_eq, if_neg z1, e4, bd2_eq, nn_eq, n_ix (show t < 112000 by omega) (by omega), n_cl (by omega), h.R.T.L.kd t ht]
    by_cases q : ρ.1 1 t = 0
    · rw [if_pos q, if_pos q, nn_eq, if_neg z1, if_neg z1, i2, c2, a3, vl_eq, if_neg z1, nn_eq, bd2_eq]
      obtain ⟨ρ1, f1, h1, kp, qo⟩ := h.reg2 1
      rw [f1, bd1_eq, if_neg z1]
      have e4' : fq_of x ρ1 = some (nI t, ρ1) := by
        unfold fq_of bq_of_0 at e4 ⊢
        rw [h1.at', qo 60 (by omega)]
        rw [h.at'] at e4
        obtain ⟨g1, g2⟩ := ix_some e4
        rw [ix_in g1]
        have := Option.some.inj g2
        rw [Prod.mk.injEq] at this
        rw [this.1]
      rw [e4', bd2_eq, n_ix (show t < 112000 by omega) (by omega), n_cl (by omega), qo 2 (by omega)]
      have : (cl_w σ (86 + 135 * s + 12 * p) 2 1).1 (W.tm t) 1 = ρ.1 2 t := by
        rw [r_w (by have := h.R.T.C.mem _ (h.R.T.L.inm t ht); omega)]
        exact h.R.T.L.nu t ht q
      rw [this]
      exact Sim.mk ⟨rfl, W, Wd.le.refl W, h1, kp⟩
    · rw [if_neg q, if_neg q, nn_eq, if_pos rfl, if_pos rfl, i2, c2, a3, vl_eq, if_pos rfl]
      simp only [if_true]
      exact none0
  · rw [e3, bd2_eq, e2, bd2_eq, if_pos rfl, nn_eq, if_neg (kd0 h), nn_eq, if_pos rfl, if_pos rfl, i2, c2, a3, vl_eq, if_pos rfl]
    simp only [if_true]
    exact none0
theorem ask_kind (h : Ak K W b k s p σ ρ) (x : Int32) : Sim (bd2 (fc_X8_at (92 + 135 * s + 12 * p) x σ) (fun r_12 σ_11 => vl (σ_11.2.2.1 31 4) (fun r_158 => (if r_12 = r_158 then some ((-2:Int32), σ_11) else nn r_12 (fun a_161 => some ((σ_11.1 a_161 0), σ_11)))))) (bd2 (fq_isHandle x ρ) (fun r ρ => if r = 0 then some ((-2:Int32), ρ) else bd2 (fq_of x ρ) (fun r_4 ρ_3 => ix r_4 112000 (some ((ρ_3.1 1 r_4.toNatClampNeg), ρ_3))))) (AkO K W b k s p ρ) := by
  have z1 : ¬ (1:Int32) = 0 := by decide
  have hN := h.R.T.Q.n.2
  have e33 := h.R.T.C.tms.2.2.1
  rcases h.hnd x with ⟨t, ht, -, e2, e3, e4⟩ | ⟨-, e2, e3⟩
  · rw [e3, bd2_eq, e2, bd2_eq, if_neg z1, e4, bd2_eq, e33, vl_eq, if_neg (h.ne33 ht), nn_eq, n_ix (show t < 112000 by omega) (by omega), n_cl (by omega), h.R.T.L.kd t ht]
    exact Sim.mk (AkO.same h _)
  · rw [e3, bd2_eq, e2, bd2_eq, if_pos rfl, e33, vl_eq, if_pos rfl]
    exact Sim.mk (AkO.same h _)
theorem ask_signed (h : Ak K W b k s p σ ρ) (x : Int32) : Sim (bd2 (fc_X8_at (92 + 135 * s + 12 * p) x σ) (fun r σ => bd2 (fc_X5_checkSigned (47 + 132 * s) (some (83 + 135 * s + 12 * p)) r σ) (fun r σ => some (r, σ)))) (bd2 (fq_isHandle x ρ) (fun r_2 ρ_1 => (if r_2 = 0 then some ((-2:Int32), ρ_1) else bd2 (fq_isHandle (σ.1 (86 + 135 * s + 12 * p) 2) ρ_1) (fun r_54 ρ_53 => (if r_54 = 0 then some ((-2:Int32), ρ_53) else bd2 (fq_of x ρ_53) (fun r_4 ρ_3 => ix r_4 112000 ((if (ρ_3.1 1 r_4.toNatClampNeg) = (6:Int32) then bd2 (fq_of (σ.1 (86 + 135 * s + 12 * p) 2) ρ_3) (fun r_38 ρ_37 => ix r_38 112000 ((if (ρ_37.1 1 r_38.toNatClampNeg) = (7:Int32) then ix r_4 112000 (bd2 (fq_of (σ.1 (86 + 135 * s + 12 * p) 2) ρ_37) (fun r_40 ρ_39 => ix r_40 112000 ((if (ρ_37.1 2 r_4.toNatClampNeg) = (ρ_39.1 2 r_40.toNatClampNeg) then some ((1:Int32), ρ_39) else some ((0:Int32), ρ_39))))) else some ((0:Int32), ρ_37)))) else some ((0:Int32), ρ_3))))))))) (AkO K W b k s p ρ) := by
  have z1 : ¬ (1:Int32) = 0 := by decide
  have hN := h.R.T.Q.n.2
  have e33 := h.R.T.C.tms.2.2.1
  have c2 : (2:Int32).toNatClampNeg = 2 := by decide
  have i2 : ∀ {α : Type} (x : Option α), ix (2:Int32) 16 x = x := fun x => n_ix (a := 2) (by omega) (by omega)
  have a3 : 83 + 135 * s + 12 * p + 1 + 2 = 86 + 135 * s + 12 * p := by omega
  have a9 : 83 + 135 * s + 12 * p + 9 = 92 + 135 * s + 12 * p := by omega
  unfold fc_X5_checkSigned bc_X5_checkSigned_0
  rcases h.hnd x with ⟨t, ht, -, e2, e3, e4⟩ | ⟨-, e2, e3⟩
  · rw [e3, bd2_eq, e2, bd2_eq, if_neg z1, nn_eq, i2, c2, a3, a9]
    rcases h.hnd (σ.1 (86 + 135 * s + 12 * p) 2) with ⟨u, hu, -, f2, f3, f4⟩ | ⟨-, f2, f3⟩
    · rw [f3, bd2_eq, f2, bd2_eq, if_neg z1, e33, vl_eq, if_neg (h.ne33 ht), vl_eq, if_neg (h.ne33 hu), nn_eq, e4, bd2_eq, n_ix (show t < 112000 by omega) (by omega), n_cl (by omega), h.R.T.L.kd t ht]
      by_cases q1 : ρ.1 1 t = (6:Int32)
      · rw [if_pos q1, if_pos q1, nn_eq, f4, bd2_eq, n_ix (show u < 112000 by omega) (by omega), n_cl (by omega), h.R.T.L.kd u hu]
        by_cases q2 : ρ.1 1 u = (7:Int32)
        · obtain ⟨a, ha, ea, ra⟩ := h.R.T.prA (kk := 6) ht (by omega) q1
          obtain ⟨c, hc, ec, rc⟩ := h.R.T.prA (kk := 7) hu (by omega) q2
          rw [if_pos q2, if_pos q2, n_ix (show t < 112000 by omega) (by omega), f4, bd2_eq, n_ix (show u < 112000 by omega) (by omega), n_cl (show u < 2147483648 by omega), ra, rc, vl_eq, vl_eq, ea, ec]
          by_cases w : a = c
          · subst w
            rw [if_pos rfl, if_pos rfl, bd2_eq]
            exact Sim.mk (AkO.same h _)
          · rw [if_neg (fun e => w (h.R.T.L.inj a c ha hc (Option.some.inj e))), if_neg (fun e => w ((n_eq (by omega) (by omega)).mp e)), bd2_eq]
            exact Sim.mk (AkO.same h _)
        · rw [if_neg q2, if_neg q2, bd2_eq]
          exact Sim.mk (AkO.same h _)
      · rw [if_neg q1, if_neg q1, bd2_eq]
        exact Sim.mk (AkO.same h _)
    · rw [f3, bd2_eq, f2, bd2_eq, if_pos rfl, e33, vl_eq, if_neg (h.ne33 ht), vl_eq, if_pos rfl, bd2_eq]
      exact Sim.mk (AkO.same h _)
  · rw [e3, bd2_eq, e2, bd2_eq, if_pos rfl, nn_eq, i2, c2, a3, a9]
    rcases h.hnd (σ.1 (86 + 135 * s + 12 * p) 2) with ⟨u, hu, -, f2, f3, f4⟩ | ⟨-, f2, f3⟩
    · rw [f3, bd2_eq, e33, vl_eq, if_pos rfl, bd2_eq]
      exact Sim.mk (AkO.same h _)
    · rw [f3, bd2_eq, e33, vl_eq, if_pos rfl, bd2_eq]
      exact Sim.mk (AkO.same h _)
theorem ask_open (h : Ak K W b k s p σ ρ) (x : Int32) : Sim (bd2 (fc_X8_at (92 + 135 * s + 12 * p) x σ) (fun r σ => bd2 (fc_X5_openClosed (47 + 132 * s) (some (83 + 135 * s + 12 * p)) r σ) (fun r σ => some (r, σ)))) (bd2 (fq_isHandle x ρ) (fun r_2 ρ_1 => (if r_2 = 0 then some ((-2:Int32), ρ_1) else bd2 (fq_isHandle (σ.1 (86 + 135 * s + 12 * p) 2) ρ_1) (fun r_54 ρ_53 => (if r_54 = 0 then some ((-2:Int32), ρ_53) else bd2 (fq_of x ρ_53) (fun r_4 ρ_3 => bq_askTerms_500 (σ.1 (86 + 135 * s + 12 * p) 2) r_4 ρ_3)))))) (AkO K W b k s p ρ) := by
  have z1 : ¬ (1:Int32) = 0 := by decide
  have hN := h.R.T.Q.n.2
  have e33 := h.R.T.C.tms.2.2.1
  have c2 : (2:Int32).toNatClampNeg = 2 := by decide
  have i2 : ∀ {α : Type} (x : Option α), ix (2:Int32) 16 x = x := fun x => n_ix (a := 2) (by omega) (by omega)
  have a3 : 83 + 135 * s + 12 * p + 1 + 2 = 86 + 135 * s + 12 * p := by omega
  have a9 : 83 + 135 * s + 12 * p + 9 = 92 + 135 * s + 12 * p := by omega
  unfold fc_X5_openClosed bc_X5_openClosed_0 bq_askTerms_500
  rcases h.hnd x with ⟨t, ht, -, e2, e3, e4⟩ | ⟨-, e2, e3⟩
  · rw [e3, bd2_eq, e2, bd2_eq, if_neg z1, nn_eq, i2, c2, a3, a9]
    rcases h.hnd (σ.1 (86 + 135 * s + 12 * p) 2) with ⟨u, hu, -, f2, f3, f4⟩ | ⟨-, f2, f3⟩
    · rw [f3, bd2_eq, f2, bd2_eq, if_neg z1, e33, vl_eq, if_neg (h.ne33 ht), vl_eq, if_neg (h.ne33 hu), nn_eq, e4, bd2_eq, f4, bd2_eq, n_ix (show u < 112000 by omega) (by omega), n_cl (show u < 2147483648 by omega), vl_eq]
      by_cases q1 : ρ.1 1 u = (8:Int32)
      · obtain ⟨a, ha, ea, ra⟩ := h.R.T.prA (kk := 8) hu (by omega) q1
        obtain ⟨c, hc, ec, rc⟩ := h.R.T.prC hu q1
        rw [if_pos q1, f4, bd2_eq, n_ix (show u < 112000 by omega) (by omega), n_cl (show u < 2147483648 by omega), ra, ea]
        by_cases w : a = t
        · subst w
          rw [if_pos rfl, if_pos rfl, f4, bd2_eq, n_ix (show u < 112000 by omega) (by omega), n_cl (show u < 2147483648 by omega), rc, ec, vl_eq]
          have := look_into h (t := u) (kk := 8) hu (by omega) (r := some (W.tm c)) (v := nI c) (fun _ => ⟨c, hc, rfl, rfl⟩)
          rw [if_pos (show ρ.1 1 u = nI 8 from q1)] at this
          obtain ⟨y1, y2, g1, g2, g3⟩ := this
          have g1' : fc_X5_lookInto (47 + 132 * s) (some (83 + 135 * s + 12 * p)) (some (W.tm u)) (8:Int32) (some (W.tm c)) σ = some y1 := g1
          rw [g1', g2]
          obtain ⟨y11, y12⟩ := y1
          exact Sim.mk g3
        · rw [if_neg (fun e => w (h.R.T.L.inj a t ha ht (Option.some.inj e))), if_neg (fun e => w ((n_eq (by omega) (by omega)).mp e)), bd2_eq]
          exact Sim.mk (AkO.same h _)
      · rw [if_neg q1]
        by_cases w : σ.2.2.1 (W.tm u) 3 = some (W.tm t)
        · rw [if_pos w, vl_eq]
          have := look_into h (t := u) (kk := 8) hu (by omega) (r := σ.2.2.1 (W.tm u) 5) (v := 0) (fun e => absurd e q1)
          have q1' : ¬ ρ.1 1 u = nI 8 := q1
          rw [if_neg q1'] at this
          obtain ⟨y1, y2, g1, g2, g3⟩ := this
          have g1' : fc_X5_lookInto (47 + 132 * s) (some (83 + 135 * s + 12 * p)) (some (W.tm u)) (8:Int32) (σ.2.2.1 (W.tm u) 5) σ = some y1 := g1
          rw [g1', g2]
          obtain ⟨y11, y12⟩ := y1
          exact Sim.mk g3
        · rw [if_neg w, bd2_eq]
          exact Sim.mk (AkO.same h _)
    · rw [f3, bd2_eq, f2, bd2_eq, if_pos rfl, e33, vl_eq, if_neg (h.ne33 ht), vl_eq, if_pos rfl, bd2_eq]
      exact Sim.mk (AkO.same h _)
  · rw [e3, bd2_eq, e2, bd2_eq, if_pos rfl, nn_eq, i2, c2, a3, a9]
    rcases h.hnd (σ.1 (86 + 135 * s + 12 * p) 2) with ⟨u, hu, -, f2, f3, f4⟩ | ⟨-, f2, f3⟩
    · rw [f3, bd2_eq, e33, vl_eq, if_pos rfl, bd2_eq]
      exact Sim.mk (AkO.same h _)
    · rw [f3, bd2_eq, e33, vl_eq, if_pos rfl, bd2_eq]
      exact Sim.mk (AkO.same h _)
end Z2_L7
