section Z2_L4
variable {K : Bd} {W W' : Wd} {b : Bool} {k s p : Nat} {σ σ' : cl_S} {ρ ρ' : rf_S}
/-- a handle, or none such -/
theorem Ak.hnd (h : Ak K W b k s p σ ρ) (x : Int32) :
    (∃ t, t < W.N ∧ fc_X8_has (92 + 135 * s + 12 * p) x σ = some (1, σ) ∧ fq_isHandle x ρ = some (1, ρ) ∧ fc_X8_at (92 + 135 * s + 12 * p) x σ = some (some (W.tm t), σ) ∧ fq_of x ρ = some (nI t, ρ)) ∨
    (fc_X8_has (92 + 135 * s + 12 * p) x σ = some (0, σ) ∧ fq_isHandle x ρ = some (0, ρ) ∧ fc_X8_at (92 + 135 * s + 12 * p) x σ = some (some 33, σ)) := by
  have s2 := h.s2
  have p8 := h.p8
  obtain ⟨⟨hh, B, -⟩, tf⟩ := h.P.tb
  have hl := B.hl
  have e33 := h.R.T.C.tms.2.2.1
  unfold fc_X8_at bc_X8_at_0 fc_X8_has bc_X8_has_0 fq_isHandle bq_isHandle_0 fq_of bq_of_0
  rw [h.at', n_ix (show 8 * s + p < 16 by omega) (by omega), n_cl (by omega), B.cc, B.cq]
  by_cases c1 : x < (1:Int32)
  · right
    rw [if_pos c1, if_pos c1, bd2_eq, if_pos rfl, e33, vl_eq]
    exact ⟨rfl, rfl, rfl⟩
  · rw [if_neg c1, if_neg c1]
    by_cases c2 : nI hh < x
    · right
      rw [if_pos c2, if_pos c2, bd2_eq, if_pos rfl, e33, vl_eq]
      exact ⟨rfl, rfl, rfl⟩
    · left
      rcases n_cases x with hn | ⟨q, hq, rfl⟩
      · exact absurd (n_neg hn (show 1 < 2147483648 by omega)).1 c1
      rw [show (1:Int32) = nI 1 from rfl, n_lt hq (by omega)] at c1
      rw [n_lt (by omega) hq] at c2
      obtain ⟨t, ht, et, er⟩ := B.en (q - 1) (by omega)
      rw [Nat.sub_add_cancel (by omega)] at er
      have et' : ρ.1 60 (100 * (8 * s + p) + (q - 1)) = nI t := et
      have k1 : (100:Int32) * nI (8 * s + p) + nI q - (1:Int32) = nI (100 * (8 * s + p) + (q - 1)) := by
        rw [show (100:Int32) = nI 100 from rfl, n_mul, n_add, show (1:Int32) = nI 1 from rfl, n_sub (by omega)]
        congr 1; omega
      have hn0 : ¬ (nI hh < nI q) := fun w => by have := (n_lt (by omega) hq).mp w; omega
      refine ⟨t, ht, ?_, ?_, ?_, ?_⟩
      · rw [if_neg hn0]
      · rw [if_neg hn0]
      · rw [if_neg hn0, bd2_eq, if_neg (by decide), B.cs.2.1, n_ix (by omega) (by omega), n_cl hq, vl_eq, er]
      · rw [k1, n_ix (by omega) (by omega), n_cl (by omega), et']
/-- something goes out -/
theorem Ak.put (h : Ak K W b k s p σ ρ) {w : Int32} {r : Nat} {v f : Int32} (hf : f = 0 ∨ f = 1) (ho : OV W w (some r) v f) :
    (fc_X6_putOut (83 + 135 * s + 12 * p) w (some r) σ = some (-4, σ) ∧ fq_out v f ρ = some (-4, ρ)) ∨
    ∃ σ' ρ', fc_X6_putOut (83 + 135 * s + 12 * p) w (some r) σ = some (0, σ') ∧ Ak K W b k s p σ' ρ' ∧ Kp s p ρ ρ' ∧ fq_out v f ρ = (if f = 0 then some (0, ρ') else if ρ'.1 0 79 = 0 then bd1 (fq_wentOut v ρ') (fun ρ_4 => some (0, ρ_4)) else some (0, ρ')) := by
  have s2 := h.s2
  have p8 := h.p8
  have hP := h.P
  obtain ⟨n, ⟨hn, e1, e2⟩, e3⟩ := hP.ou
  unfold fc_X6_putOut bc_X6_putOut_0 fq_out bq_out_0
  rw [h.at', n_ix (show 8 * s + p < 16 by omega) (by omega), n_cl (by omega), e1, e2]
  by_cases c : n = 200
  · left
    have l0 : ¬ nI n < (200:Int32) := fun q => by have := (n_lt (a := n) (b := 200) (by omega) (by omega)).mp q; omega
    rw [if_neg l0, if_pos (by rw [c]; rfl)]
    exact ⟨rfl, rfl⟩
  · right
    have k1 : (200:Int32) * nI (8 * s + p) + nI n = nI (200 * (8 * s + p) + n) := by rw [show (200:Int32) = nI 200 from rfl, n_mul, n_add]
    have k2 : nI n + (1:Int32) = nI (n + 1) := n_add n 1
    have nf : vp_nar .boolean f = f := by rcases hf with rfl | rfl <;> decide
    have l1 : nI n < (200:Int32) := (n_lt (a := n) (b := 200) (by omega) (by omega)).mpr (by omega)
    have l2 : ¬ nI n = (200:Int32) := fun q => c ((n_eq (a := n) (b := 200) (by omega) (by omega)).mp q)
    rw [if_pos l1, if_neg l2, n_ix (show n < 200 by omega) (by omega), n_cl (show n < 2147483648 by omega), k1, n_ix (show 200 * (8 * s + p) + n < 3200 by omega) (by omega), n_cl (show 200 * (8 * s + p) + n < 2147483648 by omega)]
    simp only [vl_eq]
    have g1 : (cl_w σ (83 + 135 * s + 12 * p + 4) n w).1 (83 + 135 * s + 12 * p) 6 = nI n := by rw [r_w (by omega)]; exact e1
    have g2 : (cl_wr (cl_w σ (83 + 135 * s + 12 * p + 4) n w) (83 + 135 * s + 12 * p + 5) n (some r)).1 (83 + 135 * s + 12 * p) 6 = nI n := g1
    have f1 : (rf_w ρ 62 (200 * (8 * s + p) + n) v).1 0 119 = nI (8 * s + p) := h.at'
    have f2 : (rf_w ρ 62 (200 * (8 * s + p) + n) v).1 64 (8 * s + p) = nI n := by rw [q_w (by decide)]; exact e2
    have f3 : (rf_w (rf_w ρ 62 (200 * (8 * s + p) + n) v) 63 (200 * (8 * s + p) + n) f).1 0 119 = nI (8 * s + p) := h.at'
    have f4 : (rf_w (rf_w ρ 62 (200 * (8 * s + p) + n) v) 63 (200 * (8 * s + p) + n) f).1 64 (8 * s + p) = nI n := by rw [q_w (by decide)]; exact f2
    rw [g1, n_ix (show n < 200 by omega) (by omega), n_cl (show n < 2147483648 by omega), g2, k2, f1, n_ix (show 8 * s + p < 16 by omega) (by omega), n_cl (show 8 * s + p < 2147483648 by omega), f2, k1, n_ix (show 200 * (8 * s + p) + n < 3200 by omega) (by omega), n_cl (show 200 * (8 * s + p) + n < 2147483648 by omega), nf, f3, n_ix (show 8 * s + p < 16 by omega) (by omega), n_ix (show 8 * s + p < 16 by omega) (by omega), n_ix (show 8 * s + p < 16 by omega) (by omega), n_cl (show 8 * s + p < 2147483648 by omega), f4, k2]
    refine ⟨_, _, rfl, ?_, ?_, rfl⟩
    rotate_left
    · exact ⟨rfl, by rw [q_w (by decide), q_w (by decide), q_w (by decide)], by rw [q_w (by decide), q_w (by decide), q_w (by decide)]⟩
    have cI : ∀ a, a ≠ 83 + 135 * s + 12 * p → a ≠ 87 + 135 * s + 12 * p → (cl_w (cl_wr (cl_w σ (83 + 135 * s + 12 * p + 4) n w) (83 + 135 * s + 12 * p + 5) n (some r)) (83 + 135 * s + 12 * p) 6 (nI (n + 1))).1 a = σ.1 a := by
      intro a h1 h2; rw [r_w h1, r_rI, r_w (by omega)]
    have cK : ∀ j, j ≠ 6 → (cl_w (cl_wr (cl_w σ (83 + 135 * s + 12 * p + 4) n w) (83 + 135 * s + 12 * p + 5) n (some r)) (83 + 135 * s + 12 * p) 6 (nI (n + 1))).1 (83 + 135 * s + 12 * p) j = σ.1 (83 + 135 * s + 12 * p) j := by
      intro j hj; rw [r_wk hj, r_rI, r_w (by omega)]
    have cR : ∀ a, a ≠ 88 + 135 * s + 12 * p → (cl_w (cl_wr (cl_w σ (83 + 135 * s + 12 * p + 4) n w) (83 + 135 * s + 12 * p + 5) n (some r)) (83 + 135 * s + 12 * p) 6 (nI (n + 1))).2.2.1 a = σ.2.2.1 a := by
      intro a h1; rw [r_wL, r_r (by omega), r_wL]
    have c87 : ∀ j, (cl_w (cl_wr (cl_w σ (83 + 135 * s + 12 * p + 4) n w) (83 + 135 * s + 12 * p + 5) n (some r)) (83 + 135 * s + 12 * p) 6 (nI (n + 1))).1 (87 + 135 * s + 12 * p) j = if j = n then w else σ.1 (87 + 135 * s + 12 * p) j := by
      intro j; rw [r_w (by omega), r_rI, show 87 + 135 * s + 12 * p = 83 + 135 * s + 12 * p + 4 by omega, g_w]; simp only [true_and]
    have c88 : ∀ j, (cl_w (cl_wr (cl_w σ (83 + 135 * s + 12 * p + 4) n w) (83 + 135 * s + 12 * p + 5) n (some r)) (83 + 135 * s + 12 * p) 6 (nI (n + 1))).2.2.1 (88 + 135 * s + 12 * p) j = if j = n then some r else σ.2.2.1 (88 + 135 * s + 12 * p) j := by
      intro j; rw [r_wL, show 88 + 135 * s + 12 * p = 83 + 135 * s + 12 * p + 5 by omega, g_r, r_wL]; simp only [true_and]
    have qo : ∀ c, c ≠ 62 → c ≠ 63 → c ≠ 64 → (rf_w (rf_w (rf_w ρ 62 (200 * (8 * s + p) + n) v) 63 (200 * (8 * s + p) + n) f) 64 (8 * s + p) (nI (n + 1))).1 c = ρ.1 c := by
      intro c h1 h2 h3; rw [q_w h3, q_w h2, q_w h1]
    have q62 : ∀ i, (rf_w (rf_w (rf_w ρ 62 (200 * (8 * s + p) + n) v) 63 (200 * (8 * s + p) + n) f) 64 (8 * s + p) (nI (n + 1))).1 62 i = if i = 200 * (8 * s + p) + n then v else ρ.1 62 i := by
      intro i; simp only [g_q, true_and, false_and, if_false, Nat.reduceEqDiff]
    have q63 : ∀ i, (rf_w (rf_w (rf_w ρ 62 (200 * (8 * s + p) + n) v) 63 (200 * (8 * s + p) + n) f) 64 (8 * s + p) (nI (n + 1))).1 63 i = if i = 200 * (8 * s + p) + n then f else ρ.1 63 i := by
      intro i; simp only [g_q, true_and, false_and, if_false, Nat.reduceEqDiff]
    have q64 : ∀ i, (rf_w (rf_w (rf_w ρ 62 (200 * (8 * s + p) + n) v) 63 (200 * (8 * s + p) + n) f) 64 (8 * s + p) (nI (n + 1))).1 64 i = if i = 8 * s + p then nI (n + 1) else ρ.1 64 i := by
      intro i; simp only [g_q, true_and, false_and, if_false, Nat.reduceEqDiff]
    have s6 : (cl_w (cl_wr (cl_w σ (83 + 135 * s + 12 * p + 4) n w) (83 + 135 * s + 12 * p + 5) n (some r)) (83 + 135 * s + 12 * p) 6 (nI (n + 1))).1 (83 + 135 * s + 12 * p) 6 = nI (n + 1) := r_ws
    have cT : (cl_w (cl_wr (cl_w σ (83 + 135 * s + 12 * p + 4) n w) (83 + 135 * s + 12 * p + 5) n (some r)) (83 + 135 * s + 12 * p) 6 (nI (n + 1))).2.2.2 = σ.2.2.2 := rfl
    have cL : (cl_w (cl_wr (cl_w σ (83 + 135 * s + 12 * p + 4) n w) (83 + 135 * s + 12 * p + 5) n (some r)) (83 + 135 * s + 12 * p) 6 (nI (n + 1))).2.1 = σ.2.1 := rfl
    have q2 : (rf_w (rf_w (rf_w ρ 62 (200 * (8 * s + p) + n) v) 63 (200 * (8 * s + p) + n) f) 64 (8 * s + p) (nI (n + 1))).2 = ρ.2 := rfl
    generalize (cl_w (cl_wr (cl_w σ (83 + 135 * s + 12 * p + 4) n w) (83 + 135 * s + 12 * p + 5) n (some r)) (83 + 135 * s + 12 * p) 6 (nI (n + 1))) = τ at cI cK cR c87 c88 s6 cT cL ⊢
    generalize (rf_w (rf_w (rf_w ρ 62 (200 * (8 * s + p) + n) v) 63 (200 * (8 * s + p) + n) f) 64 (8 * s + p) (nI (n + 1))) = τq at qo q62 q63 q64 q2 ⊢
    have L : Lc W b s p σ τ ρ τq := by
      refine ⟨fun a q => cI a (fun e => q (by unfold prt; omega)) (fun e => q (by unfold prt; omega)), cL, fun a q => cR a (fun e => q (by unfold prt; omega)), cT, fun c j hc q => ?_, q2, fun j => by rw [qo 0 (by omega) (by omega) (by omega)]⟩
      by_cases c1 : c = 62
      · subst c1
        rw [q62, if_neg]
        rintro rfl
        exact q ⟨.ou 62 n (by decide) (by omega), by decide, by decide, fun e => absurd e (by decide)⟩
      · by_cases c2 : c = 63
        · subst c2
          rw [q63, if_neg]
          rintro rfl
          exact q ⟨.ou 63 n (by decide) (by omega), by decide, by decide, fun e => absurd e (by decide)⟩
        · by_cases c3 : c = 64
          · subst c3
            rw [q64, if_neg]
            rintro rfl
            exact q ⟨.ct 64 (by decide), by decide, by decide, fun e => absurd e (by decide)⟩
          · rw [qo c c1 c2 c3]
    have G := (L.fr s2 p8 h.R.T).G
    refine h.loc L ?_ (qo 61 (by omega) (by omega) (by omega)) (qo 69 (by omega) (by omega) (by omega))
    refine ⟨hP.co.fr rfl rfl (by rw [cK _ (by omega)]) (cI _ (by omega) (by omega)) (cI _ (by omega) (by omega)) (cI _ (by omega) (by omega)) (fun c h1 h2 => by rw [qo c (by omega) (by omega) (by omega)]) (fun r _ => by rw [qo 53 (by omega) (by omega) (by omega)]) (fun i _ => by rw [qo 52 (by omega) (by omega) (by omega)]), hP.tb.fr G (by rw [cK _ (by omega)]) (by rw [cK _ (by omega)]) (cI _ (by omega) (by omega)) (cR _ (by omega)) (cI _ (by omega) (by omega)) (cR _ (by omega)) (fun j _ => by rw [qo 60 (by omega) (by omega) (by omega)]) (by rw [qo 61 (by omega) (by omega) (by omega)]) (by rw [qo 70 (by omega) (by omega) (by omega)]) (by rw [qo 43 (by omega) (by omega) (by omega)]) (fun j _ => by rw [qo 42 (by omega) (by omega) (by omega)]), ?_, hP.ww.fr (by rw [cK _ (by omega)]) (cI _ (by omega) (by omega)) (by rw [qo 66 (by omega) (by omega) (by omega)]) (fun j _ => by rw [qo 65 (by omega) (by omega) (by omega)]), hP.wt.fr G.le (by rw [cK _ (by omega)]) (cR _ (by omega)) (by rw [qo 68 (by omega) (by omega) (by omega)]) (fun j _ => by rw [qo 67 (by omega) (by omega) (by omega)]), hP.se.fr (by rw [cK _ (by omega)]) (by rw [qo 69 (by omega) (by omega) (by omega)]), hP.ms.fr G (fun j _ _ => by rw [cR _ (by omega)]) (by rw [qo 38 (by omega) (by omega) (by omega)]) (by rw [qo 39 (by omega) (by omega) (by omega)])⟩
    refine ⟨n + 1, ⟨by omega, s6, by rw [q64, if_pos rfl]⟩, fun j hj => ?_⟩
    by_cases c1 : j = n
    · subst c1
      rw [c87, if_pos rfl, c88, if_pos rfl, q62, if_pos rfl, q63, if_pos rfl]
      exact ho
    · rw [c87, if_neg c1, c88, if_neg c1, q62, if_neg (by omega), q63, if_neg (by omega)]
      exact e3 j (by omega)
theorem ask_out (h : Ak K W b k s p σ ρ) (w : Int32) : Sim (fc_X6_putOut (83 + 135 * s + 12 * p) w (some 33) σ) (fq_out w 0 ρ) (AkO K W b k s p ρ) := by
  rcases h.put (w := w) (r := 33) (v := w) (f := 0) (Or.inl rfl) (Or.inl ⟨rfl, rfl, rfl⟩) with ⟨e1, e2⟩ | ⟨σ', ρ', e1, h', kp, e2⟩
  · exact ⟨_, _, e1, e2, AkO.same h _⟩
  · rw [if_pos rfl] at e2
    exact ⟨_, _, e1, e2, rfl, W, Wd.le.refl W, h', kp⟩
/-- a TERM is told -/
theorem Ak.tell (h : Ak K W b k s p σ ρ) (hb : b = false) {t : Nat} (ht : t < W.N) : ∃ σ' ρ', fc_X10_tell 31 (some (W.tm t)) σ = some σ' ∧ fq_wentOut (nI t) ρ = some ρ' ∧ Ak K W b k s p σ' ρ' ∧ Kp s p ρ ρ' := by
  obtain ⟨σ', ρ', e1, e2, F, Q, T', -⟩ := t_tell h.R.T ht (by rw [nbd_s (h.R.n0 hb)]; have := h.R.n0 hb; have := h.R.T.Q.n.2; omega)
  exact ⟨σ', ρ', e1, e2, h.terms F Q (Wd.le.refl W) T' (Nat.le_refl _) (Nat.le_refl _) (Nat.le_refl _) (Nat.le_refl _), Q.kp⟩
theorem ask_outTerm (h : Ak K W b k s p σ ρ) (x : Int32) : Sim (bd2 (fc_X8_at (92 + 135 * s + 12 * p) x σ) (fun r σ => bd2 (fc_X5_outTerm (47 + 132 * s) (some (83 + 135 * s + 12 * p)) r σ) (fun r σ => some (r, σ)))) (bd2 (fq_isHandle x ρ) (fun r_23 ρ_22 => (if r_23 = 0 then some ((-2:Int32), ρ_22) else bd2 (fq_of x ρ_22) (fun r_25 ρ_24 => bd2 (fq_out r_25 (1:Int32) ρ_24) (fun r_27 ρ_26 => some (r_27, ρ_26)))))) (AkO K W b k s p ρ) := by
  have e33 := h.R.T.C.tms.2.2.1
  have z1 : ¬ (1:Int32) = 0 := by decide
  unfold fc_X5_outTerm bc_X5_outTerm_0
  rcases h.hnd x with ⟨t, ht, -, e2, e3, e4⟩ | ⟨-, e2, e3⟩
  · have ne : ¬ (some (W.tm t) = some 33) := fun q => by have := h.R.T.C.mem _ (h.R.T.L.inm t ht); have := Option.some.inj q; omega
    rw [e3, bd2_eq, e2, bd2_eq, if_neg z1, e4, bd2_eq, e33, vl_eq, if_neg ne, nn_eq]
    rcases h.put (w := 0) (r := W.tm t) (v := nI t) (f := 1) (Or.inr rfl) (Or.inr ⟨rfl, rfl, t, ht, rfl, rfl⟩) with ⟨f1, f2⟩ | ⟨σ', ρ', f1, h', kp, f2⟩
    · rw [f1, bd2_eq, f2, bd2_eq, if_neg (by decide), bd2_eq]
      exact Sim.mk (AkO.same h _)
    · rw [if_neg z1] at f2
      rw [f1, bd2_eq, if_pos rfl, f2]
      have hre := h'.M.re
      rcases h.hs with ⟨rfl, hb⟩ | ⟨rfl, -⟩
      · have sd0 : ρ'.1 0 79 = 0 := h'.sd
        rw [if_pos sd0]
        obtain ⟨σ2, ρ2, g1, g2, h2, kp2⟩ := h'.tell hb ht
        have r1 : σ'.1 (47 + 132 * 0) 2 = 1 := hre
        rw [r1, if_neg z1, g1, bd1_eq, g2, bd1_eq, bd2_eq, bd2_eq]
        exact Sim.mk ⟨rfl, W, Wd.le.refl W, h2, kp.trans kp2⟩
      · have r1 : σ'.1 (47 + 132 * 1) 2 = 0 := hre
        have sd1 : ¬ ρ'.1 0 79 = 0 := by rw [h'.sd]; decide
        rw [if_neg sd1, r1, if_pos rfl, bd2_eq, bd2_eq]
        exact Sim.mk ⟨rfl, W, Wd.le.refl W, h', kp⟩
  · rw [e3, bd2_eq, e2, bd2_eq, if_pos rfl, e33, vl_eq, if_pos rfl, bd2_eq]
    exact Sim.mk (AkO.same h _)
end Z2_L4
