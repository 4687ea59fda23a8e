section Z2_LH
variable {K : Bd} {W W' : Wd} {b : Bool} {k s p : Nat} {σ σ' : cl_S} {ρ ρ' : rf_S}
/-- the seal is written -/
theorem seal_fill (h : Ak (K.up 5) W b k s p σ ρ) {bi t n : Nat} (hbi : bi < 64) (ht : t < W.N) (vv : Int32) (hn : n < 40) (en : ρ.1 69 (8 * s + p) = nI n) : Ak K W b k s p (cl_w (cl_wr (cl_w σ (42 + 139 * s) bi vv) (43 + 139 * s) bi (some (W.tm t))) (83 + 135 * s + 12 * p) 14 (nI (n + 1))) (rf_w (rf_w (rf_w ρ 74 (64 * s + bi) vv) 75 (64 * s + bi) (nI t)) 69 (8 * s + p) (nI (n + 1))) ∧ Kp s p ρ (rf_w (rf_w (rf_w ρ 74 (64 * s + bi) vv) 75 (64 * s + bi) (nI t)) 69 (8 * s + p) (nI (n + 1))) := by
  have s2 := h.s2
  have s01 : s = 0 ∨ s = 1 := by omega
  have p8 := h.p8
  have hN := h.R.T.Q.n.2
  have np8 := h.R.cf.np.1
  have cI : ∀ a, a ≠ 42 + 139 * s → a ≠ 83 + 135 * s + 12 * p → (cl_w (cl_wr (cl_w σ (42 + 139 * s) bi vv) (43 + 139 * s) bi (some (W.tm t))) (83 + 135 * s + 12 * p) 14 (nI (n + 1))).1 a = σ.1 a := fun a h1 h2 => by rw [r_w h2, r_rI, r_w h1]
  have c42 : ∀ j, (cl_w (cl_wr (cl_w σ (42 + 139 * s) bi vv) (43 + 139 * s) bi (some (W.tm t))) (83 + 135 * s + 12 * p) 14 (nI (n + 1))).1 (42 + 139 * s) j = if j = bi then vv else σ.1 (42 + 139 * s) j := fun j => by rw [r_w (by omega), r_rI, g_w]; simp only [true_and]
  have cK : ∀ j, j ≠ 14 → (cl_w (cl_wr (cl_w σ (42 + 139 * s) bi vv) (43 + 139 * s) bi (some (W.tm t))) (83 + 135 * s + 12 * p) 14 (nI (n + 1))).1 (83 + 135 * s + 12 * p) j = σ.1 (83 + 135 * s + 12 * p) j := fun j hj => by rw [r_wk hj, r_rI, r_w (by omega)]
  have c14 : (cl_w (cl_wr (cl_w σ (42 + 139 * s) bi vv) (43 + 139 * s) bi (some (W.tm t))) (83 + 135 * s + 12 * p) 14 (nI (n + 1))).1 (83 + 135 * s + 12 * p) 14 = nI (n + 1) := r_ws
  have cR : ∀ a, a ≠ 43 + 139 * s → (cl_w (cl_wr (cl_w σ (42 + 139 * s) bi vv) (43 + 139 * s) bi (some (W.tm t))) (83 + 135 * s + 12 * p) 14 (nI (n + 1))).2.2.1 a = σ.2.2.1 a := fun a h1 => by rw [r_wL, r_r h1, r_wL]
  have c43 : ∀ j, (cl_w (cl_wr (cl_w σ (42 + 139 * s) bi vv) (43 + 139 * s) bi (some (W.tm t))) (83 + 135 * s + 12 * p) 14 (nI (n + 1))).2.2.1 (43 + 139 * s) j = if j = bi then some (W.tm t) else σ.2.2.1 (43 + 139 * s) j := fun j => by rw [r_wL, g_r, r_wL]; simp only [true_and]
  have cT : (cl_w (cl_wr (cl_w σ (42 + 139 * s) bi vv) (43 + 139 * s) bi (some (W.tm t))) (83 + 135 * s + 12 * p) 14 (nI (n + 1))).2.2.2 = σ.2.2.2 := rfl
  have cL : (cl_w (cl_wr (cl_w σ (42 + 139 * s) bi vv) (43 + 139 * s) bi (some (W.tm t))) (83 + 135 * s + 12 * p) 14 (nI (n + 1))).2.1 = σ.2.1 := rfl
  have qo : ∀ d, d ≠ 69 → d ≠ 74 → d ≠ 75 → (rf_w (rf_w (rf_w ρ 74 (64 * s + bi) vv) 75 (64 * s + bi) (nI t)) 69 (8 * s + p) (nI (n + 1))).1 d = ρ.1 d := fun d h1 h2 h3 => by rw [q_w h1, q_w h3, q_w h2]
  have q69 : ∀ j, (rf_w (rf_w (rf_w ρ 74 (64 * s + bi) vv) 75 (64 * s + bi) (nI t)) 69 (8 * s + p) (nI (n + 1))).1 69 j = if j = 8 * s + p then nI (n + 1) else ρ.1 69 j := fun j => by simp only [g_q, true_and, false_and, if_false, Nat.reduceEqDiff]
  have q74 : ∀ j, (rf_w (rf_w (rf_w ρ 74 (64 * s + bi) vv) 75 (64 * s + bi) (nI t)) 69 (8 * s + p) (nI (n + 1))).1 74 j = if j = 64 * s + bi then vv else ρ.1 74 j := fun j => by simp only [g_q, true_and, false_and, if_false, Nat.reduceEqDiff]
  have q75 : ∀ j, (rf_w (rf_w (rf_w ρ 74 (64 * s + bi) vv) 75 (64 * s + bi) (nI t)) 69 (8 * s + p) (nI (n + 1))).1 75 j = if j = 64 * s + bi then nI t else ρ.1 75 j := fun j => by simp only [g_q, true_and, false_and, if_false, Nat.reduceEqDiff]
  have q2 : (rf_w (rf_w (rf_w ρ 74 (64 * s + bi) vv) 75 (64 * s + bi) (nI t)) 69 (8 * s + p) (nI (n + 1))).2 = ρ.2 := rfl
  generalize (cl_w (cl_wr (cl_w σ (42 + 139 * s) bi vv) (43 + 139 * s) bi (some (W.tm t))) (83 + 135 * s + 12 * p) 14 (nI (n + 1))) = τ at cI c42 cK c14 cR c43 cT cL ⊢
  generalize (rf_w (rf_w (rf_w ρ 74 (64 * s + bi) vv) 75 (64 * s + bi) (nI t)) 69 (8 * s + p) (nI (n + 1))) = τq at qo q69 q74 q75 q2 ⊢
  have M := h.M
  have L : Lm b s σ τ ρ τq := by
    refine ⟨fun a w => cI a (fun e => w (by unfold mrw; omega)) (fun e => w (by unfold mrw; omega)), cL, fun a w => cR a (fun e => w (by unfold mrw; omega)), cT, fun j hj => by rw [cI _ (by omega) (by omega)], by rw [cR _ (by omega)], fun d j hd w => ?_, q2, fun j => by rw [qo 0 (by omega) (by omega) (by omega)], fun p' hp' => ⟨by
      by_cases e : p' = p
      · subst e; exact cK 3 (by omega)
      · rw [cI _ (by omega) (by omega)], fun j hj => by rw [cI _ (by omega) (by omega)]⟩⟩
    by_cases e1 : d = 69
    · subst e1
      rw [q69, if_neg]
      rintro rfl
      exact w (by unfold mpl; omega)
    · by_cases e2 : d = 74
      · subst e2
        rw [q74, if_neg]
        rintro rfl
        exact w (by unfold mpl; omega)
      · by_cases e3 : d = 75
        · subst e3
          rw [q75, if_neg]
          rintro rfl
          exact w (by unfold mpl; omega)
        · rw [qo d e1 e2 e3]
  have F := L.fr s2 h.R.T
  have M' : MRel W s τ τq := by
    refine ⟨fun r hr => ?_, by rw [cR _ (by omega)]; exact M.cp, by rw [cI _ (by omega) (by omega)]; exact M.re, by rw [cI _ (by omega) (by omega), qo 48 (by omega) (by omega) (by omega)]; exact M.tk, by rw [cI _ (by omega) (by omega), qo 49 (by omega) (by omega) (by omega), qo 50 (by omega) (by omega) (by omega)]; exact M.sl, by rw [cI _ (by omega) (by omega), qo 51 (by omega) (by omega) (by omega)]; exact M.yl, by rw [cI _ (by omega) (by omega), qo 0 (by omega) (by omega) (by omega)]; exact M.ct, fun c i hc hi => by rw [cI _ (by omega) (by omega), qo 71 (by omega) (by omega) (by omega)]; exact M.sn c i hc hi, fun c hc => by rw [cI _ (by omega) (by omega), qo 72 (by omega) (by omega) (by omega)]; exact M.ur c hc, fun c hc => by rw [cR _ (by omega), qo 73 (by omega) (by omega) (by omega)]; exact M.st c hc, fun d hd => ?_, fun e => by rw [cI _ (by omega) (by omega)]; exact M.on e⟩
    · by_cases e1 : r = p
      · subst e1
        have hP := h.P
        refine ⟨hP.co.fr rfl rfl (by rw [cK _ (by omega)]) (cI _ (by omega) (by omega)) (cI _ (by omega) (by omega)) (cI _ (by omega) (by omega)) (fun c h1 h2 => by rw [qo c (by omega) (by omega) (by omega)]) (fun i _ => by rw [qo 53 (by omega) (by omega) (by omega)]) (fun i _ => by rw [qo 52 (by omega) (by omega) (by omega)]), hP.tb.fr F.G (by rw [cK _ (by omega)]) (by rw [cK _ (by omega)]) (cI _ (by omega) (by omega)) (cR _ (by omega)) (cI _ (by omega) (by omega)) (cR _ (by omega)) (fun j _ => by rw [qo 60 (by omega) (by omega) (by omega)]) (by rw [qo 61 (by omega) (by omega) (by omega)]) (by rw [qo 70 (by omega) (by omega) (by omega)]) (by rw [qo 43 (by omega) (by omega) (by omega)]) (fun j _ => by rw [qo 42 (by omega) (by omega) (by omega)]), hP.ou.fr F.G.le (by rw [cK _ (by omega)]) (cI _ (by omega) (by omega)) (cR _ (by omega)) (by rw [qo 64 (by omega) (by omega) (by omega)]) (fun c j hc _ => by rw [qo c (by omega) (by omega) (by omega)]), hP.ww.fr (by rw [cK _ (by omega)]) (cI _ (by omega) (by omega)) (by rw [qo 66 (by omega) (by omega) (by omega)]) (fun j _ => by rw [qo 65 (by omega) (by omega) (by omega)]), hP.wt.fr F.G.le (by rw [cK _ (by omega)]) (cR _ (by omega)) (by rw [qo 68 (by omega) (by omega) (by omega)]) (fun j _ => by rw [qo 67 (by omega) (by omega) (by omega)]), ⟨n + 1, by omega, c14, by rw [q69, if_pos rfl]⟩, hP.ms.fr F.G (fun j _ _ => by rw [cR _ (by omega)]) (by rw [qo 38 (by omega) (by omega) (by omega)]) (by rw [qo 39 (by omega) (by omega) (by omega)])⟩
      · refine (M.pr r hr).fr F.G (fun i hi => cI _ (by omega) (by omega)) (fun i hi => cR _ (by omega)) (fun d j hseg => ?_)
        have ho := hseg.out
        have n74 : d ≠ 74 ∧ d ≠ 75 := by
          rcases ho with ho | ho | ho | ho | ho | ho | ho | ho <;> omega
        by_cases e2 : d = 69
        · have hj : j = 8 * s + r := by
            rcases ho with ho | ho | ho | ho | ho | ho | ho | ho
            · exact ho.2.2.2.2.2.2.2
            · exact absurd e2 (by omega)
            · exact absurd e2 (by omega)
            · exact absurd e2 (by omega)
            · exact absurd e2 (by omega)
            · exact absurd e2 (by omega)
            · exact absurd e2 (by omega)
            · exact absurd e2 (by omega)
          subst e2
          rw [q69, if_neg (by omega)]
        · rw [qo d e2 n74.1 n74.2]
    · rw [c42, c43, q74, q75]
      by_cases e1 : d = bi
      · subst e1
        rw [if_pos rfl, if_pos rfl, if_pos rfl, if_pos rfl]
        refine ⟨rfl, Or.inr ⟨t, ht, rfl, rfl⟩, fun w => ?_⟩
        exfalso
        have q3 : (nI t).toInt = (-1:Int32).toInt := by rw [w]
        rw [n_toInt (by omega), show (-1:Int32).toInt = -1 by decide] at q3
        omega
      · rw [if_neg e1, if_neg e1, if_neg (by omega), if_neg (by omega)]
        exact M.dk d hd
  refine ⟨?_, ⟨by rw [qo 0 (by omega) (by omega) (by omega)], by rw [qo 54 (by omega) (by omega) (by omega)], by rw [qo 48 (by omega) (by omega) (by omega)]⟩⟩
  have qa : ∀ c, 12 < c → (c < 42 ∨ (43 < c ∧ c < 48) ∨ 75 < c) → τq.1 c = ρ.1 c := fun c h1 h2 => qo c (by omega) (by omega) (by omega)
  have m47 : ∀ j, j = 8 ∨ j = 14 ∨ j = 15 → τ.1 47 j = σ.1 47 j := by
    intro j hj; rw [cI 47 (by omega) (by omega)]
  have O' : OthB W k τ τq := h.R.oB.fr F.G (cI 0 (by omega) (by omega)) (cR 0 (by omega)) (fun a ha => cI a (by omega) (by omega)) m47 (fun a ha => cR a (by omega)) (fun c hc => qa c (by omega) (by omega)) (fun j _ => L.f j) (by rw [qo 48 (by omega) (by omega) (by omega)]; exact Nat.le_refl _)
  refine h.mach F M' O' (by rw [cR _ (by omega)]) (L.tm s2 h.R.T) ?_ (fun j _ => L.f j) (by rw [cI _ (by omega) (by omega)]) L.pi
  have dec : phA b τq + 5 ≤ phA b ρ := by
    refine phA_dec (s := s) (p := p) (by rcases h.hs with q | q; exact Or.inl q.1; exact Or.inr q) p8 (fun g hg => ⟨by rw [qo 61 (by omega) (by omega) (by omega)], by rw [q69, if_neg hg]⟩) ?_
    unfold phG
    rw [qo 61 (by omega) (by omega) (by omega), q69, if_pos rfl, en, n_cl (by omega), n_cl (by omega)]
    omega
  have Bd0 := h.R.bd
  have bn := Bd0.n
  have bl := Bd0.l
  have bc := Bd0.c
  have bs := Bd0.s
  have u1 : (K.up 5).kn = K.kn + 5 := rfl
  have u2 : (K.up 5).kl = K.kl + 5 := rfl
  have u3 : (K.up 5).kc = K.kc := rfl
  have u4 : (K.up 5).ks = K.ks := rfl
  unfold phA at dec
  exact ⟨by omega, by omega, by rw [cT]; omega, by rw [cT]; omega⟩
end Z2_LH
