section Z2_LE
variable {K : Bd} {W W' : Wd} {b : Bool} {k s p : Nat} {σ σ' : cl_S} {ρ ρ' : rf_S}
theorem q_recv_lp {ρ : rf_S} {c n g q to : Nat} (hc : c < 16) (hl : ρ.1 34 c = nI n) (hn : n ≤ 16) (hg : ρ.1 0 120 = nI g) (hq : q < 2147483648) (hgq : g + q / 4 + n ≤ 16384) (hto : to < 32) : ∃ w ρ', lp (fun z : (Int32 × rf_S) => lq_receive_41 (nI c) (nI q) (nI to) z.1 z.2) (nI 0, ρ) = some (w, ρ') ∧ (∀ d, d ≠ 52 → ρ'.1 d = ρ.1 d) ∧ ρ'.2 = ρ.2 ∧ ∀ j, ρ'.1 52 j = if g + q / 4 ≤ j ∧ j < g + q / 4 + n then ρ.1 71 (16 * to + (j - (g + q / 4))) else ρ.1 52 j := by
  have loop := lp_ok (b := fun z : (Int32 × rf_S) => lq_receive_41 (nI c) (nI q) (nI to) z.1 z.2)
    (fun m z => ∃ i τ, i + m = n ∧ z = (nI i, τ) ∧ (∀ d, d ≠ 52 → τ.1 d = ρ.1 d) ∧ τ.2 = ρ.2 ∧ ∀ j, τ.1 52 j = if g + q / 4 ≤ j ∧ j < g + q / 4 + i then ρ.1 71 (16 * to + (j - (g + q / 4))) else ρ.1 52 j)
    (fun y => ∃ w τ, y = (w, τ) ∧ (∀ d, d ≠ 52 → τ.1 d = ρ.1 d) ∧ τ.2 = ρ.2 ∧ ∀ j, τ.1 52 j = if g + q / 4 ≤ j ∧ j < g + q / 4 + n then ρ.1 71 (16 * to + (j - (g + q / 4))) else ρ.1 52 j) ?_ n (nI 0, ρ) ⟨0, ρ, by omega, rfl, fun _ _ => rfl, rfl, fun j => by rw [if_neg (by omega)]⟩
  · obtain ⟨y, ey, w, τ, rfl, r⟩ := loop
    exact ⟨w, τ, ey, r⟩
  · rintro m z ⟨i, τ, him, rfl, h1, h2, h3⟩
    show (∃ t m', lq_receive_41 (nI c) (nI q) (nI to) (nI i) τ = some (.inl t) ∧ m' < m ∧ _) ∨ (∃ y, lq_receive_41 (nI c) (nI q) (nI to) (nI i) τ = some (.inr y) ∧ _)
    unfold lq_receive_41
    rw [n_ix hc (by omega), n_cl (by omega), h1 34 (by omega), hl]
    by_cases e : n ≤ i
    · right
      have : i = n := by omega
      subst this
      rw [if_pos ((n_le (by omega) (by omega)).mpr (by omega))]
      exact ⟨_, rfl, _, τ, rfl, h1, h2, h3⟩
    · left
      have k1 : nI g + nI q / (4:Int32) + nI i = nI (g + q / 4 + i) := by rw [show (4:Int32) = nI 4 from rfl, n_div hq (by omega), n_add, n_add]
      have k2 : (16:Int32) * nI to + nI i = nI (16 * to + i) := by rw [show (16:Int32) = nI 16 from rfl, n_mul, n_add]
      rw [if_neg (fun w => e ((n_le (by omega) (by omega)).mp w)), h1 0 (by omega), hg, k1, k2, n_ix (show 16 * to + i < 512 by omega) (by omega), n_ix (show g + q / 4 + i < 16384 by omega) (by omega), n_cl (by omega), n_cl (by omega), h1 71 (by omega), vl_eq, vl_eq, show nI i + (1:Int32) = nI (i + 1) from n_add i 1]
      refine ⟨_, m - 1, rfl, by omega, i + 1, _, by omega, rfl, fun d hd => by rw [q_w hd]; exact h1 d hd, h2, fun j => ?_⟩
      rw [g_q]
      by_cases e2 : j = g + q / 4 + i
      · subst e2
        rw [if_pos ⟨rfl, rfl⟩, if_pos (by omega)]
        exact congrArg (ρ.1 71) (by omega)
      · rw [if_neg (fun w => e2 w.2), h3 j]
        by_cases e3 : g + q / 4 ≤ j ∧ j < g + q / 4 + i
        · rw [if_pos e3, if_pos (by omega)]
        · rw [if_neg e3, if_neg (by omega)]
theorem ask_receive (h : Ak K W b k s p σ ρ) (x : Int32) : Sim (fc_X5_receive (47 + 132 * s) (some (83 + 135 * s + 12 * p)) x σ) (fq_receive x (σ.1 (86 + 135 * s + 12 * p) 2) ρ) (AkO K W b k s p ρ) := by
  have s2 := h.s2
  have s01 : s = 0 ∨ s = 1 := by omega
  have p8 := h.p8
  have C := h.ctx
  obtain ⟨b1, b2, b3, b4, b5⟩ := C.bd
  have z1 : ¬ (1:Int32) = 0 := by decide
  have n1 := h.R.cf.nc.1
  have cp := h.M.cp
  have c2 : (2:Int32).toNatClampNeg = 2 := by decide
  have i2 : ∀ {α : Type} (x : Option α), ix (2:Int32) 16 x = x := fun x => n_ix (a := 2) (by omega) (by omega)
  have a3 : 83 + 135 * s + 12 * p + 1 + 2 = 86 + 135 * s + 12 * p := by omega
  have a1 : 83 + 135 * s + 12 * p + 1 = 84 + 135 * s + 12 * p := by omega
  unfold fc_X5_receive bc_X5_receive_0 fq_receive bq_receive_0
  rcases h.chT x with ⟨c, hc, rfl, e1, e2⟩ | ⟨e1, e2⟩
  rotate_left
  · rw [e1, e2, bd2_eq, bd2_eq, if_pos rfl, if_pos rfl]
    exact Sim.mk (AkO.same h _)
  obtain ⟨⟨d1, d2, d3, d4⟩, -, -, -, -, d9, d10⟩ := h.R.cf.ch c hc
  obtain ⟨sp1, sp2⟩ := h.R.st.sp s c s2 (by omega)
  have k5 : (16:Int32) * nI s + nI c = nI (16 * s + c) := by rw [show (16:Int32) = nI 16 from rfl, n_mul, n_add]
  rw [e1, e2, bd2_eq, bd2_eq, if_neg z1, if_neg z1, nn_eq, i2, c2, a3, vl_eq, cp, vl_eq, nn_eq, n_ix (show c < 16 by omega) (by omega), n_cl (by omega), d9, d10, a1, n_ix (show c < 16 by omega) (by omega)]
  rcases in_eq h (n := W.ln c) ⟨d3, d4⟩ (σ.1 (86 + 135 * s + 12 * p) 2) with ⟨q, hq, eq, hqn, f1, f2⟩ | ⟨f1, f2⟩
  rotate_left
  · rw [f1, f2, bd2_eq, bd2_eq, if_pos rfl, if_pos rfl]
    exact Sim.mk (AkO.same h _)
  have c0 : (0:Int32).toNatClampNeg = 0 := by decide
  rw [f1, f2, bd2_eq, bd2_eq, if_neg z1, if_neg z1, n_ix (show c < 16 by omega) (by omega), md_eq s2, show 47 + 132 * s + 13 + 3 * s = 60 + 135 * s by omega, sp1, vl_eq, cp, vl_eq, nn_eq, n_ix (show c < 16 by omega) (by omega), nn_eq, sp2, d9, eq, n_shr2 hq, h.sd, k5, vl_eq]
  have cg : cpg (α := Int32 × cl_S) (0:Int32) (nI (q / 4)) (nI (W.ln c)) (1, 16).2 2048 = fun x => x := by
    funext x
    unfold cpg
    rw [if_neg]
    rintro (w | w | w | w | w)
    · exact absurd w (by decide)
    · exact n_nneg (by omega) w
    · exact n_nneg (by omega) w
    · rw [n_cl (by omega), c0] at w
      have : (16:Nat) < 0 + W.ln c := w
      omega
    · rw [n_cl (by omega), n_cl (by omega)] at w; omega
  rw [cg, n_ix (show c < 16 by omega) (by omega), vl_eq, vl_eq, n_ix (show c < 16 by omega) (by omega), vl_eq, show 47 + 132 * s + 30 + 3 * s = 77 + 135 * s by omega]
  unfold bq_receive_41 eq_receive_41
  obtain ⟨w, ρ1, g1, g2, g3, g4⟩ := q_recv_lp (c := c) (n := W.ln c) (g := 8192 * s + W.bs p) (q := q) (to := 16 * s + c) (by omega) d10 d4 h.gd hq (by omega) (by omega)
  have g1' : lp (fun z : (Int32 × rf_S) => lq_receive_41 (nI c) (nI q) (nI (16 * s + c)) z.1 z.2) (0, ρ) = some (w, ρ1) := g1
  rw [g1']
  show Sim _ (ix (nI (16 * s + c)) 32 (vl (ρ1.1 72 (nI (16 * s + c)).toNatClampNeg) (fun x4_8 => ix (nI (16 * s + c)) 32 (vl (rf_w ρ1 72 (nI (16 * s + c)).toNatClampNeg (vp_nar .boolean (0:Int32))) (fun ρ_9 => (if x4_8 = 0 then some ((0:Int32), ρ_9) else some ((1:Int32), ρ_9))))))) _
  have M := h.M
  obtain ⟨ur1, ur2⟩ := M.ur c (by omega)
  rw [n_ix (show 16 * s + c < 32 by omega) (by omega), n_cl (by omega), nar_0, vl_eq, n_ix (show 16 * s + c < 32 by omega) (by omega), vl_eq, g2 72 (by omega)]
  have u77 : (cl_cp σ (61 + 135 * s + c) (84 + 135 * s + 12 * p + 1) 0 (nI (q / 4)) (nI (W.ln c))).1 (77 + 135 * s) c = ρ.1 72 (16 * s + c) := by rw [r_c (by omega)]; exact ur1
  have ret : (if ρ.1 72 (16 * s + c) = 0 then some ((0:Int32), rf_w ρ1 72 (16 * s + c) 0) else some ((1:Int32), rf_w ρ1 72 (16 * s + c) 0)) = some (ρ.1 72 (16 * s + c), rf_w ρ1 72 (16 * s + c) 0) := by
    rcases ur2 with e | e
    · rw [e, if_pos rfl]
    · rw [e, if_neg z1]
  rw [ret, u77]
  have cI : ∀ a, a ≠ 85 + 135 * s + 12 * p → a ≠ 77 + 135 * s → (cl_w (cl_cp σ (61 + 135 * s + c) (84 + 135 * s + 12 * p + 1) 0 (nI (q / 4)) (nI (W.ln c))) (77 + 135 * s) c 0).1 a = σ.1 a := fun a ha hb => by rw [r_w hb, r_c (by omega)]
  have c85 : ∀ j, (cl_w (cl_cp σ (61 + 135 * s + c) (84 + 135 * s + 12 * p + 1) 0 (nI (q / 4)) (nI (W.ln c))) (77 + 135 * s) c 0).1 (85 + 135 * s + 12 * p) j = if q / 4 ≤ j ∧ j < q / 4 + W.ln c then σ.1 (61 + 135 * s + c) (j - q / 4) else σ.1 (85 + 135 * s + 12 * p) j := by
    intro j
    rw [r_w (by omega), show 85 + 135 * s + 12 * p = 84 + 135 * s + 12 * p + 1 by omega, r_cs, n_cl (by omega), n_cl (by omega), c0]
    unfold va_cpy
    by_cases e : q / 4 ≤ j ∧ j < q / 4 + W.ln c
    · rw [if_pos e, if_pos e, Nat.zero_add]
    · rw [if_neg e, if_neg e]
  have c77 : ∀ j, (cl_w (cl_cp σ (61 + 135 * s + c) (84 + 135 * s + 12 * p + 1) 0 (nI (q / 4)) (nI (W.ln c))) (77 + 135 * s) c 0).1 (77 + 135 * s) j = if j = c then 0 else σ.1 (77 + 135 * s) j := by
    intro j
    rw [g_w, r_c (by omega)]
    simp only [true_and]
  have cT : (cl_w (cl_cp σ (61 + 135 * s + c) (84 + 135 * s + 12 * p + 1) 0 (nI (q / 4)) (nI (W.ln c))) (77 + 135 * s) c 0).2 = σ.2 := rfl
  have qo : ∀ d, d ≠ 52 → d ≠ 72 → (rf_w ρ1 72 (16 * s + c) 0).1 d = ρ.1 d := fun d h1 h2 => by rw [q_w h2, g2 d h1]
  have q72 : ∀ j, (rf_w ρ1 72 (16 * s + c) 0).1 72 j = if j = 16 * s + c then 0 else ρ.1 72 j := fun j => by rw [g_q, g2 72 (by omega)]; simp only [true_and]
  have q52 : ∀ j, (rf_w ρ1 72 (16 * s + c) 0).1 52 j = if 8192 * s + W.bs p + q / 4 ≤ j ∧ j < 8192 * s + W.bs p + q / 4 + W.ln c then ρ.1 71 (16 * (16 * s + c) + (j - (8192 * s + W.bs p + q / 4))) else ρ.1 52 j := fun j => by rw [q_w (by decide)]; exact g4 j
  have q2 : (rf_w ρ1 72 (16 * s + c) 0).2 = ρ.2 := g3
  generalize (cl_w (cl_cp σ (61 + 135 * s + c) (84 + 135 * s + 12 * p + 1) 0 (nI (q / 4)) (nI (W.ln c))) (77 + 135 * s) c 0) = τ at cI c85 c77 cT ⊢
  generalize (rf_w ρ1 72 (16 * s + c) 0) = τq at qo q72 q52 q2 ⊢
  have L : Lm b s σ τ ρ τq := by
    refine ⟨fun a w => cI a (fun e => w (by unfold mrw; omega)) (fun e => w (by unfold mrw; omega)), by rw [cT], fun a w => by rw [cT], by rw [cT], fun j hj => by rw [cI _ (by omega) (by omega)], by rw [cT], fun d j hd w => ?_, q2, fun j => by rw [qo 0 (by omega) (by omega)], fun p' hp' => ⟨by rw [cI _ (by omega) (by omega)], fun j hj => by rw [cI _ (by omega) (by omega)]⟩⟩
    by_cases e1 : d = 52
    · subst e1
      rw [q52, if_neg]
      intro e
      exact w (Or.inr (Or.inl ⟨rfl, by omega, by omega⟩))
    · by_cases e2 : d = 72
      · subst e2
        rw [q72, if_neg]
        rintro rfl
        exact w (Or.inr (Or.inr (Or.inr (Or.inr (Or.inr (Or.inr (Or.inr (Or.inr (Or.inl ⟨Or.inl rfl, by omega, by omega⟩)))))))))
      · rw [qo d e1 e2]
  have F := L.fr s2 h.R.T
  refine Sim.mk ⟨rfl, W, Wd.le.refl W, h.mloc L ?_ (qo 61 (by omega) (by omega)) (qo 69 (by omega) (by omega)) (by rw [qo 48 (by omega) (by omega)]; exact Nat.le_refl _), ⟨by rw [qo 0 (by omega) (by omega)], by rw [qo 54 (by omega) (by omega)], by rw [qo 48 (by omega) (by omega)]⟩⟩
  refine ⟨?_, by rw [cT]; exact M.cp, by rw [cI _ (by omega) (by omega)]; exact M.re, by rw [cI _ (by omega) (by omega), qo 48 (by omega) (by omega)]; exact M.tk, by rw [cI _ (by omega) (by omega), qo 49 (by omega) (by omega), qo 50 (by omega) (by omega)]; exact M.sl, by rw [cI _ (by omega) (by omega), qo 51 (by omega) (by omega)]; exact M.yl, by rw [cI _ (by omega) (by omega), qo 0 (by omega) (by omega)]; exact M.ct, ?_, ?_, ?_, ?_, ?_⟩
  · intro r hr
    have rb := (h.R.cf.pa r hr).1
    by_cases e1 : r = p
    · subst e1
      have hP := h.P
      refine ⟨⟨by rw [cI _ (by omega) (by omega)]; exact hP.co.ix, by rw [cI _ (by omega) (by omega)]; exact hP.co.sz, by rw [cI _ (by omega) (by omega), qo 54 (by omega) (by omega)]; exact hP.co.pc, by rw [cI _ (by omega) (by omega), qo 58 (by omega) (by omega)]; exact hP.co.hd, by rw [cI _ (by omega) (by omega), qo 56 (by omega) (by omega)]; exact hP.co.ca, by rw [cI _ (by omega) (by omega), qo 57 (by omega) (by omega)]; exact hP.co.wh, by rw [cI _ (by omega) (by omega), qo 55 (by omega) (by omega)]; exact hP.co.ha, by rw [cI _ (by omega) (by omega), qo 59 (by omega) (by omega)]; exact hP.co.ih, fun i hi => by rw [cI _ (by omega) (by omega), qo 53 (by omega) (by omega)]; exact hP.co.rg i hi, fun i hi => ?_⟩, hP.tb.fr F.G (by rw [cI _ (by omega) (by omega)]) (by rw [cI _ (by omega) (by omega)]) (cI _ (by omega) (by omega)) (by rw [cT]) (cI _ (by omega) (by omega)) (by rw [cT]) (fun j _ => by rw [qo 60 (by omega) (by omega)]) (by rw [qo 61 (by omega) (by omega)]) (by rw [qo 70 (by omega) (by omega)]) (by rw [qo 43 (by omega) (by omega)]) (fun j _ => by rw [qo 42 (by omega) (by omega)]), hP.ou.fr F.G.le (by rw [cI _ (by omega) (by omega)]) (cI _ (by omega) (by omega)) (by rw [cT]) (by rw [qo 64 (by omega) (by omega)]) (fun c j hc _ => by rw [qo c (by omega) (by omega)]), hP.ww.fr (by rw [cI _ (by omega) (by omega)]) (cI _ (by omega) (by omega)) (by rw [qo 66 (by omega) (by omega)]) (fun j _ => by rw [qo 65 (by omega) (by omega)]), hP.wt.fr F.G.le (by rw [cI _ (by omega) (by omega)]) (by rw [cT]) (by rw [qo 68 (by omega) (by omega)]) (fun j _ => by rw [qo 67 (by omega) (by omega)]), hP.se.fr (by rw [cI _ (by omega) (by omega)]) (by rw [qo 69 (by omega) (by omega)]), hP.ms.fr F.G (fun j _ _ => by rw [cT]) (by rw [qo 38 (by omega) (by omega)]) (by rw [qo 39 (by omega) (by omega)])⟩
      rw [c85, q52]
      by_cases e2 : q / 4 ≤ i ∧ i < q / 4 + W.ln c
      · rw [if_pos e2, if_pos (by omega)]
        have := M.sn c (i - q / 4) (by omega) (by omega)
        rw [this]
        exact congrArg (ρ.1 71) (by omega)
      · rw [if_neg e2, if_neg (by omega)]
        exact hP.co.me i hi
    · have dj := h.R.cf.dj p r h.hp hr (fun e => e1 e.symm)
      have np8 := h.R.cf.np.1
      refine (M.pr r hr).fr F.G (fun i hi => cI _ (by omega) (by omega)) (fun i hi => by rw [cT]) (fun d j hseg => ?_)
      have ho := hseg.out
      have n72 : d ≠ 72 := by
        rcases ho with ho | ho | ho | ho | ho | ho | ho | ho
        all_goals clear dj e1 rb
        all_goals omega
      by_cases e2 : d = 52
      · have h52 : 8192 * s + W.bs r ≤ j ∧ j < 8192 * s + W.bs r + W.sz r := by
          rcases ho with ho | ho | ho | ho | ho | ho | ho | ho
          · exact absurd e2 (by omega)
          · exact absurd e2 (by omega)
          · exact ho.2
          · exact absurd e2 (by omega)
          · exact absurd e2 (by omega)
          · exact absurd e2 (by omega)
          · exact absurd e2 (by omega)
          · exact absurd e2 (by omega)
        subst e2
        rw [q52, if_neg]
        clear ho n72
        rcases dj with dj | dj
        · omega
        · omega
      · rw [qo d e2 n72]
  · intro d i hd hi
    rw [cI _ (by omega) (by omega), qo 71 (by omega) (by omega)]; exact M.sn d i hd hi
  · intro d hd
    rw [c77, q72]
    by_cases e1 : d = c
    · rw [if_pos e1, if_pos (by omega)]; exact ⟨rfl, Or.inl rfl⟩
    · rw [if_neg e1, if_neg (by omega)]; exact M.ur d hd
  · intro d hd
    rw [cT, qo 73 (by omega) (by omega)]; exact M.st d hd
  · intro d hd
    rw [cI _ (by omega) (by omega), cT, qo 74 (by omega) (by omega), qo 75 (by omega) (by omega)]; exact M.dk d hd
  · intro e; rw [cI _ (by omega) (by omega)]; exact M.on e
end Z2_LE
