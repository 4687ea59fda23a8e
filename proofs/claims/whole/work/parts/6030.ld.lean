section Z2_LD
variable {K : Bd} {W W' : Wd} {b : Bool} {k s p : Nat} {σ σ' : cl_S} {ρ ρ' : rf_S}
/-- the words of a REGION -/
theorem in_eq (h : Ak K W b k s p σ ρ) {n : Nat} (hn : 1 ≤ n ∧ n ≤ 16) (x : Int32) : (∃ q, q < 2147483648 ∧ x = nI q ∧ q / 4 + n ≤ W.sz p ∧ fc_X2_holds (84 + 135 * s + 12 * p) x (nI n) σ = some (1, σ) ∧ fq_isIn x (nI n) ρ = some (1, ρ)) ∨ (fc_X2_holds (84 + 135 * s + 12 * p) x (nI n) σ = some (0, σ) ∧ fq_isIn x (nI n) ρ = some (0, ρ)) := by
  have C := h.ctx
  obtain ⟨b1, b2, b3, b4, b5⟩ := C.bd
  have k1 : (4:Int32) * (nI (W.sz p) - nI n) = nI (4 * (W.sz p - n)) := by rw [n_sub (by omega)]; exact n_mul 4 _
  have k2 : (4:Int32) * nI (W.sz p) - (4:Int32) * nI n = nI (4 * (W.sz p - n)) := by
    rw [show (4:Int32) = nI 4 from rfl, n_mul, n_mul, n_sub (by omega)]; congr 1; omega
  unfold fc_X2_holds bc_X2_holds_0 fq_isIn bq_isIn_0
  rw [C.co.sz, h.me, n_ix b2 (by omega), n_cl (by omega), C.rz, k1, k2]
  by_cases c0 : x < 0
  · right
    rw [if_pos c0, if_pos c0]
    refine ⟨?_, rfl⟩
    split <;> rfl
  rcases n_cases x with hn' | ⟨q, hq, rfl⟩
  · exact absurd hn' c0
  rw [if_neg c0, if_neg c0, n_and3 hq, n_rem4 hq]
  by_cases c1 : nI (q % 4) = 0
  · have q4 : q % 4 = 0 := by rw [i32_0, n_eq (by omega) (by omega)] at c1; exact c1
    rw [if_pos c1, if_pos c1]
    by_cases c2 : nI (4 * (W.sz p - n)) < nI q
    · right; rw [if_pos c2, if_pos c2]; exact ⟨rfl, rfl⟩
    · left
      have c2' := c2
      rw [n_lt (by omega) hq] at c2'
      exact ⟨q, hq, rfl, by omega, by rw [if_neg c2], by rw [if_neg c2]⟩
  · right; rw [if_neg c1, if_neg c1]; exact ⟨rfl, rfl⟩
theorem q_send_lp {ρ : rf_S} {c n g q to : Nat} (hc : c < 16) (hl : ρ.1 34 c = nI n) (hn : n ≤ 16) (hg : ρ.1 0 120 = nI g) (hq : q < 2147483648) (hgq : g + q / 4 + n ≤ 16384) (hto : to < 32) : ∃ w ρ', lp (fun z : (Int32 × rf_S) => lq_send_41 (nI c) (nI q) (nI to) z.1 z.2) (nI 0, ρ) = some (w, ρ') ∧ (∀ d, d ≠ 71 → ρ'.1 d = ρ.1 d) ∧ ρ'.2 = ρ.2 ∧ ∀ j, ρ'.1 71 j = if 16 * to ≤ j ∧ j < 16 * to + n then ρ.1 52 (g + q / 4 + (j - 16 * to)) else ρ.1 71 j := by
  have loop := lp_ok (b := fun z : (Int32 × rf_S) => lq_send_41 (nI c) (nI q) (nI to) z.1 z.2)
    (fun m z => ∃ i τ, i + m = n ∧ z = (nI i, τ) ∧ (∀ d, d ≠ 71 → τ.1 d = ρ.1 d) ∧ τ.2 = ρ.2 ∧ ∀ j, τ.1 71 j = if 16 * to ≤ j ∧ j < 16 * to + i then ρ.1 52 (g + q / 4 + (j - 16 * to)) else ρ.1 71 j)
    (fun y => ∃ w τ, y = (w, τ) ∧ (∀ d, d ≠ 71 → τ.1 d = ρ.1 d) ∧ τ.2 = ρ.2 ∧ ∀ j, τ.1 71 j = if 16 * to ≤ j ∧ j < 16 * to + n then ρ.1 52 (g + q / 4 + (j - 16 * to)) else ρ.1 71 j) ?_ n (nI 0, ρ) ⟨0, ρ, by omega, rfl, fun _ _ => rfl, rfl, fun j => by rw [if_neg (by omega)]⟩
  · obtain ⟨y, ey, w, τ, rfl, r⟩ := loop
    exact ⟨w, τ, ey, r⟩
  · rintro m z ⟨i, τ, him, rfl, h1, h2, h3⟩
    show (∃ t m', lq_send_41 (nI c) (nI q) (nI to) (nI i) τ = some (.inl t) ∧ m' < m ∧ _) ∨ (∃ y, lq_send_41 (nI c) (nI q) (nI to) (nI i) τ = some (.inr y) ∧ _)
    unfold lq_send_41
    rw [n_ix hc (by omega), n_cl (by omega), h1 34 (by omega), hl]
    by_cases e : n ≤ i
    · right
      have : i = n := by omega
      subst this
      rw [if_pos ((n_le (by omega) (by omega)).mpr (by omega))]
      exact ⟨_, rfl, _, τ, rfl, h1, h2, h3⟩
    · left
      have k1 : nI g + nI q / (4:Int32) + nI i = nI (g + q / 4 + i) := by rw [show (4:Int32) = nI 4 from rfl, n_div hq (by omega), n_add, n_add]
      have k2 : (16:Int32) * nI to + nI i = nI (16 * to + i) := by rw [show (16:Int32) = nI 16 from rfl, n_mul, n_add]
      rw [if_neg (fun w => e ((n_le (by omega) (by omega)).mp w)), h1 0 (by omega), hg, k1, k2, n_ix (show g + q / 4 + i < 16384 by omega) (by omega), n_ix (show 16 * to + i < 512 by omega) (by omega), n_cl (by omega), n_cl (by omega), h1 52 (by omega), vl_eq, vl_eq, show nI i + (1:Int32) = nI (i + 1) from n_add i 1]
      refine ⟨_, m - 1, rfl, by omega, i + 1, _, by omega, rfl, fun d hd => by rw [q_w hd]; exact h1 d hd, h2, fun j => ?_⟩
      rw [g_q]
      by_cases e2 : j = 16 * to + i
      · subst e2
        rw [if_pos ⟨rfl, rfl⟩, if_pos (by omega)]
        exact congrArg (ρ.1 52) (by omega)
      · rw [if_neg (fun w => e2 w.2), h3 j]
        by_cases e3 : 16 * to ≤ j ∧ j < 16 * to + i
        · rw [if_pos e3, if_pos (by omega)]
        · rw [if_neg e3, if_neg (by omega)]
theorem ask_send (h : Ak K W b k s p σ ρ) (x : Int32) : Sim (fc_X5_send (47 + 132 * s) (some (83 + 135 * s + 12 * p)) x σ) (fq_send x (σ.1 (86 + 135 * s + 12 * p) 2) ρ) (AkO K W b k s p ρ) := by
  have s2 := h.s2
  have s01 : s = 0 ∨ s = 1 := by omega
  have p8 := h.p8
  have C := h.ctx
  obtain ⟨b1, b2, b3, b4, b5⟩ := C.bd
  have z1 : ¬ (1:Int32) = 0 := by decide
  have n1 := h.R.cf.nc.1
  have cp := h.M.cp
  have c2 : (2:Int32).toNatClampNeg = 2 := by decide
  have i2 : ∀ {α : Type} (x : Option α), ix (2:Int32) 16 x = x := fun x => n_ix (a := 2) (by omega) (by omega)
  have a3 : 83 + 135 * s + 12 * p + 1 + 2 = 86 + 135 * s + 12 * p := by omega
  have a1 : 83 + 135 * s + 12 * p + 1 = 84 + 135 * s + 12 * p := by omega
  unfold fc_X5_send bc_X5_send_0 fq_send bq_send_0
  rcases h.chF x with ⟨c, hc, rfl, e1, e2⟩ | ⟨e1, e2⟩
  rotate_left
  · rw [e1, e2, bd2_eq, bd2_eq, if_pos rfl, if_pos rfl]
    exact Sim.mk (AkO.same h _)
  obtain ⟨⟨d1, d2, d3, d4⟩, -, -, -, -, d9, d10⟩ := h.R.cf.ch c hc
  obtain ⟨sp1, sp2⟩ := h.R.st.sp s c s2 (by omega)
  have k5 : (16:Int32) * nI s + nI c = nI (16 * s + c) := by rw [show (16:Int32) = nI 16 from rfl, n_mul, n_add]
  rw [e1, e2, bd2_eq, bd2_eq, if_neg z1, if_neg z1, nn_eq, i2, c2, a3, vl_eq, cp, vl_eq, nn_eq, n_ix (show c < 16 by omega) (by omega), n_cl (by omega), d9, d10, a1, n_ix (show c < 16 by omega) (by omega)]
  rcases in_eq h (n := W.ln c) ⟨d3, d4⟩ (σ.1 (86 + 135 * s + 12 * p) 2) with ⟨q, hq, eq, hqn, f1, f2⟩ | ⟨f1, f2⟩
  rotate_left
  · rw [f1, f2, bd2_eq, bd2_eq, if_pos rfl, if_pos rfl]
    exact Sim.mk (AkO.same h _)
  have c0 : (0:Int32).toNatClampNeg = 0 := by decide
  rw [f1, f2, bd2_eq, bd2_eq, if_neg z1, if_neg z1, n_ix (show c < 16 by omega) (by omega), md_eq s2, show 47 + 132 * s + 13 + 3 * s = 60 + 135 * s by omega, sp1, vl_eq, cp, vl_eq, nn_eq, n_ix (show c < 16 by omega) (by omega), nn_eq, sp2, d9, eq, n_shr2 hq, h.sd, k5, vl_eq]
  have cg : cpg (α := Int32 × cl_S) (nI (q / 4)) (0:Int32) (nI (W.ln c)) 2048 (1, 16).2 = fun x => x := by
    funext x
    unfold cpg
    rw [if_neg]
    rintro (w | w | w | w | w)
    · exact n_nneg (by omega) w
    · exact absurd w (by decide)
    · exact n_nneg (by omega) w
    · rw [n_cl (by omega), n_cl (by omega)] at w; omega
    · rw [n_cl (by omega), c0] at w
      have : (16:Nat) < 0 + W.ln c := w
      omega
  rw [cg, n_ix (show c < 16 by omega) (by omega), vl_eq, vl_eq, show 47 + 132 * s + 30 + 3 * s = 77 + 135 * s by omega]
  unfold bq_send_41 eq_send_41
  obtain ⟨w, ρ1, g1, g2, g3, g4⟩ := q_send_lp (c := c) (n := W.ln c) (g := 8192 * s + W.bs p) (q := q) (to := 16 * s + c) (by omega) d10 d4 h.gd hq (by omega) (by omega)
  have g1' : lp (fun z : (Int32 × rf_S) => lq_send_41 (nI c) (nI q) (nI (16 * s + c)) z.1 z.2) (0, ρ) = some (w, ρ1) := g1
  rw [g1']
  show Sim _ (ix (nI (16 * s + c)) 32 (vl (rf_w ρ1 72 (nI (16 * s + c)).toNatClampNeg (vp_nar .boolean (1:Int32))) (fun ρ_8 => some ((0:Int32), ρ_8)))) _
  rw [n_ix (show 16 * s + c < 32 by omega) (by omega), n_cl (by omega), nar_1, vl_eq]
  have M := h.M
  have cI : ∀ a, a ≠ 61 + 135 * s + c → a ≠ 77 + 135 * s → (cl_w (cl_cp σ (84 + 135 * s + 12 * p + 1) (61 + 135 * s + c) (nI (q / 4)) 0 (nI (W.ln c))) (77 + 135 * s) c 1).1 a = σ.1 a := fun a ha hb => by rw [r_w hb, r_c ha]
  have c61 : ∀ j, (cl_w (cl_cp σ (84 + 135 * s + 12 * p + 1) (61 + 135 * s + c) (nI (q / 4)) 0 (nI (W.ln c))) (77 + 135 * s) c 1).1 (61 + 135 * s + c) j = if j < W.ln c then σ.1 (85 + 135 * s + 12 * p) (q / 4 + j) else σ.1 (61 + 135 * s + c) j := by
    intro j
    rw [r_w (by omega), r_cs, n_cl (by omega), n_cl (by omega), c0]
    unfold va_cpy
    rw [show 84 + 135 * s + 12 * p + 1 = 85 + 135 * s + 12 * p by omega]
    by_cases e : j < W.ln c
    · rw [if_pos e, if_pos (by omega)]; congr 1
    · rw [if_neg e, if_neg (by omega)]
  have c77 : ∀ j, (cl_w (cl_cp σ (84 + 135 * s + 12 * p + 1) (61 + 135 * s + c) (nI (q / 4)) 0 (nI (W.ln c))) (77 + 135 * s) c 1).1 (77 + 135 * s) j = if j = c then 1 else σ.1 (77 + 135 * s) j := by
    intro j
    rw [g_w, r_c (by omega)]
    simp only [true_and]
  have cT : (cl_w (cl_cp σ (84 + 135 * s + 12 * p + 1) (61 + 135 * s + c) (nI (q / 4)) 0 (nI (W.ln c))) (77 + 135 * s) c 1).2 = σ.2 := rfl
  have qo : ∀ d, d ≠ 71 → d ≠ 72 → (rf_w ρ1 72 (16 * s + c) 1).1 d = ρ.1 d := fun d h1 h2 => by rw [q_w h2, g2 d h1]
  have q72 : ∀ j, (rf_w ρ1 72 (16 * s + c) 1).1 72 j = if j = 16 * s + c then 1 else ρ.1 72 j := fun j => by rw [g_q, g2 72 (by omega)]; simp only [true_and]
  have q71 : ∀ j, (rf_w ρ1 72 (16 * s + c) 1).1 71 j = if 16 * (16 * s + c) ≤ j ∧ j < 16 * (16 * s + c) + W.ln c then ρ.1 52 (8192 * s + W.bs p + q / 4 + (j - 16 * (16 * s + c))) else ρ.1 71 j := fun j => by rw [q_w (by decide)]; exact g4 j
  have q2 : (rf_w ρ1 72 (16 * s + c) 1).2 = ρ.2 := g3
  generalize (cl_w (cl_cp σ (84 + 135 * s + 12 * p + 1) (61 + 135 * s + c) (nI (q / 4)) 0 (nI (W.ln c))) (77 + 135 * s) c 1) = τ at cI c61 c77 cT ⊢
  generalize (rf_w ρ1 72 (16 * s + c) 1) = τq at qo q72 q71 q2 ⊢
  have L : Lm b s σ τ ρ τq := by
    refine ⟨fun a w => cI a (fun e => w (by unfold mrw; omega)) (fun e => w (by unfold mrw; omega)), by rw [cT], fun a w => by rw [cT], by rw [cT], fun j hj => by rw [cI _ (by omega) (by omega)], by rw [cT], fun d j hd w => ?_, q2, fun j => by rw [qo 0 (by omega) (by omega)], fun p' hp' => ⟨by rw [cI _ (by omega) (by omega)], fun j hj => by rw [cI _ (by omega) (by omega)]⟩⟩
    by_cases e1 : d = 71
    · subst e1
      rw [q71, if_neg]
      intro e
      exact w (by unfold mpl; omega)
    · by_cases e2 : d = 72
      · subst e2
        rw [q72, if_neg]
        rintro rfl
        exact w (by unfold mpl; omega)
      · rw [qo d e1 e2]
  have F := L.fr s2 h.R.T
  refine Sim.mk ⟨rfl, W, Wd.le.refl W, h.mloc L ?_ (qo 61 (by omega) (by omega)) (qo 69 (by omega) (by omega)) (by rw [qo 48 (by omega) (by omega)]; exact Nat.le_refl _), ⟨by rw [qo 0 (by omega) (by omega)], by rw [qo 54 (by omega) (by omega)], by rw [qo 48 (by omega) (by omega)]⟩⟩
  refine ⟨M.prs F.G s2 h.R.cf.np.1 (fun a _ _ => cI a (by omega) (by omega)) (fun a h1 h2 => by rw [cT]) (fun d h1 h2 h3 h4 h5 => qo d (by omega) (by omega)), by rw [cT]; exact M.cp, by rw [cI _ (by omega) (by omega)]; exact M.re, by rw [cI _ (by omega) (by omega), qo 48 (by omega) (by omega)]; exact M.tk, by rw [cI _ (by omega) (by omega), qo 49 (by omega) (by omega), qo 50 (by omega) (by omega)]; exact M.sl, by rw [cI _ (by omega) (by omega), qo 51 (by omega) (by omega)]; exact M.yl, by rw [cI _ (by omega) (by omega), qo 0 (by omega) (by omega)]; exact M.ct, ?_, ?_, ?_, ?_, ?_⟩
  · intro d i hd hi
    rw [q71]
    by_cases e1 : d = c
    · subst e1
      rw [c61]
      by_cases e3 : i < W.ln d
      · rw [if_pos e3, if_pos (by omega)]
        have := C.co.me (q / 4 + i) (by omega)
        rw [this]
        exact congrArg (ρ.1 52) (by omega)
      · rw [if_neg e3, if_neg (by omega)]
        exact M.sn d i hd hi
    · rw [cI _ (by omega) (by omega), if_neg (by omega)]
      exact M.sn d i hd hi
  · intro d hd
    rw [c77, q72]
    by_cases e1 : d = c
    · rw [if_pos e1, if_pos (by omega)]; exact ⟨rfl, Or.inr rfl⟩
    · rw [if_neg e1, if_neg (by omega)]; exact M.ur d hd
  · intro d hd
    rw [cT, qo 73 (by omega) (by omega)]; exact M.st d hd
  · intro d hd
    rw [cI _ (by omega) (by omega), cT, qo 74 (by omega) (by omega), qo 75 (by omega) (by omega)]; exact M.dk d hd
  · intro e; rw [cI _ (by omega) (by omega)]; exact M.on e
end Z2_LD
