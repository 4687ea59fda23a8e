section Z2_LJ
variable {K : Bd} {W W' : Wd} {b : Bool} {k s p : Nat} {σ σ' : cl_S} {ρ ρ' : rf_S}
theorem bd1n {α β : Type} (a : α) (f : α → Option β) : bd1 (some a) f = f a := Eq.trans (bd1_eq a f) (Eq.refl _)
theorem nnn {α : Type} (a : Nat) (f : Nat → Option α) : nn (some a) f = f a := Eq.trans (nn_eq a f) (Eq.refl _)
theorem of_cg {y v : Int32} {τ : rf_S} (e : fq_of y ρ = some (v, ρ)) (g1 : τ.1 60 = ρ.1 60) (g2 : τ.1 0 119 = ρ.1 0 119) : fq_of y τ = some (v, τ) := by
  unfold fq_of bq_of_0 ix at e ⊢
  rw [g1, g2]
  split at e
  · cases e
  · rename_i c
    rw [if_neg c]
    have := Option.some.inj e
    rw [Prod.mk.injEq] at this
    rw [this.1]
/-- what is sealed is written and told -/
theorem seal_do (v : KV K) (h : Ak K W b k s p σ ρ) {t bi : Nat} (ht : t < W.N) (hbi : bi < 64) (x vv : Int32) (y : Int32) (ey : fq_of y ρ = some (nI t, ρ)) {n : Nat} (hn : n < 40) (en : ρ.1 69 (8 * s + p) = nI n) :
    Sim (bd2 (fc_X10_numberTerm 31 x σ) (fun r_68 σ_67 => bd2 (fc_X10_numberTerm 31 vv σ_67) (fun r_75 σ_74 => vl (σ_74.2.2.1 31 4) (fun r_82 => bd2 (fc_X10_made 31 (3:Int32) r_68 r_75 r_82 σ_74) (fun r_86 σ_85 => vl (σ_85.2.2.1 (83 + 135 * s + 12 * p) 17) (fun r_94 => bd2 (fc_X10_made 31 (8:Int32) r_94 r_86 (some (W.tm t)) σ_85) (fun r_98 σ_97 => vl (σ_97.2.2.1 (47 + 132 * s) 1) (fun r_105 => nn r_105 (fun a_108 => bd1 (fc_X3_fill a_108 (nI bi) vv r_98 σ_97) (fun σ_111 => vl (cl_w σ_111 (83 + 135 * s + 12 * p) 14 ((σ_111.1 (83 + 135 * s + 12 * p) 14) + (1:Int32))) (fun σ_116 => (if (σ_116.1 (47 + 132 * s) 2) = 0 then some (vv, σ_116) else bd1 (fc_X10_tell 31 r_98 σ_116) (fun σ_121 => some (vv, σ_121))))))))))))))
      (bq_seal_132 x y vv (nI (64 * s + bi)) ρ) (AkO K W b k s p ρ) := by
  have s2 := h.s2
  have p8 := h.p8
  have s01 : s = 0 ∨ s = 1 := by omega
  obtain ⟨W1, σ1, σ2, σ3, σ4, ρ1, ρ2, ρ3, ρ4, ρ5, u1, u2, u3, n1, n2, n3, n4, t8, a1, a2, a3, a4, a5, b1, b2, b3, b4, b5, -, Q4, b6, ht8, le, h5, kp, fr, Q5⟩ := seal_terms v h ht x vv
  unfold bq_seal_132
  have ey4 : fq_of y ρ4 = some (nI t, ρ4) := of_cg ey (Q4.o 60 (by omega)) (Q4.f 119 (by decide) (by decide) (by decide) (by decide) (by decide) (by decide))
  have ea4 : ρ3.1 0 118 = nI p := b4
  rw [a1, bd2n, a2, bd2n, vln, a4, a3, bd2n, vln, a5, bd2n, vln, h5.R.st.dp s s2, nnn, b1, bd2n, b2, bd2n, b3, bd2n, ea4, n_ix p8 (by omega), n_cl (show p < 2147483648 by omega), b5, bd2n, ey4, bd2n, b6, bd2n, n_ix (show 64 * s + bi < 128 by omega) (by omega), n_cl (show 64 * s + bi < 2147483648 by omega), vln (rf_w ρ5 _ _ _), n_ix (show 64 * s + bi < 128 by omega) (by omega), vln (rf_w (rf_w ρ5 _ _ _) _ _ _)]
  have g1 : fc_X3_fill (41 + 139 * s) (nI bi) vv (some (W1.tm t8)) σ4 = some (cl_wr (cl_w σ4 (42 + 139 * s) bi vv) (43 + 139 * s) bi (some (W1.tm t8))) := by
    unfold fc_X3_fill bc_X3_fill_0
    rw [if_neg (n_nneg (show bi < 2147483648 by omega)), if_neg (by rw [show (64:Int32) = nI 64 from rfl, n_le (by omega) (by omega)]; omega), n_ix hbi (by omega), n_cl (show bi < 2147483648 by omega), vln, n_ix hbi (by omega), vln, show 41 + 139 * s + 1 = 42 + 139 * s by omega, show 41 + 139 * s + 2 = 43 + 139 * s by omega]
  have en5 : ρ5.1 69 (8 * s + p) = nI n := by rw [Q5.o 69 (by omega)]; exact en
  have es5 : σ4.1 (83 + 135 * s + 12 * p) 14 = nI n := by
    obtain ⟨m, hm, e1, e2⟩ := h5.P.se
    rw [e1, ← en5, e2]
  obtain ⟨h6, kp6⟩ := seal_fill h5 (bi := bi) hbi ht8 vv hn en5
  have x1 : (cl_wr (cl_w σ4 (42 + 139 * s) bi vv) (43 + 139 * s) bi (some (W1.tm t8))).1 (83 + 135 * s + 12 * p) 14 = nI n := by rw [r_rI, r_w (by omega)]; exact es5
  have x2 : (rf_w (rf_w ρ5 74 (64 * s + bi) vv) 75 (64 * s + bi) (nI t8)).1 0 119 = nI (8 * s + p) := h5.at'
  have x3 : (rf_w (rf_w ρ5 74 (64 * s + bi) vv) 75 (64 * s + bi) (nI t8)).1 69 (8 * s + p) = nI n := by rw [q_w (by omega), q_w (by omega)]; exact en5
  rw [g1, bd1n, vln, x1, x2, n_ix (show 8 * s + p < 16 by omega) (by omega), n_ix (show 8 * s + p < 16 by omega) (by omega), n_cl (show 8 * s + p < 2147483648 by omega), vln, x3, show nI n + (1:Int32) = nI (n + 1) from n_add n 1]
  have kpp := kp.trans kp6
  generalize (cl_w (cl_wr (cl_w σ4 (42 + 139 * s) bi vv) (43 + 139 * s) bi (some (W1.tm t8))) (83 + 135 * s + 12 * p) 14 (nI (n + 1))) = τ at h6 ⊢
  generalize (rf_w (rf_w (rf_w ρ5 74 (64 * s + bi) vv) 75 (64 * s + bi) (nI t8)) 69 (8 * s + p) (nI (n + 1))) = τq at h6 kpp ⊢
  have hre := h6.M.re
  rcases h.hs with ⟨rfl, hb⟩ | ⟨rfl, -⟩
  · have sd0 : τq.1 0 79 = 0 := h6.sd
    have r1 : τ.1 (47 + 132 * 0) 2 = 1 := hre
    obtain ⟨σ2, ρ2, g1, g2, h2, kp2⟩ := h6.tell hb ht8
    rw [if_pos sd0, r1, if_neg (by decide), g1, bd1n, g2, bd1n]
    exact Sim.mk ⟨rfl, W1, le, h2, kpp.trans kp2⟩
  · have r1 : τ.1 (47 + 132 * 1) 2 = 0 := hre
    have sd1 : ¬ τq.1 0 79 = 0 := by rw [h6.sd]; decide
    rw [if_neg sd1, r1, if_pos rfl]
    exact Sim.mk ⟨rfl, W1, le, h6, kpp⟩
theorem AkO.kp {u : Int32 × cl_S} {w : Int32 × rf_S} (h : AkO K W b k s p ρ' u w) (q : Kp s p ρ ρ') : AkO K W b k s p ρ u w := ⟨h.1, h.2.choose, h.2.choose_spec.1, h.2.choose_spec.2.1, q.trans h.2.choose_spec.2.2⟩
/-- the writing -/
theorem seal_wr (v : KV K) (h : Ak K W b k s p σ ρ) {t q : Nat} (ht : t < W.N) (hq : q < W.ar p) (vv : Int32) (y : Int32) (ey : fq_of y ρ = some (nI t, ρ)) {n : Nat} (hn : n < 40) (en : ρ.1 69 (8 * s + p) = nI n) : Sim (bc_X5_seal_83 (47 + 132 * s) (some (83 + 135 * s + 12 * p)) (nI q) (some (W.tm t)) vv σ) (bq_seal_50 (nI q) y vv ρ) (AkS K W b k s p ρ) := by
  have s2 := h.s2
  have p8 := h.p8
  have s01 : s = 0 ∨ s = 1 := by omega
  obtain ⟨⟨b1, b2, b3, b4, b5⟩, -⟩ := h.R.cf.pa p h.hp
  obtain ⟨-, fc, fb⟩ := h.cnt hq
  obtain ⟨c, hc, ec⟩ := and_lt vv 1 (by omega)
  unfold bc_X5_seal_83 bq_seal_50
  rw [nnn, h.P.co.ix, fc, bd2n, vln, show vv &&& (1:Int32) = nI c from ec, n_add, fb c hc, bd2n, vln]
  have e13 : ∃ m, m ≤ 1000 ∧ σ.1 (47 + 132 * s) 13 = nI m ∧ (s = 0 → ρ.1 0 54 = nI m) ∧ (s = 1 → m = 0) := h.M.ct
  obtain ⟨m, hm, m1, m2, m3⟩ := e13
  have bl : 2 * (W.ad p + q) + c < 64 := by omega
  rw [show 64 * s + 2 * (W.ad p + q) + c = 64 * s + (2 * (W.ad p + q) + c) by omega]
  generalize 2 * (W.ad p + q) + c = bi at bl ⊢
  have of_y : ∀ τq : rf_S, τq.1 60 = ρ.1 60 → τq.1 0 119 = ρ.1 0 119 → fq_of y τq = some (nI t, τq) := by
    intro τq g1 g2
    exact of_cg ey g1 g2
  have z1 : ¬ (1:Int32) = 0 := by decide
  unfold fc_X5_powerGoes bc_X5_powerGoes_0
  rw [r_wk (show (13:Nat) ≠ 14 by decide), m1]
  rcases s01 with rfl | rfl
  · have sd0 : ρ.1 0 79 = 0 := h.sd
    have m2 := m2 rfl
    rw [if_pos sd0, vln (rf_w ρ 0 53 _), q_wk (show (54:Nat) ≠ 53 by decide), m2]
    by_cases c0 : m = 0
    · subst c0
      rw [if_pos (show nI 0 = 0 from rfl), bd2n, if_pos rfl, if_pos (by decide)]
      have L : Ldk 0 σ (cl_w σ (47 + 132 * 0) 14 (σ.1 (47 + 132 * 0) 14 + 1)) ρ (rf_w ρ 0 53 (ρ.1 0 53 + 1)) := ⟨fun a h1 h2 => r_w h1, fun j h1 h2 h3 => r_wk h3, fun a h1 => rfl, rfl, rfl, fun c h1 _ _ => q_w h1, fun c j hc _ => by rw [q_w (by omega)], rfl, fun j h1 h2 h3 h4 => q_wk h2, fun e => by omega⟩
      obtain ⟨h1, kp1⟩ := h.cut L (n := 0) (by omega) (r_wk (by decide)) (r_w (by decide)) rfl (by rw [r_wk (by decide)]; exact m1) (fun _ => by rw [q_wk (by decide)]; exact m2) (fun e => by omega) (fun _ => by rw [show (47:Nat) = 47 + 132 * 0 from rfl, r_ws, q_ws]; exact congrArg (· + 1) h.R.oB.wr) (fun c hc => q_w (by omega)) (q_wk (by decide)) (q_wk (by decide))
      exact (seal_do v h1 ht bl (nI q) vv y (of_y _ (q_w (by decide)) (q_wk (by decide))) hn (by rw [q_w (by decide)]; exact en)).imp (fun u w o => Or.inl (o.kp kp1))
    · have c0' : ¬ nI m = 0 := fun e => c0 ((n_eq (a := m) (b := 0) (by omega) (by omega)).mp e)
      have c0'' : ¬ nI m ≤ 0 := by rw [i32_0, n_le (by omega) (by omega)]; omega
      have sb : nI m - (1:Int32) = nI (m - 1) := n_sub (a := m) (b := 1) (by omega)
      rw [if_neg c0', vln (cl_w (cl_w σ _ 14 _) _ 13 _), sb, r_ws, if_neg c0'', vln (rf_w (rf_w ρ 0 53 _) 0 54 _), q_ws]
      by_cases c1 : m = 1
      · subst c1
        rw [if_pos (show nI (1 - 1) = 0 from rfl), bd2n, if_neg z1, vln, if_pos (show nI (1 - 1) = 0 from rfl), n_ix (show 64 * 0 + bi < 128 by omega) (by omega), n_cl (show 64 * 0 + bi < 2147483648 by omega), vln (rf_w _ 74 _ _), n_ix (show 64 * 0 + bi < 128 by omega) (by omega), vln (rf_w _ 75 _ _), vln (rf_w _ 0 51 _), vln (rf_w _ 0 108 _)]
        have dp : (cl_w (cl_w σ (47 + 132 * 0) 14 (σ.1 (47 + 132 * 0) 14 + 1)) (47 + 132 * 0) 13 (nI (1 - 1))).2.2.1 (47 + 132 * 0) 1 = some 41 := h.R.st.dp 0 (by omega)
        rw [dp, nnn]
        unfold fc_X3_empty bc_X3_empty_0 fc_X3_fill bc_X3_fill_0
        rw [if_neg (n_nneg (show bi < 2147483648 by omega)), if_neg (by rw [show (64:Int32) = nI 64 from rfl, n_le (by omega) (by omega)]; omega), n_ix bl (by omega), n_cl (show bi < 2147483648 by omega), vln (cl_w _ (41 + 1) _ _), n_ix bl (by omega), vln (cl_wr _ _ _ _), bd1n, bd1n, vln]
        have hb : b = false := by rcases h.hs with q | q; exact q.2; omega
        have g := h.gone bl
        rw [show 64 * 0 + bi = bi by omega]
        exact Sim.mk (Or.inr ⟨rfl, hb, g, r_ws, q_ws, sd0⟩)
      · have c1' : ¬ nI (m - 1) = 0 := fun e => by have := (n_eq (a := m - 1) (b := 0) (by omega) (by omega)).mp e; omega
        rw [if_neg c1', bd2n, if_pos rfl, if_neg c1']
        have L : Ldk 0 σ (cl_w (cl_w σ (47 + 132 * 0) 14 (σ.1 (47 + 132 * 0) 14 + 1)) (47 + 132 * 0) 13 (nI (m - 1))) ρ (rf_w (rf_w ρ 0 53 (ρ.1 0 53 + 1)) 0 54 (nI (m - 1))) := ⟨fun a h1 h2 => by rw [r_w h1, r_w h1], fun j h1 h2 h3 => by rw [r_wk h2, r_wk h3], fun a h1 => rfl, rfl, rfl, fun c h1 _ _ => by rw [q_w h1, q_w h1], fun c j hc _ => by rw [q_w (by omega), q_w (by omega)], rfl, fun j h1 h2 h3 h4 => by rw [q_wk h3, q_wk h2], fun e => by omega⟩
        obtain ⟨h1, kp1⟩ := h.cut L (n := m - 1) (by omega) (by rw [r_wk (by decide), r_wk (by decide)]) (by rw [r_w (by decide), r_w (by decide)]) rfl r_ws (fun _ => q_ws) (fun e => by omega) (fun _ => by rw [show (47:Nat) = 47 + 132 * 0 from rfl, r_wk (by decide), r_ws, q_wk (by decide), q_ws]; exact congrArg (· + 1) h.R.oB.wr) (fun c hc => by rw [q_w (by omega), q_w (by omega)]) (by rw [q_wk (by decide), q_wk (by decide)]) (by rw [q_wk (by decide), q_wk (by decide)])
        exact (seal_do v h1 ht bl (nI q) vv y (of_y _ (by rw [q_w (by decide), q_w (by decide)]) (by rw [q_wk (by decide), q_wk (by decide)])) hn (by rw [q_w (by decide), q_w (by decide)]; exact en)).imp (fun u w o => Or.inl (o.kp kp1))
  · have m0 := m3 rfl
    subst m0
    have sd1 : ¬ ρ.1 0 79 = 0 := by rw [h.sd]; decide
    rw [if_neg sd1, if_pos (show nI 0 = 0 from rfl), bd2n, if_pos rfl]
    have L : Ldk 1 σ (cl_w σ (47 + 132 * 1) 14 (σ.1 (47 + 132 * 1) 14 + 1)) ρ ρ := ⟨fun a h1 h2 => r_w h1, fun j h1 h2 h3 => r_wk h3, fun a h1 => rfl, rfl, rfl, fun c _ _ _ => rfl, fun c j hc _ => rfl, rfl, fun j _ _ _ _ => rfl, fun _ _ => rfl⟩
    obtain ⟨h1, kp1⟩ := h.cut L (n := 0) (by omega) (r_wk (by decide)) (r_w (by decide)) rfl (by rw [r_wk (by decide)]; exact m1) (fun e => by omega) (fun _ => rfl) (fun e => by omega) (fun c hc => rfl) rfl rfl
    exact (seal_do v h1 ht bl (nI q) vv y ey hn en).imp (fun u w o => Or.inl (o.kp kp1))
theorem ask_seal (v : KV K) (h : Ak K W b k s p σ ρ) (x : Int32) : Sim (fc_X5_seal (47 + 132 * s) (some (83 + 135 * s + 12 * p)) x σ) (if x < 0 then some ((-1:Int32), ρ) else if x < ρ.1 30 p then bd2 (fq_seal x (σ.1 (86 + 135 * s + 12 * p) 2) ρ) (fun r_6 ρ_5 => some (r_6, ρ_5)) else some ((-1:Int32), ρ)) (AkS K W b k s p ρ) := by
  have s2 := h.s2
  have p8 := h.p8
  have z1 : ¬ (1:Int32) = 0 := by decide
  have e33 := h.R.T.C.tms.2.2.1
  have sm : ∀ r, AkS K W b k s p ρ (r, σ) (r, ρ) := fun r => Or.inl (AkO.same h r)
  have i2 : ∀ {α : Type} (x : Option α), ix (2:Int32) 16 x = x := fun x => n_ix (a := 2) (n := 16) (by omega) (by omega)
  unfold fc_X5_seal bc_X5_seal_0
  rcases h.blob x with ⟨q, hq, rfl, e1, e2, e3⟩ | ⟨e1, e2⟩
  · rw [e1, bd2n, if_neg z1, if_neg e2, if_pos e3, nnn, i2, show (2:Int32).toNatClampNeg = 2 from rfl, show 83 + 135 * s + 12 * p + 9 = 92 + 135 * s + 12 * p by omega, show 83 + 135 * s + 12 * p + 1 + 2 = 86 + 135 * s + 12 * p by omega]
    unfold fq_seal bq_seal_0
    rcases h.hnd (σ.1 (86 + 135 * s + 12 * p) 2) with ⟨t, ht, -, f2, f3, f4⟩ | ⟨-, f2, f3⟩
    · have ne : ¬ (some (W.tm t) = some 33) := fun q => by have := h.R.T.C.mem _ (h.R.T.L.inm t ht); have := Option.some.inj q; omega
      obtain ⟨n, hn, n1, n2⟩ := h.P.se
      rw [f3, bd2n, vln, e33, if_neg ne, n1, f2, bd2n, if_neg z1, h.at', n_ix (show 8 * s + p < 16 by omega) (by omega), n_cl (show 8 * s + p < 2147483648 by omega), n2]
      by_cases c40 : n = 40
      · subst c40
        rw [if_neg (by decide), if_pos (by decide), bd2n]; exact Sim.mk (sm _)
      · rw [if_pos (by rw [show (40:Int32) = nI 40 from rfl, n_lt (by omega) (by omega)]; omega), if_neg (show ¬ nI n = (40:Int32) from fun e => c40 ((n_eq (a := n) (b := 40) (by omega) (by omega)).mp e))]
        have fin : ∀ {x : Option (Int32 × cl_S)} {y : Option (Int32 × rf_S)}, Sim x y (AkS K W b k s p ρ) → Sim x (bd2 y (fun r_6 ρ_5 => some (r_6, ρ_5))) (AkS K W b k s p ρ) := by
          rintro x y ⟨u, w, rfl, rfl, o⟩
          exact ⟨u, w, rfl, rfl, o⟩
        apply fin
        rcases (h.cnt hq).1 with ⟨g1, g2⟩ | ⟨i, hi, g1, g2, -⟩
        · rw [g1, g2, bd2n, bd2n, if_neg (by decide), if_neg (by decide)]
          exact seal_wr v h ht hq 1 _ f4 (by omega) n2
        · have l1 : (0:Int32) ≤ nI i := by rw [i32_0, n_le (by omega) (by omega)]; omega
          have l2 : (0:Int32) ≤ nI (64 * s + i) := by rw [i32_0, n_le (by omega) (by omega)]; omega
          rw [g1, g2, bd2n, bd2n, if_pos l1, if_pos l2, vln, h.R.st.dp s s2, nnn, n_ix hi (by omega), n_cl (show i < 2147483648 by omega), show 41 + 139 * s + 1 = 42 + 139 * s by omega, (h.M.dk i hi).1, n_ix (show 64 * s + i < 128 by omega) (by omega), n_cl (show 64 * s + i < 2147483648 by omega)]
          exact seal_wr v h ht hq _ _ f4 (by omega) n2
    · rw [f3, bd2n, vln, e33, if_pos rfl, f2, bd2n, if_pos rfl, bd2n]; exact Sim.mk (sm _)
  · rw [e1, bd2n, if_pos rfl]
    rcases e2 with e2 | e2
    · rw [if_pos e2]; exact Sim.mk (sm _)
    · by_cases c : x < 0
      · rw [if_pos c]; exact Sim.mk (sm _)
      · rw [if_neg c, if_neg e2]; exact Sim.mk (sm _)
end Z2_LJ
