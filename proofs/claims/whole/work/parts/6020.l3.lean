section Z2_L3
variable {K : Bd} {W W' : Wd} {b : Bool} {k s p : Nat} {σ σ' : cl_S} {ρ ρ' : rf_S}
/-- a change of the machine's own rows -/
def Lm (b : Bool) (s : Nat) (σ σ' : cl_S) (ρ ρ' : rf_S) : Prop := (∀ a, ¬ mrw s a → σ'.1 a = σ.1 a) ∧ (σ'.2.1 = σ.2.1) ∧ (∀ a, ¬ mrw s a → σ'.2.2.1 a = σ.2.2.1 a) ∧ (σ'.2.2.2 = σ.2.2.2) ∧ (∀ j, j = 8 ∨ j = 14 ∨ j = 15 → σ'.1 (47 + 132 * s) j = σ.1 (47 + 132 * s) j) ∧ (σ'.2.2.1 (47 + 132 * s) 1 = σ.2.2.1 (47 + 132 * s) 1) ∧ (∀ c j, c ≠ 0 → ¬ mpl b s c j → ρ'.1 c j = ρ.1 c j) ∧ (ρ'.2 = ρ.2) ∧ (∀ j, ρ'.1 0 j = ρ.1 0 j) ∧ (∀ p, p < 8 → σ'.1 (83 + 135 * s + 12 * p) 3 = σ.1 (83 + 135 * s + 12 * p) 3 ∧ ∀ j, j = 1 ∨ j = 2 → σ'.1 (92 + 135 * s + 12 * p) j = σ.1 (92 + 135 * s + 12 * p) j)
theorem Lm.cI {b : Bool} {s : Nat} {σ σ' : cl_S} {ρ ρ' : rf_S} (hS : Lm b s σ σ' ρ ρ') : ∀ a, ¬ mrw s a → σ'.1 a = σ.1 a := hS.1
theorem Lm.cL {b : Bool} {s : Nat} {σ σ' : cl_S} {ρ ρ' : rf_S} (hS : Lm b s σ σ' ρ ρ') : σ'.2.1 = σ.2.1 := hS.2.1
theorem Lm.cR {b : Bool} {s : Nat} {σ σ' : cl_S} {ρ ρ' : rf_S} (hS : Lm b s σ σ' ρ ρ') : ∀ a, ¬ mrw s a → σ'.2.2.1 a = σ.2.2.1 a := hS.2.2.1
theorem Lm.cT {b : Bool} {s : Nat} {σ σ' : cl_S} {ρ ρ' : rf_S} (hS : Lm b s σ σ' ρ ρ') : σ'.2.2.2 = σ.2.2.2 := hS.2.2.2.1
theorem Lm.m1 {b : Bool} {s : Nat} {σ σ' : cl_S} {ρ ρ' : rf_S} (hS : Lm b s σ σ' ρ ρ') : ∀ j, j = 8 ∨ j = 14 ∨ j = 15 → σ'.1 (47 + 132 * s) j = σ.1 (47 + 132 * s) j := hS.2.2.2.2.1
theorem Lm.m2 {b : Bool} {s : Nat} {σ σ' : cl_S} {ρ ρ' : rf_S} (hS : Lm b s σ σ' ρ ρ') : σ'.2.2.1 (47 + 132 * s) 1 = σ.2.2.1 (47 + 132 * s) 1 := hS.2.2.2.2.2.1
theorem Lm.q {b : Bool} {s : Nat} {σ σ' : cl_S} {ρ ρ' : rf_S} (hS : Lm b s σ σ' ρ ρ') : ∀ c j, c ≠ 0 → ¬ mpl b s c j → ρ'.1 c j = ρ.1 c j := hS.2.2.2.2.2.2.1
theorem Lm.l {b : Bool} {s : Nat} {σ σ' : cl_S} {ρ ρ' : rf_S} (hS : Lm b s σ σ' ρ ρ') : ρ'.2 = ρ.2 := hS.2.2.2.2.2.2.2.1
theorem Lm.f {b : Bool} {s : Nat} {σ σ' : cl_S} {ρ ρ' : rf_S} (hS : Lm b s σ σ' ρ ρ') : ∀ j, ρ'.1 0 j = ρ.1 0 j := hS.2.2.2.2.2.2.2.2.1
theorem Lm.pi {b : Bool} {s : Nat} {σ σ' : cl_S} {ρ ρ' : rf_S} (hS : Lm b s σ σ' ρ ρ') : ∀ p, p < 8 → σ'.1 (83 + 135 * s + 12 * p) 3 = σ.1 (83 + 135 * s + 12 * p) 3 ∧ ∀ j, j = 1 ∨ j = 2 → σ'.1 (92 + 135 * s + 12 * p) j = σ.1 (92 + 135 * s + 12 * p) j := hS.2.2.2.2.2.2.2.2.2
theorem Lm.sm (h : Lm b s σ σ' ρ ρ') (hs : s < 2) : SmT σ σ' := by
  have s01 : s = 0 ∨ s = 1 := by omega
  exact ⟨fun a ha => ⟨h.cI a (fun q => by unfold mrw at q; omega), h.cR a (fun q => by unfold mrw at q; omega)⟩, h.cT⟩
theorem Lm.fr (h : Lm b s σ σ' ρ ρ') (hs : s < 2) (T : TermR W.n0 σ ρ W.ts W.tm W.N) : Fr (mrw s) (mpl b s) (scm s) W W σ σ' ρ ρ' := by
  have sm := h.sm hs
  have lo : ∀ a, pt W.ts a → (30 < a ∧ a < 38) ∨ 324 < a := by
    intro a ha
    rcases ha with rfl | ha
    · omega
    · have := T.C.mem a ha; omega
  exact ⟨⟨Wd.le.refl W, fun a ha j _ => by rw [(sm.r a (lo a ha)).1], fun a ha j _ _ => by rw [(sm.r a (lo a ha)).2], T.L.inm, fun b _ => by rw [sm.t], by rw [sm.t]; exact Nat.le_refl _⟩, fun a q _ _ => h.cI a q, fun a _ => by rw [h.cL], fun a q _ _ => h.cR a q, fun a _ => by rw [h.cT], fun c j hc q => h.q c j (by omega) q, h.l, fun j _ => h.f j⟩
theorem Lm.tm (h : Lm b s σ σ' ρ ρ') (hs : s < 2) (T : TermR W.n0 σ ρ W.ts W.tm W.N) : TermR W.n0 σ' ρ' W.ts W.tm W.N := by
  refine T.sm (h.sm hs) (fun c h1 h2 => funext fun j => h.q c j (by omega) (fun q => by unfold mpl at q; omega)) (fun j _ => h.f j)
theorem Ak.mloc (h : Ak K W b k s p σ ρ) (L : Lm b s σ σ' ρ ρ') (M' : MRel W s σ' ρ') (h61 : ρ'.1 61 = ρ.1 61) (h69 : ρ'.1 69 = ρ.1 69) (ht : (ρ.1 48 0).toNatClampNeg ≤ (ρ'.1 48 0).toNatClampNeg) : Ak K W b k s p σ' ρ' := by
  have s2 := h.s2
  have s01 : s = 0 ∨ s = 1 := by omega
  have F := L.fr s2 h.R.T
  have qa : ∀ c, 12 < c → (c < 42 ∨ (43 < c ∧ c < 48) ∨ 75 < c) → ρ'.1 c = ρ.1 c := fun c h1 h2 => funext fun j => L.q c j (by omega) (fun q => by unfold mpl at q; omega)
  have m47 : ∀ j, j = 8 ∨ j = 14 ∨ j = 15 → σ'.1 47 j = σ.1 47 j := by
    intro j hj
    rcases s01 with rfl | rfl
    · exact L.m1 j hj
    · rw [L.cI 47 (by unfold mrw; omega)]
  have O' : OthB W k σ' ρ' := by
    refine h.R.oB.fr F.G (L.cI 0 (by unfold mrw; omega)) (L.cR 0 (by unfold mrw; omega)) (fun a ha => L.cI a (by unfold mrw; omega)) m47 (fun a ha => L.cR a (by unfold mrw; omega)) (fun c hc => qa c (by omega) (by omega)) (fun j _ => L.f j) ht
  have B := h.R.bd
  have e0 : phi 0 ρ' = phi 0 ρ := phi_eq (fun g => by rw [h61]) (fun g => by rw [h69])
  have e1 : phi 1 ρ' = phi 1 ρ := phi_eq (fun g => by rw [h61]) (fun g => by rw [h69])
  have B' : Bud K W b σ' ρ' := ⟨by rw [e0, e1]; exact B.n, by rw [e0, e1]; exact B.l, by rw [L.cT]; exact B.c, by rw [L.cT]; exact B.s⟩
  have R' : Rel K W b k σ' ρ' := by
    refine h.R.mach s2 F M' O' (fun s' hs' => ?_) (L.tm s2 h.R.T) B' L.pi (fun e => by rcases h.hs with q | q; exact absurd (q.2.symm.trans e) (by decide); exact q.1)
    by_cases q : s' = s
    · subst q; exact L.m2
    · have s01' : s' = 0 ∨ s' = 1 := by omega
      rw [L.cR _ (by unfold mrw; omega)]
  exact ⟨R', h.hs, h.hp, by rw [L.f]; exact h.sd, by rw [L.f]; exact h.me, by rw [L.f]; exact h.at', by rw [L.f]; exact h.gd, by rw [L.f]; exact h.pw, by rw [L.m1 8 (by omega)]; exact h.on, by rw [L.f, L.f]; exact h.bk⟩
/-- the partitions where the machine's other rows change -/
theorem MRel.prs (h : MRel W s σ ρ) (G : TGo W W σ σ') (hs : s < 2) (hnp : W.np ≤ 8) (hI : ∀ a, 82 + 135 * s < a → a < 179 + 135 * s → σ'.1 a = σ.1 a) (hR : ∀ a, 82 + 135 * s < a → a < 179 + 135 * s → σ'.2.2.1 a = σ.2.2.1 a) (hq : ∀ c, 37 < c → c < 71 → c ≠ 40 → c ≠ 41 → (c < 44 ∨ 51 < c) → ρ'.1 c = ρ.1 c) : ∀ p, p < W.np → PRel W s p σ' ρ' := by
  intro p hp
  refine (h.pr p hp).fr G (fun i hi => hI _ (by omega) (by omega)) (fun i hi => hR _ (by omega) (by omega)) (fun c j q => ?_)
  have := q.out
  rw [hq c (by omega) (by omega) (by omega) (by omega) (by omega)]
theorem ask_yield (h : Ak K W b k s p σ ρ) : ∃ σ' ρ', fc_X5_yieldTurn (47 + 132 * s) σ = some (0, σ') ∧ ρ' = rf_w ρ 51 s 1 ∧ Ak K W b k s p σ' ρ' ∧ Kp s p ρ ρ' := by
  have s2 := h.s2
  have s01 : s = 0 ∨ s = 1 := by omega
  refine ⟨cl_w σ (47 + 132 * s) 12 1, _, rfl, rfl, ?_, ⟨rfl, by rw [q_w (by decide)], q_w (by decide)⟩⟩
  have L : Lm b s σ (cl_w σ (47 + 132 * s) 12 1) ρ (rf_w ρ 51 s 1) := by
    refine ⟨fun a q => r_w (fun e => q (by unfold mrw; omega)), rfl, fun a q => rfl, rfl, fun j hj => r_wk (by omega), rfl, fun c j hc q => ?_, rfl, fun j => by rw [q_w (by decide)], fun p' hp' => ⟨by rw [r_w (by omega)], fun j hj => by rw [r_w (by omega)]⟩⟩
    rw [g_q, if_neg]
    rintro ⟨rfl, rfl⟩
    exact q (by unfold mpl; omega)
  have M := h.M
  have F := L.fr s2 h.R.T
  refine h.mloc L ?_ (by rw [q_w (by decide)]) (by rw [q_w (by decide)]) (by rw [q_w (by decide)]; exact Nat.le_refl _)
  have cI : ∀ a, a ≠ 47 + 132 * s → (cl_w σ (47 + 132 * s) 12 1).1 a = σ.1 a := fun a ha => r_w ha
  have cK : ∀ j, j ≠ 12 → (cl_w σ (47 + 132 * s) 12 1).1 (47 + 132 * s) j = σ.1 (47 + 132 * s) j := fun j hj => r_wk hj
  have qo : ∀ c, c ≠ 51 → (rf_w ρ 51 s 1).1 c = ρ.1 c := fun c hc => q_w hc
  refine ⟨?_, ?_, ?_, ?_, ?_, ?_, ?_, ?_, ?_, ?_, ?_, ?_⟩
  · exact M.prs F.G s2 h.R.cf.np.1 (fun a h1 h2 => cI a (by omega)) (fun a _ _ => rfl) (fun c h1 h2 h3 h4 h5 => qo c (by omega))
  · exact M.cp
  · rw [cK 2 (by omega)]; exact M.re
  · rw [cK 9 (by omega), qo 48 (by omega)]; exact M.tk
  · rw [cK 10 (by omega), cK 11 (by omega), qo 49 (by omega), qo 50 (by omega)]; exact M.sl
  · rw [r_ws, q_ws]
  · rw [cK 13 (by omega), qo 0 (by omega)]; exact M.ct
  · intro c i hc hi; rw [cI _ (by omega), qo 71 (by omega)]; exact M.sn c i hc hi
  · intro c hc; rw [cI _ (by omega), qo 72 (by omega)]; exact M.ur c hc
  · intro c hc; rw [qo 73 (by omega)]; exact M.st c hc
  · intro c hc; rw [cI _ (by omega), qo 74 (by omega), qo 75 (by omega)]; exact M.dk c hc
  · intro e; subst e; rw [show (179 : Nat) = 47 + 132 * 1 from rfl, cK 8 (by omega)]; exact M.on rfl
/-- a change of the core alone -/
theorem Ak.core (h : Ak K W b k s p σ ρ) (C : Ctx W s p σ' ρ') (F : CoF W s p σ σ' ρ ρ') (h0 : ∀ j, ρ'.1 0 j = ρ.1 0 j) : Ak K W b k s p σ' ρ' := by
  have s2 := h.s2
  have p8 := h.p8
  have L : Lc W b s p σ σ' ρ ρ' := by
    refine ⟨fun a q => F.cI a (by unfold prt at q; omega), by rw [F.c2], fun a q => by rw [F.c2], by rw [F.c2], fun c j hc q => ?_, F.q2, h0⟩
    by_cases c1 : c < 52 ∨ 59 < c
    · rw [F.qA c hc c1]
    · refine F.qI c j hc (fun w => q ⟨w, by omega, by omega, fun e => by omega⟩)
  have G := (L.fr s2 p8 h.R.T).G
  have hP := h.P
  have qA := F.qA
  refine h.loc L ?_ (qA 61 (by omega) (by omega)) (qA 69 (by omega) (by omega))
  have cI : ∀ a, a < 84 + 135 * s + 12 * p ∨ 86 + 135 * s + 12 * p < a → σ'.1 a = σ.1 a := F.cI
  refine ⟨C.co, hP.tb.fr G (by rw [cI _ (by omega)]) (by rw [cI _ (by omega)]) (cI _ (by omega)) (by rw [F.c2]) (cI _ (by omega)) (by rw [F.c2]) (fun j _ => by rw [qA 60 (by omega) (by omega)]) (by rw [qA 61 (by omega) (by omega)]) (by rw [qA 70 (by omega) (by omega)]) (by rw [qA 43 (by omega) (by omega)]) (fun j _ => by rw [qA 42 (by omega) (by omega)]), hP.ou.fr G.le (by rw [cI _ (by omega)]) (cI _ (by omega)) (by rw [F.c2]) (by rw [qA 64 (by omega) (by omega)]) (fun c j hc _ => by rw [qA c (by omega) (by omega)]), hP.ww.fr (by rw [cI _ (by omega)]) (cI _ (by omega)) (by rw [qA 66 (by omega) (by omega)]) (fun j _ => by rw [qA 65 (by omega) (by omega)]), hP.wt.fr G.le (by rw [cI _ (by omega)]) (by rw [F.c2]) (by rw [qA 68 (by omega) (by omega)]) (fun j _ => by rw [qA 67 (by omega) (by omega)]), hP.se.fr (by rw [cI _ (by omega)]) (by rw [qA 69 (by omega) (by omega)]), hP.ms.fr G (fun j _ _ => by rw [F.c2]) (by rw [qA 38 (by omega) (by omega)]) (by rw [qA 39 (by omega) (by omega)])⟩
theorem ask_handler (h : Ak K W b k s p σ ρ) (x : Int32) : Sim (fc_X2_setHandler (84 + 135 * s + 12 * p) x σ) (if x < 0 then some ((-2:Int32), ρ) else ix (ρ.1 0 118) 8 ((if (((4:Int32) * (ρ.1 29 (ρ.1 0 118).toNatClampNeg)) - (4:Int32)) < x then some ((-2:Int32), ρ) else (if (x - x / (4:Int32) * (4:Int32)) = 0 then ix (ρ.1 0 119) 16 (vl (rf_w ρ 58 (ρ.1 0 119).toNatClampNeg x) (fun ρ_2 => some ((0:Int32), ρ_2))) else some ((-2:Int32), ρ))))) (AkO K W b k s p ρ) := by
  have C := h.ctx
  have s2 := h.s2
  have p8 := h.p8
  unfold fc_X2_setHandler bc_X2_setHandler_0
  rw [h.me, n_ix p8 (by omega), n_cl (by omega), C.rz, C.co.sz, h.at', n_ix (show 8 * s + p < 16 by omega) (by omega), n_cl (by omega)]
  refine Sim.ite Iff.rfl (fun _ _ => Sim.mk (AkO.same h _)) (fun hx _ => ?_)
  refine Sim.ite Iff.rfl (fun _ _ => Sim.mk (AkO.same h _)) (fun _ _ => ?_)
  rcases n_cases x with hn | ⟨q, hq, rfl⟩
  · exact absurd hn hx
  rw [n_and3 hq, n_rem4 hq]
  refine Sim.ite Iff.rfl (fun _ _ => ?_) (fun _ _ => Sim.mk (AkO.same h _))
  have c := C.fl (f := 4) (by omega) (nI q)
  have e4 : cfl 4 = 58 := rfl
  rw [e4] at c
  refine Sim.mk ⟨rfl, W, Wd.le.refl W, h.core c.1 c.2 (fun j => by rw [q_w (by decide)]), ⟨by rw [q_w (by decide)], by rw [q_w (by decide)], q_w (by decide)⟩⟩
end Z2_L3
