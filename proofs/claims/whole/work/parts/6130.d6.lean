section Z2_D6
variable {K : Bd} {W W' : Wd} {b : Bool} {k s p q : Nat} {σ σ' : cl_S} {ρ ρ' : rf_S} {N : Nat}
/-- the world of a boot that is run again -/
def Wd.pg (W : Wd) (ln : Nat → Nat) (n1 : Nat) : Wd := (W.ts, W.tm, W.N, W.cf, W.np, W.nc, W.ns, W.bs, W.sz, W.ar, W.ad, W.fr, W.to, ln, W.who, W.stp, n1)
theorem PRel.pg {ln : Nat → Nat} {n1 : Nat} (h : PRel W s p σ ρ) : PRel (W.pg ln n1) s p σ ρ := ⟨⟨h.co.ix, h.co.sz, h.co.pc, h.co.hd, h.co.ca, h.co.wh, h.co.ha, h.co.ih, h.co.rg, h.co.me⟩, ⟨h.tb.tb, h.tb.tf⟩, h.ou, h.ww, h.wt, h.se, ⟨h.ms.im, h.ms.ms, h.ms.sk⟩⟩
theorem MRel.pg {ln : Nat → Nat} {n1 : Nat} (h : MRel W s σ ρ) : MRel (W.pg ln n1) s σ ρ := ⟨fun p hp => (h.pr p hp).pg, h.cp, h.re, h.tk, h.sl, h.yl, h.ct, h.sn, h.ur, h.st, h.dk, h.on⟩
theorem CfgR.pg {ln : Nat → Nat} {n1 : Nat} (h : CfgR W σ ρ) (hl : ∀ c, c < 16 → ln c = W.ln c) : CfgR (W.pg ln n1) σ ρ := by
  refine ⟨h.cf, h.np, h.nc, h.ns, h.pa, h.dj, h.aj, fun c hc => ?_, h.sl, fun q p hq hp => ?_⟩
  · have hc : c < W.nc := hc
    have := h.ch c hc
    have h16 := h.nc.1
    show (W.fr c < W.np ∧ W.to c < W.np ∧ 1 ≤ ln c ∧ ln c ≤ 16) ∧ σ.1 (W.cf + 5) c = nI (W.fr c) ∧ ρ.1 32 c = nI (W.fr c) ∧ σ.1 (W.cf + 6) c = nI (W.to c) ∧ ρ.1 33 c = nI (W.to c) ∧ σ.1 (W.cf + 7) c = nI (ln c) ∧ ρ.1 34 c = nI (ln c)
    rw [hl c (by omega)]; exact this
  · rw [flR_cg (W := W) (W' := W.pg ln n1) rfl rfl rfl]; exact h.fl q p hq hp
theorem OthB.pg {ln : Nat → Nat} {n1 : Nat} (h : OthB W k σ ρ) : OthB (W.pg ln n1) k σ ρ := ⟨h.ou, h.of, h.d0, h.ip, h.on, h.bt, h.wr, h.sp⟩
theorem phi_cg (h1 : ∀ g, g < 8 → ρ'.1 61 (8 * s + g) = ρ.1 61 (8 * s + g)) (h2 : ∀ g, g < 8 → ρ'.1 69 (8 * s + g) = ρ.1 69 (8 * s + g)) : phi s ρ' = phi s ρ := by
  have e : ∀ g, g < 8 → phG ρ' (8 * s + g) = phG ρ (8 * s + g) := fun g hg => by unfold phG; rw [h1 g hg, h2 g hg]
  have e0 := e 0 (by omega)
  rw [Nat.add_zero] at e0
  unfold phi
  rw [e0, e 1 (by omega), e 2 (by omega), e 3 (by omega), e 4 (by omega), e 5 (by omega), e 6 (by omega), e 7 (by omega)]
/-- what a partition was made of -/
theorem im_of (h : Rel K W b k σ ρ) (hq : q < W.np) : ∃ z : Nat × Nat × Nat × Nat, z.1 < W.N ∧ ρ.1 38 q = nI z.1 ∧ σ.2.2.1 (83 + 12 * q) 15 = some (W.tm z.1) ∧ ρ.1 3 z.1 = nI z.2.2.1 ∧ ρ.1 2 z.1 = nI z.2.1 ∧ z.2.1 + z.2.2.1 ≤ 690000 ∧ z.2.2.1 ≤ W.sz q ∧ σ.2.2.1 (W.tm z.1) 6 = some z.2.2.2 ∧ 324 < z.2.2.2 ∧ (σ.2.2.2.1 z.2.2.2).2 = z.2.2.1 ∧ ∀ j, j < z.2.2.1 → σ.1 z.2.2.2 j = ρ.1 12 (z.2.1 + j) := by
  obtain ⟨⟨u, hu, e38, e15⟩, a, ea, a0, w, w6, wn, wl⟩ := (h.m0.pr q hq).ms.im
  rw [show 83 + 135 * 0 + 12 * q = 83 + 12 * q by omega] at e15 ea
  rw [e15] at ea
  have eau := Option.some.inj ea
  subst eau
  have k1 : ρ.1 1 u = nI 1 := by rw [← h.T.L.kd u hu]; exact a0
  obtain ⟨E0, -, hE0, kd⟩ := h.T.Q.e
  obtain ⟨kk, hkk, ek, rs⟩ := kd u hu
  have kk1 : kk = 1 := (n_eq (by omega) (by omega)).mp (ek.symm.trans k1)
  subst kk1
  unfold rsh at rs
  rw [if_neg (by omega), if_pos rfl] at rs
  obtain ⟨o, l, f2, f3, f4, hol, hl⟩ := rs
  obtain ⟨w', w6', w3, w4, wT, wf⟩ := h.T.L.rw u o l hu k1 f2 f3 (by omega) (by omega)
  rw [w6] at w6'
  have ew := Option.some.inj w6'
  subst ew
  refine ⟨(u, o, l, w), hu, e38, e15, f3, f2, by show o + l ≤ 690000; omega, ?_, w6, w3, by show (σ.2.2.2.1 w).2 = l; rw [wT], wf⟩
  rw [wT] at wl; exact wl
end Z2_D6
