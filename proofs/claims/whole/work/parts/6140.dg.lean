section Z2_DG
variable {K : Bd} {W W' W2 : Wd} {b : Bool} {k s p q : Nat} {σ σ' σ0 : cl_S} {ρ ρ' ρ0 : rf_S} {N : Nat}
/-- the world after a boot was run again -/
def Wd.bk (W2 : Wd) (N : Nat) (ln : Nat → Nat) (n0 : Nat) : Wd := (W2.ts, W2.tm, N, W2.cf, W2.np, W2.nc, W2.ns, W2.bs, W2.sz, W2.ar, W2.ad, W2.fr, W2.to, ln, W2.who, W2.stp, n0)
theorem n_mm {t : Nat} (h : t < 2147483648) : nI t ≠ -1 := fun e => n_nneg h (by rw [e]; decide)
theorem TV.bk {ln : Nat → Nat} {n0 : Nat} (hN : W.N ≤ W2.N) (h2 : W2.N ≤ 112000) {r r0 : Option Nat} {v : Int32} (h : TV W2 r v) (h0 : TV W r0 v) : TV (W2.bk W.N ln n0) r v := by
  obtain ⟨t, a1, a2, a3⟩ := h
  obtain ⟨u, b1, b2, b3⟩ := h0
  have : t = u := (n_eq (by omega) (by omega)).mp (a2.symm.trans b2)
  subst this
  exact ⟨t, b1, a2, a3⟩
theorem TO.bk {ln : Nat → Nat} {n0 : Nat} (hN : W.N ≤ W2.N) (h2 : W2.N ≤ 112000) {r r0 : Option Nat} {v : Int32} (h : TO W2 r v) (h0 : TO W r0 v) : TO (W2.bk W.N ln n0) r v := by
  rcases h with h | h
  · exact Or.inl h
  · rcases h0 with h0 | h0
    · obtain ⟨t, a1, a2, a3⟩ := h
      exact absurd (a2.symm.trans h0.2) (n_mm (by omega))
    · exact Or.inr (h.bk hN h2 h0)
theorem OV.bk {ln : Nat → Nat} {n0 : Nat} (hN : W.N ≤ W2.N) (h2 : W2.N ≤ 112000) {w w0 : Int32} {r r0 : Option Nat} {v f : Int32} (h : OV W2 w r v f) (h0 : OV W w0 r0 v f) : OV (W2.bk W.N ln n0) w r v f := by
  rcases h with h | ⟨a1, a2, a3⟩
  · exact Or.inl h
  · rcases h0 with h0 | ⟨b1, b2, b3⟩
    · exact absurd (a1.symm.trans h0.1) (by decide)
    · exact Or.inr ⟨a1, a2, a3.bk hN h2 b3⟩
theorem TabR.bk {tm tm0 : Nat → Nat} {N0 N2 a lim sl h h0 : Nat} {tb tb0 : Nat → Int32} {cnt : Int32} (B : TabR σ tm N2 a lim sl tb cnt h) (hN : N0 ≤ N2) (h2 : N2 ≤ 112000) (hl : lim < 2147483648) (B0 : TabR σ0 tm0 N0 a lim sl tb0 cnt h0) (et : ∀ j, j < lim → tb j = tb0 j) : TabR σ tm N0 a lim sl tb cnt h := by
  have b1 := B.hl
  have b2 := B0.hl
  have hh : h = h0 := (n_eq (by omega) (by omega)).mp (B.cq.symm.trans B0.cq)
  subst hh
  refine ⟨B.sh, B.cs, B.hl, B.cc, B.cq, B.lm, fun j hj => ?_, B.nd, B.sv, B.si, B.po⟩
  obtain ⟨t, a1, a2, a3⟩ := B.en j hj
  obtain ⟨u, c1, c2, c3⟩ := B0.en j hj
  have : t = u := (n_eq (by omega) (by omega)).mp (a2.symm.trans ((et j (by omega)).trans c2))
  subst this
  exact ⟨t, c1, a2, a3⟩
theorem CfgR.bk {ln : Nat → Nat} {N n0 : Nat} (h : CfgR W2 σ ρ) (hl : ∀ c, c < 16 → ln c = W2.ln c) : CfgR (W2.bk N ln n0) σ ρ := by
  refine ⟨h.cf, h.np, h.nc, h.ns, h.pa, h.dj, h.aj, fun c hc => ?_, h.sl, fun q p hq hp => ?_⟩
  · have hc : c < W2.nc := hc
    have := h.ch c hc
    have h16 := h.nc.1
    show (W2.fr c < W2.np ∧ W2.to c < W2.np ∧ 1 ≤ ln c ∧ ln c ≤ 16) ∧ σ.1 (W2.cf + 5) c = nI (W2.fr c) ∧ ρ.1 32 c = nI (W2.fr c) ∧ σ.1 (W2.cf + 6) c = nI (W2.to c) ∧ ρ.1 33 c = nI (W2.to c) ∧ σ.1 (W2.cf + 7) c = nI (ln c) ∧ ρ.1 34 c = nI (ln c)
    rw [hl c (by omega)]; exact this
  · rw [flR_cg (W := W2) (W' := W2.bk N ln n0) rfl rfl rfl]; exact h.fl q p hq hp
theorem PRel.bk {ln : Nat → Nat} {n0 : Nat} (hN : W.N ≤ W2.N) (h2 : W2.N ≤ 112000) (h : PRel W2 0 p σ ρ) (g : PRel W 0 p σ0 ρ0) (hp : p < 8) (E : ∀ c j, 37 < c → c < 77 → j < 100000 → ¬ S1 c j → ρ.1 c j = ρ0.1 c j) : PRel (W2.bk W.N ln n0) 0 p σ ρ := by
  have nS : ∀ c j, (c < 48 ∨ (c = 60 ∧ j < 800) ∨ ((c = 62 ∨ c = 63) ∧ j < 1600) ∨ ((c = 65 ∨ c = 67) ∧ j < 512) ∨ ((c = 61 ∨ c = 64 ∨ c = 66 ∨ c = 68) ∧ j < 8)) → ¬ S1 c j := fun c j hc w => by
    unfold S1 at w
    rcases w with w | w | w | w | w | w | w | w | w | w <;> omega
  refine ⟨⟨h.co.ix, h.co.sz, h.co.pc, h.co.hd, h.co.ca, h.co.wh, h.co.ha, h.co.ih, h.co.rg, h.co.me⟩, ⟨?_, h.tb.tf⟩, ?_, h.ww, ?_, h.se, ⟨⟨?_, h.ms.im.2⟩, ?_, h.ms.sk⟩⟩
  · obtain ⟨hh, B, k, m, hk, hm, e1, e2, e3, e4, e5, e6, e7, e8, e9⟩ := h.tb.tb
    obtain ⟨hh0, B0, k0, m0, hk0, hm0, f1, f2, f3, f4, f5, f6, f7, f8, f9⟩ := g.tb.tb
    have em : m = m0 := (n_eq (by omega) (by omega)).mp (by rw [← e3, ← f3]; exact E 43 p (by omega) (by omega) (by omega) (nS 43 p (by omega)))
    subst em
    refine ⟨hh, B.bk hN h2 (by omega) (by rw [E 61 (8 * 0 + p) (by omega) (by omega) (by omega) (nS 61 _ (by omega))]; exact B0) (fun j hj => E 60 _ (by omega) (by omega) (by omega) (nS 60 _ (by omega))), k, m, hk, hm, e1, e2, e3, e4, e5, fun i hi => (e6 i hi).bk hN h2 (r0 := σ0.2.2.1 (91 + 135 * 0 + 12 * p) i) ?_, e7, e8, e9⟩
    rw [E 42 (100 * p + i) (by omega) (by omega) (by omega) (nS 42 _ (by omega))]; exact f6 i hi
  · obtain ⟨n, ⟨c1, c2, c3⟩, o⟩ := h.ou
    obtain ⟨n', ⟨d1, d2, d3⟩, o'⟩ := g.ou
    have en : n = n' := (n_eq (by omega) (by omega)).mp (by rw [← c3, ← d3]; exact E 64 _ (by omega) (by omega) (by omega) (nS 64 _ (by omega)))
    subst en
    refine ⟨n, ⟨c1, c2, c3⟩, fun j hj => (o j hj).bk hN h2 (w0 := σ0.1 (87 + 135 * 0 + 12 * p) j) (r0 := σ0.2.2.1 (88 + 135 * 0 + 12 * p) j) ?_⟩
    rw [E 62 _ (by omega) (by omega) (by omega) (nS 62 _ (by omega)), E 63 _ (by omega) (by omega) (by omega) (nS 63 _ (by omega))]; exact o' j hj
  · obtain ⟨n, ⟨c1, c2, c3⟩, o⟩ := h.wt
    obtain ⟨n', ⟨d1, d2, d3⟩, o'⟩ := g.wt
    have en : n = n' := (n_eq (by omega) (by omega)).mp (by rw [← c3, ← d3]; exact E 68 _ (by omega) (by omega) (by omega) (nS 68 _ (by omega)))
    subst en
    refine ⟨n, ⟨c1, c2, c3⟩, fun j hj => (o j hj).bk hN h2 (r0 := σ0.2.2.1 (90 + 135 * 0 + 12 * p) j) ?_⟩
    rw [E 67 _ (by omega) (by omega) (by omega) (nS 67 _ (by omega))]; exact o' j hj
  · refine h.ms.im.1.bk hN h2 (r0 := σ0.2.2.1 (83 + 135 * 0 + 12 * p) 15) ?_
    rw [E 38 p (by omega) (by omega) (by omega) (nS 38 _ (by omega))]; exact g.ms.im.1
  · refine h.ms.ms.bk hN h2 (r0 := σ0.2.2.1 (83 + 135 * 0 + 12 * p) 16) ?_
    rw [E 39 p (by omega) (by omega) (by omega) (nS 39 _ (by omega))]; exact g.ms.ms
theorem MRel.bk {ln : Nat → Nat} {n0 : Nat} (hN : W.N ≤ W2.N) (h2 : W2.N ≤ 112000) (np : W2.np = W.np) (np8 : W.np ≤ 8) (h : MRel W2 0 σ ρ) (g : MRel W 0 σ0 ρ0) (E : ∀ c j, 37 < c → c < 77 → j < 100000 → ¬ S1 c j → ρ.1 c j = ρ0.1 c j) : MRel (W2.bk W.N ln n0) 0 σ ρ := by
  have nS : ∀ c j, (c = 73 ∧ j < 16) ∨ (c = 75 ∧ j < 64) → ¬ S1 c j := fun c j hc w => by
    unfold S1 at w
    rcases w with w | w | w | w | w | w | w | w | w | w <;> omega
  refine ⟨fun p hp => ?_, h.cp, h.re, h.tk, h.sl, h.yl, h.ct, h.sn, h.ur, fun c hc hn => ?_, fun j hj => ?_, h.on⟩
  · have hp : p < W2.np := hp
    exact (h.pr p hp).bk hN h2 (g.pr p (by omega)) (by omega) E
  · have hn : 0 < W2.np := hn
    refine (h.st c hc hn).bk hN h2 (r0 := σ0.2.2.1 (78 + 135 * 0) c) ?_
    rw [E 73 _ (by omega) (by omega) (by omega) (nS 73 _ (by omega))]; exact g.st c hc (by omega)
  · obtain ⟨a1, a2, a3⟩ := h.dk j hj
    refine ⟨a1, a2.bk hN h2 (r0 := σ0.2.2.1 (43 + 139 * 0) j) ?_, a3⟩
    rw [E 75 _ (by omega) (by omega) (by omega) (nS 75 _ (by omega))]; exact (g.dk j hj).2.1
theorem OthB.bk {ln : Nat → Nat} {n0 : Nat} (hN : W.N ≤ W2.N) (h2 : W2.N ≤ 112000) (np : W2.np = W.np) (hk : k < 500) (h : OthB W2 k σ ρ) (g : OthB W k σ0 ρ0) (E : ∀ c j, 37 < c → c < 77 → j < 100000 → ¬ S1 c j → ρ.1 c j = ρ0.1 c j) (E1 : ρ.1 0 110 = ρ0.1 0 110) (E2 : ρ.1 0 78 = ρ0.1 0 78) : OthB (W2.bk W.N ln n0) k σ ρ := by
  refine ⟨?_, h.of, fun j hj hn => ?_, ?_, h.on, h.bt, h.wr, h.sp⟩
  · obtain ⟨hh, B⟩ := h.ou
    obtain ⟨hh0, B0⟩ := g.ou
    exact ⟨hh, B.bk hN h2 (by omega) (by rw [E1]; exact B0) (fun j hj => E 76 j (by omega) (by omega) (by omega) (nS1 (by omega)))⟩
  · have hn : 0 < W2.np := hn
    obtain ⟨a1, a2, a3⟩ := h.d0 j hj hn
    refine ⟨a1, a2.bk hN h2 (r0 := σ0.2.2.1 46 j) ?_, a3⟩
    rw [E 41 j (by omega) (by omega) (by omega) (nS1 (by omega))]; exact (g.d0 j hj (by omega)).2.1
  · obtain ⟨n, c1, c2, c3, c4, c5⟩ := h.ip
    obtain ⟨n', d1, d2, d3, d4, d5⟩ := g.ip
    have en : n = n' := (n_eq (by omega) (by omega)).mp (by rw [← c3, ← d3]; exact E2)
    subst en
    refine ⟨n, c1, c2, c3, fun j hj => ?_, c5⟩
    obtain ⟨t, q, a1, a2, a3, a4, a5, a6, a7⟩ := c4 j hj
    obtain ⟨t', q', b1, b2, b3, b4, b5, b6, b7⟩ := d4 j hj
    refine ⟨t, q, a1, a2, a3, a4, a5, a6, a7.bk hN h2 (w0 := σ0.1 81 j) (r0 := σ0.2.2.1 82 j) ?_⟩
    rw [E 47 j (by omega) (by omega) (by omega) (nS1 (by omega)), E 46 j (by omega) (by omega) (by omega) (nS1 (by omega))]; exact b7
theorem RSt0.cg {N : Nat} (h : RSt0 ρ N) (hq : ∀ c, c ≠ 0 → c < 13 → ρ'.1 c = ρ.1 c) (h12 : ρ'.1 0 12 = ρ.1 0 12) (h18 : ρ'.1 0 18 = ρ.1 0 18) : RSt0 ρ' N := by
  refine ⟨by rw [h12]; exact h.n, by rw [h18, hq 1 (by decide) (by decide), hq 2 (by decide) (by decide), hq 3 (by decide) (by decide), hq 4 (by decide) (by decide)]; exact h.e, ?_, ?_⟩
  · have := h.uq
    unfold kyQ at this ⊢
    rw [hq 1 (by decide) (by decide), hq 2 (by decide) (by decide), hq 3 (by decide) (by decide), hq 4 (by decide) (by decide)]
    exact this
  · intro i hi
    obtain ⟨l, l1, l2, l3⟩ := h.ch i hi
    refine ⟨l, by rw [hq 5 (by decide) (by decide), hq 11 (by decide) (by decide)]; exact l1, fun t => ?_, l3⟩
    rw [l2 t]
    unfold rbk
    rw [hq 1 (by decide) (by decide), hq 2 (by decide) (by decide), hq 3 (by decide) (by decide), hq 4 (by decide) (by decide), hq 12 (by decide) (by decide)]
end Z2_DG
