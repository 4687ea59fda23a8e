section Z2_DA
variable {K : Bd} {W W' : Wd} {b : Bool} {k s p q : Nat} {σ σ' : cl_S} {ρ ρ' : rf_S} {N : Nat}
/-- both sides are about to run the boot again -/
theorem again (h : Rel K W false k σ ρ) (hp : p < W.np) : ∃ mk σ3 ρ4 S, fc_X1_flowingTo W.cf (nI p) σ = some (nI mk, σ) ∧ BitF mk (flR W p 8) ∧ fc_X5_repeat 179 (some 47) (some 44) (nI mk) σ = bc_X5_repeat_91 179 (some 47) (nI mk) (0:Int32) σ3 ∧ fq_prepare (nI p) (rf_w ρ 0 79 (1:Int32)) = some ρ4 ∧ ρ.1 0 13 = nI S ∧ S ≤ W.N ∧ Tk (K.up 3200) (W.pg (frz W ρ4) ((S + 1) * 1000000 + W.N)) true k 1 σ3 ρ4 ∧ ρ4.1 48 1 = nI 0 ∧ (∀ c j, c ≠ 0 → ¬ S1 c j → ρ4.1 c j = ρ.1 c j) ∧ (∀ j, j ≠ 79 → ρ4.1 0 j = ρ.1 0 j) ∧ ρ4.2 = ρ.2 := by
  have C := h.cf
  have np8 := C.np.1
  have hcf := C.cf
  obtain ⟨mk, ef, hmk⟩ := c_flow C hp
  have sk : ∀ q, ∃ z : Nat × Nat × Nat × Nat, q < W.np → (z.1 < W.N ∧ ρ.1 38 q = nI z.1 ∧ σ.2.2.1 (83 + 12 * q) 15 = some (W.tm z.1) ∧ ρ.1 3 z.1 = nI z.2.2.1 ∧ ρ.1 2 z.1 = nI z.2.1 ∧ z.2.1 + z.2.2.1 ≤ 690000 ∧ z.2.2.1 ≤ W.sz q ∧ σ.2.2.1 (W.tm z.1) 6 = some z.2.2.2 ∧ 324 < z.2.2.2 ∧ (σ.2.2.2.1 z.2.2.2).2 = z.2.2.1 ∧ ∀ j, j < z.2.2.1 → σ.1 z.2.2.2 j = ρ.1 12 (z.2.1 + j)) := fun q => by
    by_cases hq : q < W.np
    · obtain ⟨z, hz⟩ := im_of h hq
      exact ⟨z, fun _ => hz⟩
    · exact ⟨(0, 0, 0, 0), fun w => absurd w hq⟩
  obtain ⟨z, hz⟩ := Classical.skolem.mp sk
  have sk2 : ∀ q, ∃ m, q < W.np → (m ≤ 100 ∧ ρ.1 43 q = nI m ∧ σ.1 (83 + 12 * q) 12 = nI m ∧ (∀ i, i < m → TV W (σ.2.2.1 (91 + 12 * q) i) (ρ.1 42 (100 * q + i))) ∧ (∀ i, i < m → ∃ a, a ∈ W.ts ∧ σ.2.2.1 (91 + 12 * q) i = some a) ∧ (∀ i j, i < j → j < m → σ.2.2.1 (91 + 12 * q) i ≠ σ.2.2.1 (91 + 12 * q) j)) := fun q => by
    by_cases hq : q < W.np
    · obtain ⟨m, hm⟩ := se_of h hq
      exact ⟨m, fun _ => hm⟩
    · exact ⟨0, fun w => absurd w hq⟩
  obtain ⟨sh, hsh⟩ := Classical.skolem.mp sk2
  have lo : ∀ a, pt W.ts a → (30 < a ∧ a < 38) ∨ 324 < a := by
    intro a ha
    rcases ha with rfl | ha
    · omega
    · have := h.T.C.mem a ha; omega
  have N2 := h.T.Q.n.2
  obtain ⟨σ3, ec, B⟩ := c_again (W := W) (fl := flR W p 8) (im := fun q => W.tm (z q).1) (w := fun q => (z q).2.2.2) (len := fun q => (z q).2.2.1) (sh := sh) (mk := mk) h.st C h.m0.cp hmk (fun q hq => by
    obtain ⟨a1, a2, a3, a4, a5, a6, a7, a8, a9, a10, a11⟩ := hz q hq
    obtain ⟨b1, b2, b3, b4, b5, b6⟩ := hsh q hq
    obtain ⟨c1, c2, c3, c4, c5, c6, c7, c8⟩ := C.pa q hq
    exact ⟨a3, lo _ (Or.inr (h.T.L.inm _ a1)), a8, a9, a10, Nat.le_trans a7 c1.2.1, b1, b3, c1.2.2.2.2, c5, c7⟩)
  obtain ⟨ρ4, er, Q⟩ := q_again (W := W) (σ := σ) (ρ := ρ) (p := p) (len := fun q => (z q).2.2.1) (st := fun q => (z q).2.1) (tq := fun q => (z q).1) (Nat.lt_of_le_of_lt (Nat.zero_le _) hp) C (by omega) (fun q hq => (hz q hq).2.2.2.2.2.2.1) (fun q hq => by
    obtain ⟨a1, a2, a3, a4, a5, a6, a7, a8, a9, a10, a11⟩ := hz q hq
    exact ⟨by omega, a2, a4, a5, a6⟩)
  obtain ⟨S, eS, hS, hsec⟩ := h.T.Q.sec
  have fo := fun c (hc : c ≠ 0) (h1 : c < 48 ∨ 75 < c) => Fz.o (ρ := ρ) (ρ' := ρ4) Q.o c hc h1
  have sm : SmT σ σ3 := ⟨fun a ha => ⟨B.I a (by omega) (by omega) (by omega), B.R a (by omega)⟩, B.T⟩
  have G : TGo W W σ σ3 := ⟨Wd.le.refl W, fun a ha j _ => by rw [(sm.r a (lo a ha)).1], fun a ha j _ _ => by rw [(sm.r a (lo a ha)).2], h.T.L.inm, fun b _ => by rw [sm.t], by rw [sm.t]; exact Nat.le_refl _⟩
  have T4 : TermR W.n0 σ3 ρ4 W.ts W.tm W.N := h.T.sm sm (fun c h1 h2 => fo c (by omega) (by omega)) (fun j hj => Q.f j (by omega))
  have T5 : TermR ((S + 1) * 1000000 + W.N) σ3 ρ4 W.ts W.tm W.N := by
    obtain ⟨C4, Q4, L4, k4, J1, J2, J3⟩ := T4
    have nb : nbd ((S + 1) * 1000000 + W.N) = W.N := by unfold nbd; omega
    refine ⟨C4, Q4, L4, k4, J1, J2, ⟨fun t a b => by rw [nb] at a; omega, fun _ => ⟨by rw [nb]; exact Nat.le_refl _, fun t a e => ?_⟩⟩⟩
    rw [nb] at a
    rw [fo 1 (by decide) (by omega)] at e
    obtain ⟨i, hi, e2⟩ := hsec t a e
    exact ⟨i, by omega, by rw [fo 2 (by decide) (by omega)]; exact e2⟩
  have S3 : Stc σ3 := by
    refine h.st.fr (B.R 19 (by omega)) (fun s hs => ?_) (fun d hd => by rw [B.T]) (fun s q hs hq => ?_) (by have := B.m 2; rw [if_neg (by decide), if_neg (by decide)] at this; exact this.trans h.st.re)
    · have s01 : s = 0 ∨ s = 1 := by omega
      rcases s01 with rfl | rfl
      · exact ⟨B.R _ (by omega), B.R _ (by omega), by rw [B.R _ (by omega)]⟩
      · refine ⟨B.R _ (by omega), B.R _ (by omega), ?_⟩
        have := B.rm 1
        rw [if_neg (by decide)] at this
        exact this
    · have s01 : s = 0 ∨ s = 1 := by omega
      rcases s01 with rfl | rfl
      · exact ⟨by rw [B.I _ (by omega) (by omega) (by omega)], fun j _ => by rw [B.I _ (by omega) (by omega) (by omega)]⟩
      · rw [show 83 + 135 * 1 + 12 * q = 218 + 12 * q by omega, show 92 + 135 * 1 + 12 * q = 227 + 12 * q by omega]
        by_cases c : q < W.np
        · exact ⟨by rw [B.r218 q c, if_neg (by decide), if_neg (by decide)], fun j hj => by rw [B.r227 q c, if_neg (by omega)]⟩
        · have g1 := B.po q 0 hq (by omega) (by omega)
          have g2 := B.po q 9 hq (by omega) (by omega)
          rw [Nat.add_zero] at g1
          rw [show 218 + 12 * q + 9 = 227 + 12 * q by omega] at g2
          exact ⟨by rw [g1], fun j _ => by rw [g2]⟩
  have C3 : CfgR W σ3 ρ4 := C.fr (Wd.le.refl W) (fun i hi => B.I _ (by omega) (by omega) (by omega)) (fun c h1 h2 => fo c (by omega) (by omega)) (fun j hj => Q.f j (by omega))
  have nS : ∀ c j, (c = 71 ∧ j < 256) ∨ ((c = 72 ∨ c = 73) ∧ j < 16) ∨ ((c = 74 ∨ c = 75) ∧ j < 64) ∨ (47 < c ∧ c < 52 ∧ j = 0) ∨ ((c = 61 ∨ c = 69) ∧ j < 8) → ¬ S1 c j := fun c j hc w => by
    unfold S1 at w
    rcases w with w | w | w | w | w | w | w | w | w | w <;> omega
  have M0 : MRel W 0 σ3 ρ4 := h.m0.fr (Wd.le.refl W) (by omega) (fun q hq => (h.m0.pr q hq).fr G (fun i hi => B.I _ (by omega) (by omega) (by omega)) (fun i hi => B.R _ (by omega)) (fun c j w => by
      obtain ⟨w1, w2⟩ := seg_S0 C hq w
      exact Q.o c j w1 w2)) (fun j _ => by rw [B.I _ (by omega) (by omega) (by omega)]) (fun e => absurd e (by omega)) (by rw [B.R _ (by omega)]) (fun a h1 h2 => ⟨B.I _ (by omega) (by omega) (by omega), B.R _ (by omega)⟩) (B.I _ (by omega) (by omega) (by omega)) (B.R _ (by omega)) (fun c h1 h2 => Q.o c 0 (by omega) (nS c 0 (by omega))) (fun _ => Q.f 54 (by decide)) (fun j h1 h2 => Q.o 71 j (by decide) (nS 71 j (by omega))) (fun c j hc h1 h2 => Q.o c j (by omega) (nS c j (by omega))) (fun c j hc h1 h2 => Q.o c j (by omega) (nS c j (by omega)))
  have OB : OthB W k σ3 ρ4 := h.oB.fr G (B.I 0 (by omega) (by omega) (by omega)) (B.R 0 (by omega)) (fun d hd => B.I d (by omega) (by omega) (by omega)) (fun j _ => by rw [B.I 47 (by omega) (by omega) (by omega)]) (fun d hd => B.R d (by omega)) (fun c hc => fo c (by omega) (by omega)) (fun j hj => Q.f j (by omega)) (by rw [Q.o 48 0 (by decide) (nS 48 0 (by omega))]; exact Nat.le_refl _)
  have M1 : MRel W 1 σ3 ρ4 := by
    have z9 : ∀ j, (8 < j ∧ j < 14) → σ3.1 179 j = 0 := fun j hj => by rw [B.m j, if_neg (by omega), if_pos (by omega)]
    refine ⟨fun q hq => ?_, ?_, ?_, ⟨0, by omega, z9 9 (by omega), Q.t 48 (by omega) (by omega)⟩, ⟨0, 0, by omega, by omega, z9 10 (by omega), Q.t 49 (by omega) (by omega), z9 11 (by omega), Q.t 50 (by omega) (by omega), fun hn => ⟨C.ns.2.1 hn, (C.sl 0 (C.ns.2.1 hn)).1.2.1⟩⟩, ?_, ⟨0, by omega, z9 13 (by omega), fun e => absurd e (by omega), fun _ => rfl⟩, fun c i hc hi => ?_, fun c hc => ?_, fun c hc _ => ?_, fun j hj => ?_, fun _ => ?_⟩
    · have q8 : q < 8 := by omega
      obtain ⟨a1, a2, a3, a4, a5, a6, a7, a8, a9, a10, a11⟩ := hz q hq
      obtain ⟨b1, b2, b3, b4, b5, b6⟩ := hsh q hq
      have pi := S3.pi 1 q (by omega) q8
      rw [show 83 + 135 * 1 + 12 * q = 218 + 12 * q by omega, show 92 + 135 * 1 + 12 * q = 227 + 12 * q by omega] at pi
      obtain ⟨r1, r2⟩ := B.r219 q hq
      refine pr_again (m := sh q) q8 pi r1 (fun j h1 h2 h3 => by rw [r2 j h1 h2, if_neg (by omega)]) ?_ (B.r221 q hq) (fun j hj => by rw [B.r218 q hq j, if_neg (by omega), if_pos (by omega)]) (by rw [B.r218 q hq 12, if_pos rfl]) (by rw [B.r227 q hq 5, if_pos rfl]) (B.r229 q hq) (fun c hc h5 => Q.n c q hc h5 q8) (fun r hr => Q.rg q r q8 hr) (by rw [fo 43 (by decide) (by omega)]; exact b2) b1 (fun i hi => by rw [B.sc q hq i hi, fo 42 (by decide) (by omega)]; exact b4 i hi) (fun i hi => by rw [B.sc q hq i hi]; exact b5 i hi) (fun i j hij hj => by rw [B.sc q hq i (by omega), B.sc q hq j hj]; exact b6 i j hij hj) (fun i hi => ?_) ?_
      · rw [r2 7 (by omega) (by omega), Q.h q q8]
        by_cases c : flR W p 8 q = false
        · rw [if_pos ⟨rfl, c⟩, if_pos ⟨hq, c⟩]
        · rw [if_neg (fun w => c w.2), if_neg (fun w => c w.2)]
      · have c1 := (C.pa q hq).1
        rw [B.r220 q hq i (by omega), Q.me q i hq hi]
        by_cases c : i < (z q).2.2.1
        · rw [if_pos c, if_pos c]; exact a11 i c
        · rw [if_neg c, if_neg c]
      · have m0 := (M0.pr q hq).ms
        have rr : ∀ j, j = 15 ∨ j = 16 ∨ j = 17 → σ3.2.2.1 (83 + 135 * 1 + 12 * q) j = σ3.2.2.1 (83 + 135 * 0 + 12 * q) j := fun j hj => by
          rw [show 83 + 135 * 1 + 12 * q = 218 + 12 * q by omega, show 83 + 135 * 0 + 12 * q = 83 + 12 * q by omega, B.rp q hq j hj, B.R _ (by omega)]
        obtain ⟨i1, i2, i3⟩ := m0
        refine ⟨?_, ?_, ?_⟩
        · rw [rr 15 (by omega)]; exact i1
        · rw [rr 16 (by omega)]; exact i2
        · rw [rr 16 (by omega), rr 17 (by omega)]; exact i3
    · have := B.rm 3
      rw [if_pos rfl] at this
      exact this
    · have := B.m 2
      rw [if_neg (by decide), if_neg (by decide)] at this
      exact this.trans h.st.re
    · show σ3.1 179 12 = ρ4.1 51 1
      rw [z9 12 (by omega), Q.t 51 (by omega) (by omega)]
    · rw [show 61 + 135 * 1 + c = 196 + c by omega, B.sn c i hc hi]
      exact (Q.sn c i hc hi).symm
    · obtain ⟨c1, c2⟩ := Q.ch c hc
      rw [show 77 + 135 * 1 = 212 by omega, B.ur c hc, show 16 * 1 + c = 16 + c by omega, c1]
      exact ⟨rfl, Or.inl rfl⟩
    · obtain ⟨c1, c2⟩ := Q.ch c hc
      rw [show 78 + 135 * 1 = 213 by omega, B.st c hc, show 16 * 1 + c = 16 + c by omega, c2]
      exact Or.inl ⟨h.T.C.tms.2.2.1, rfl⟩
    · rw [show 42 + 139 * 1 = 181 by omega, show 43 + 139 * 1 = 182 by omega, show 64 * 1 + j = 64 + j by omega]
      by_cases c : Emp W (flR W p 8) W.np j
      · obtain ⟨c1, c2⟩ := B.d1 j c
        obtain ⟨c3, c4⟩ := Q.d1 j hj c
        rw [c1, c2, c3, c4]
        exact ⟨rfl, Or.inl ⟨rfl, rfl⟩, fun _ => rfl⟩
      · obtain ⟨c1, c2⟩ := B.d0 j hj c
        obtain ⟨c3, c4⟩ := Q.d0 j hj c
        rw [c1, c2, c3, c4]
        exact h.oB.d0 j hj (Nat.lt_of_le_of_lt (Nat.zero_le _) hp)
    · have := B.m 8
      rw [if_pos rfl] at this
      exact this
  have p0 : phi 0 ρ4 = phi 0 ρ := phi_cg (fun g hg => Q.o 61 _ (by decide) (nS 61 _ (by omega))) (fun g hg => Q.o 69 _ (by decide) (nS 69 _ (by omega)))
  have p1 : phi 1 ρ4 = 3200 := phi_one (fun q hq => Q.n 61 q (by unfold cnr; omega) (by decide) hq) (fun q hq => Q.n 69 q (by unfold cnr; omega) (by decide) hq)
  have BD : Bud (K.up 3200) (W.pg (frz W ρ4) ((S + 1) * 1000000 + W.N)) true σ3 ρ4 := by
    obtain ⟨b1, b2, b3, b4⟩ := h.bd
    rw [if_neg (by decide)] at b1 b2
    refine ⟨?_, ?_, ?_, ?_⟩
    · rw [p0, p1, if_pos rfl]
      show W.N + phi 0 ρ + 3200 ≤ K.kn + 3200
      omega
    · rw [p0, p1, if_pos rfl]
      show W.ts.length + phi 0 ρ + 3200 ≤ K.kl + 3200
      omega
    · rw [B.T]; exact b3
    · rw [B.T]; exact b4
  refine ⟨mk, σ3, ρ4, S, ef, hmk, ec, er, eS, hS, ⟨⟨T5, S3, C3.pg (fun c hc => by unfold frz; rw [if_pos (by omega)]), M0.pg, fun _ => M1.pg, h.oA.fr (fun d hd => B.I d (by omega) (by omega) (by omega)) (fun c h1 h2 => fo c (by omega) (by omega)) (fun j hj => Q.f j (by omega)), OB.pg, BD, fun e => absurd e (by decide), h.nm.fr (by rw [B.L]) (by rw [Q.l]) (fo 14 (by decide) (by omega)) (fo 15 (by decide) (by omega)), fun _ => frz_ok⟩, Or.inr ⟨rfl, rfl⟩, Nat.lt_of_le_of_lt (Nat.zero_le _) hp, Q.sd, M1.on rfl, fun e => absurd e (by decide)⟩, Q.t 48 (by omega) (by omega), Q.o, Q.f, Q.l⟩
end Z2_DA
