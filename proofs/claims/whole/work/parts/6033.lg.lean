section Z2_LG
variable {K : Bd} {W W' : Wd} {b : Bool} {k s p : Nat} {σ σ' : cl_S} {ρ ρ' : rf_S}
theorem Ak.mach {K' : Bd} (h : Ak K W b k s p σ ρ) (F : Fr (mrw s) (mpl b s) (scm s) W W σ σ' ρ ρ') (M' : MRel W s σ' ρ') (O' : OthB W k σ' ρ') (h3 : σ'.2.2.1 (47 + 132 * s) 1 = σ.2.2.1 (47 + 132 * s) 1) (T' : TermR W.n0 σ' ρ' W.ts W.tm W.N) (B' : Bud K' W b σ' ρ') (hf : ∀ j, j = 79 ∨ j = 108 ∨ j = 118 ∨ j = 119 ∨ j = 120 → ρ'.1 0 j = ρ.1 0 j) (on : σ'.1 (47 + 132 * s) 8 = σ.1 (47 + 132 * s) 8) (hx : ∀ p, p < 8 → σ'.1 (83 + 135 * s + 12 * p) 3 = σ.1 (83 + 135 * s + 12 * p) 3 ∧ ∀ j, j = 1 ∨ j = 2 → σ'.1 (92 + 135 * s + 12 * p) j = σ.1 (92 + 135 * s + 12 * p) j) : Ak K' W b k s p σ' ρ' := by
  have s2 := h.s2
  have s01 : s = 0 ∨ s = 1 := by omega
  refine ⟨h.R.mach s2 F M' O' (fun s' hs' => ?_) T' B' hx (fun e => by rcases h.hs with q | q; exact absurd (q.2.symm.trans e) (by decide); exact q.1), h.hs, h.hp, by rw [hf 79 (by omega)]; exact h.sd, by rw [hf 118 (by omega)]; exact h.me, by rw [hf 119 (by omega)]; exact h.at', by rw [hf 120 (by omega)]; exact h.gd, by rw [hf 108 (by omega)]; exact h.pw, by rw [on]; exact h.on, by rw [F.f 52 (by unfold scm scr; omega), F.f 18 (by unfold scm scr; omega)]; exact h.bk⟩
  by_cases q : s' = s
  · subst q; exact h3
  · have s01' : s' = 0 ∨ s' = 1 := by omega
    rw [F.R _ (by unfold mrw; omega) (by omega) (by omega)]
/-- the terms of a seal -/
theorem seal_terms (v : KV K) (h : Ak K W b k s p σ ρ) {t : Nat} (ht : t < W.N) (x vv : Int32) :
    ∃ (W' : Wd) (σ1 σ2 σ3 σ4 : cl_S) (ρ1 ρ2 ρ3 ρ4 ρ5 : rf_S) (u1 u2 : Option Nat) (u3 : Option Nat) (n1 n2 n3 n4 : Int32) (t8 : Nat), fc_X10_numberTerm 31 x σ = some (u1, σ1) ∧ fc_X10_numberTerm 31 vv σ1 = some (u2, σ2) ∧ fc_X10_made 31 (3:Int32) u1 u2 (some 33) σ2 = some (u3, σ3) ∧ σ2.2.2.1 31 4 = some 33 ∧ fc_X10_made 31 (8:Int32) (σ3.2.2.1 (83 + 135 * s + 12 * p) 17) u3 (some (W.tm t)) σ3 = some (some (W'.tm t8), σ4) ∧
      fq_term (0:Int32) x (0:Int32) (0:Int32) ρ = some (n1, ρ1) ∧ fq_term (0:Int32) vv (0:Int32) (0:Int32) ρ1 = some (n2, ρ2) ∧ fq_term (3:Int32) n1 n2 (0:Int32) ρ2 = some (n3, ρ3) ∧ ρ3.1 0 118 = nI p ∧ fq_term (9:Int32) (ρ3.1 0 19) (ρ3.1 39 p) (0:Int32) ρ3 = some (n4, ρ4) ∧ fq_of (σ.1 (86 + 135 * s + 12 * p) 2) ρ4 = fq_of (σ.1 (86 + 135 * s + 12 * p) 2) ρ4 ∧ QFr ρ ρ4 ∧ fq_term (8:Int32) n4 n3 (nI t) ρ4 = some (nI t8, ρ5) ∧
      t8 < W'.N ∧ W.le W' ∧ Ak (K.up 5) W' b k s p σ4 ρ5 ∧ Kp s p ρ ρ5 ∧ (∀ a, (a < 31 ∨ 37 < a) → a < 325 → σ4.1 a = σ.1 a ∧ σ4.2.2.1 a = σ.2.2.1 a) ∧ QFr ρ ρ5 := by
  have s2 := h.s2
  have p8 := h.p8
  obtain ⟨r1, r2, r3⟩ := h.room v
  have up : ∀ (e : Nat) (W1 : Wd) (τ : cl_S) (τq : rf_S) (W2 : Wd) (τ' : cl_S) (τq' : rf_S), Ak (K.up e) W1 b k s p τ τq → TFr τ τ' W1.ts W2.ts 0 0 → QFr τq τq' → W1.le W2 → TermR W2.n0 τ' τq' W2.ts W2.tm W2.N → W2.N ≤ W1.N + 1 → W2.ts.length ≤ W1.ts.length + 1 → Ak (K.up (e + 1)) W2 b k s p τ' τq' := by
    intro e W1 τ τq W2 τ' τq' hA F Q le T h1 h2
    exact hA.terms F Q le T (show W2.N + (K.kn + e) ≤ W1.N + (K.kn + (e + 1)) by omega) (show W2.ts.length + (K.kl + e) ≤ W1.ts.length + (K.kl + (e + 1)) by omega) (Nat.le_refl _) (Nat.le_refl _)
  have rm : ∀ (e : Nat) (W1 : Wd) (τ : cl_S) (τq : rf_S), e < 6 → Ak (K.up e) W1 b k s p τ τq → W1.N < 112000 ∧ 1 ≤ τ.2.2.2.2.2.1 ∧ 16 ≤ τ.2.2.2.2.2.2 := by
    intro e W1 τ τq he hA
    have b1 := hA.R.bd.n
    have b2 := hA.R.bd.l
    have b3 := hA.R.bd.c
    have b4 := hA.R.bd.s
    have u1 : (K.up e).kn = K.kn + e := rfl
    have u2 : (K.up e).kl = K.kl + e := rfl
    have u3 : (K.up e).kc = K.kc := rfl
    have u4 : (K.up e).ks = K.ks := rfl
    unfold KV at v
    omega
  have wle : ∀ (W1 : Wd) (ts : List Nat) (tm : Nat → Nat) (N : Nat), (∀ a ∈ W1.ts, a ∈ ts) → (∀ t, t < W1.N → tm t = W1.tm t) → W1.N ≤ N → W1.le (ts, tm, N, W1.2.2.2) := fun W1 ts tm N h1 h2 h3 => ⟨h1, h2, h3, rfl, rfl, rfl, rfl, rfl, rfl, rfl, rfl, rfl, rfl, rfl, rfl, rfl, rfl⟩
  have h0 : Ak (K.up 0) W b k s p σ ρ := h
  -- the numbers
  obtain ⟨m1, m2, m3⟩ := rm 0 W σ ρ (by omega) h0
  obtain ⟨σ1, ρ1, ts1, tm1, N1, t1, a1, a2, a3, a4, a5, a6, a7, F1, Q1, T1⟩ := t_number x h.R.T m1 m2 m3
  have le1 := wle W ts1 tm1 N1 F1.sub a7 a4
  have h1 : Ak (K.up 1) (ts1, tm1, N1, W.2.2.2) b k s p σ1 ρ1 := up 0 W σ ρ _ σ1 ρ1 h0 F1 Q1 le1 T1 a5 a6
  obtain ⟨m1, m2, m3⟩ := rm 1 _ σ1 ρ1 (by omega) h1
  obtain ⟨σ2, ρ2, ts2, tm2, N2, t2, b1, b2, b3, b4, b5, b6, b7, F2, Q2, T2⟩ := t_number vv h1.R.T m1 m2 m3
  have le2 := wle (ts1, tm1, N1, W.2.2.2) ts2 tm2 N2 F2.sub b7 b4
  have h2 : Ak (K.up 2) (ts2, tm2, N2, W.2.2.2) b k s p σ2 ρ2 := up 1 _ σ1 ρ1 _ σ2 ρ2 h1 F2 Q2 le2 T2 b5 b6
  obtain ⟨m1, m2, m3⟩ := rm 2 _ σ2 ρ2 (by omega) h2
  -- the pair
  have N12 : N1 ≤ N2 := b4
  have arg3 : argR tm2 N2 3 0 (tm1 t1) (tm2 t2) 33 (nI t1) (nI t2) 0 := by
    unfold argR
    rw [if_neg (by omega), if_neg (by omega), if_neg (by omega)]
    exact ⟨rfl, ⟨t1, by omega, rfl, (b7 t1 a3).symm⟩, ⟨t2, b3, rfl, rfl⟩, rfl, rfl⟩
  obtain ⟨σ3, ρ3, ts3, tm3, N3, t3, c1, c2, c3, c4, c5, c6, c7, F3, Q3, T3⟩ := t_made h2.R.T (k := 3) (by omega) (by omega) arg3 m1 m2 m3
  have le3 := wle (ts2, tm2, N2, W.2.2.2) ts3 tm3 N3 F3.sub c7 c4
  have h3 : Ak (K.up 3) (ts3, tm3, N3, W.2.2.2) b k s p σ3 ρ3 := up 2 _ σ2 ρ2 _ σ3 ρ3 h2 F3 Q3 le3 T3 c5 c6
  obtain ⟨m1, m2, m3⟩ := rm 3 _ σ3 ρ3 (by omega) h3
  -- the key: the class has it
  obtain ⟨mt, hmt, em1, em2⟩ := h3.P.ms.ms
  obtain ⟨sk, s1, s3, s4, s5, s6⟩ := h3.P.ms.sk
  rw [em2] at s6
  obtain ⟨k1, k2, -, -, kd0, -, -⟩ := h3.R.T.k0
  have hN3 := h3.R.T.Q.n.2
  have arg9 : argR tm3 N3 9 0 34 (tm3 mt) 33 (nI 0) (nI mt) 0 := by
    unfold argR
    rw [if_neg (by omega), if_neg (by omega), if_neg (by omega)]
    exact ⟨rfl, ⟨0, by omega, rfl, k2.symm⟩, ⟨mt, hmt, rfl, rfl⟩, rfl, rfl⟩
  have skey : kyI σ3 sk (nI 9) 0 (some 34) (some (tm3 mt)) (some 33) := by
    obtain ⟨kd, hk, ek, hs, hn⟩ := h3.R.T.C.kd sk s1
    have : kd = 9 := (n_eq (by omega) (by omega)).mp (ek.symm.trans s4)
    subst this
    unfold shp at hs
    rw [if_neg (by omega), if_neg (by omega), if_neg (by omega)] at hs
    exact ⟨s4, hn (by omega), s5, s6, hs.2.2⟩
  have skU : ∀ d, d ∈ ts3 → kyI σ3 d (nI 9) 0 (some 34) (some (tm3 mt)) (some 33) → d = sk := by
    intro d hd hq
    exact h3.R.T.C.uq d hd sk s1 (by rw [hq.1]; decide) ⟨hq.1.trans skey.1.symm, hq.2.1.trans skey.2.1.symm, hq.2.2.1.trans skey.2.2.1.symm, hq.2.2.2.1.trans skey.2.2.2.1.symm, hq.2.2.2.2.trans skey.2.2.2.2.symm⟩
  obtain ⟨tm4, N4, ρ4, t4, d1, d2, d3, d4, d5, d6, d7, d8⟩ : ∃ (tm4 : Nat → Nat) (N4 : Nat) (ρ4 : rf_S) (t4 : Nat), fq_term (9:Int32) (nI 0) (nI mt) (0:Int32) ρ3 = some (nI t4, ρ4) ∧ t4 < N4 ∧ tm4 t4 = sk ∧ N3 ≤ N4 ∧ N4 ≤ N3 + 1 ∧ (∀ u, u < N3 → tm4 u = tm3 u) ∧ QFr ρ3 ρ4 ∧ TermR W.n0 σ3 ρ4 ts3 tm4 N4 := by
    rcases t_find h3.R.T.C.toCSt0 h3.R.T.Q.toRSt0 h3.R.T.L (k := 9) (by omega) (by omega) (by omega) arg9 with ⟨u, hu, hq, f1, f2⟩ | ⟨w, hw, f2, hnq, f3⟩
    · have hky := (t_key h3.R.T.C.toCSt0 h3.R.T.Q.toRSt0 h3.R.T.L (k := 9) (by omega) (by omega) (by omega) arg9 hu).mp hq
      exact ⟨tm3, N3, ρ3, u, q_term_f (by omega) f2, hu, skU _ (h3.R.T.L.inm u hu) hky, Nat.le_refl _, by omega, fun _ _ => rfl, QFr.refl _, h3.R.T⟩
    · rcases t_mk h3.R.T (k := 9) (by omega) (by omega) (by omega) arg9 with ⟨u, hu, -, g2⟩ | ⟨w', hw', g2, ⟨e, he, h33, hni, ge, add⟩ | ⟨ge, add⟩⟩
      · exfalso
        rw [f2] at g2
        have := Option.some.inj g2
        rw [Prod.mk.injEq] at this
        rw [this.1] at hw
        have hu' : u < N3 := hu
        exact n_nneg (by omega) hw
      · obtain ⟨ρ', ga, gF, gT⟩ := add m1
        have he' : e = sk := by
          rcases c_find h3.R.T.C.toCSt0 (nI 9) 0 34 (tm3 mt) 33 with ⟨d, hd, hq, ed⟩ | ⟨hno, -⟩
          · have ed' : some (some e, σ3) = some (some d, σ3) := ge.symm.trans ed
            have := Option.some.inj ed'
            rw [Prod.mk.injEq] at this
            rw [Option.some.inj this.1]
            exact skU d hd hq
          · exact absurd skey (hno sk s1)
        exact ⟨va_up tm3 N3 e, N3 + 1, ρ', N3, q_term_a hw' g2 ga, Nat.lt_succ_self _, by rw [up_s]; exact he', Nat.le_succ _, Nat.le_refl _, fun u hu => up_n (by omega), gF, gT⟩
      · exfalso
        rcases c_find h3.R.T.C.toCSt0 (nI 9) 0 34 (tm3 mt) 33 with ⟨d, hd, hq, ed⟩ | ⟨hno, -⟩
        · have ed' : some (some 33, σ3) = some (some d, σ3) := ge.symm.trans ed
          have := Option.some.inj ed'
          rw [Prod.mk.injEq] at this
          have q2 := Option.some.inj this.1
          have := h3.R.T.C.mem d hd
          omega
        · exact absurd skey (hno sk s1)
  have le4 := wle (ts3, tm3, N3, W.2.2.2) ts3 tm4 N4 (fun _ q => q) d6 d4
  have h4 : Ak (K.up 4) (ts3, tm4, N4, W.2.2.2) b k s p σ3 ρ4 := up 3 _ σ3 ρ3 _ σ3 ρ4 h3 (TFr.refl _ _) d7 le4 d8 d5 (Nat.le_succ _)
  obtain ⟨m1, m2, m3⟩ := rm 4 _ σ3 ρ4 (by omega) h4
  -- what is closed
  have tle : W.le (ts3, tm4, N4, W.2.2.2) := le1.trans (le2.trans (le3.trans le4))
  have N34 : N3 ≤ N4 := d4
  have arg8 : argR tm4 N4 8 0 sk (tm3 t3) (W.tm t) (nI t4) (nI t3) (nI t) := by
    unfold argR
    rw [if_neg (by omega), if_neg (by omega), if_pos rfl]
    exact ⟨rfl, ⟨t4, d2, rfl, d3.symm⟩, ⟨t3, by omega, rfl, (d6 t3 c3).symm⟩, t, Nat.lt_of_lt_of_le ht tle.N, rfl, (tle.tm t ht).symm⟩
  obtain ⟨σ4, ρ5, ts5, tm5, N5, t8, e1, e2, e3, e4, e5, e6, e7, F5, Q5, T5⟩ := t_made h4.R.T (k := 8) (by omega) (by omega) arg8 m1 m2 m3
  have le5 := wle (ts3, tm4, N4, W.2.2.2) ts5 tm5 N5 F5.sub e7 e4
  have h5 : Ak (K.up 5) (ts5, tm5, N5, W.2.2.2) b k s p σ4 ρ5 := up 4 _ σ3 ρ4 _ σ4 ρ5 h4 F5 Q5 le5 T5 e5 e6
  have QA : QFr ρ ρ4 := Q1.trans (Q2.trans (Q3.trans d7))
  have QB := QA.trans Q5
  refine ⟨(ts5, tm5, N5, W.2.2.2), σ1, σ2, σ3, σ4, ρ1, ρ2, ρ3, ρ4, ρ5, some (tm1 t1), some (tm2 t2), some (tm3 t3), nI t1, nI t2, nI t3, nI t4, t8, a1, b1, c1, h2.R.T.C.tms.2.2.1, by rw [s3]; exact e1, a2, b2, c2, h3.me, by rw [kd0, em1]; exact d1, rfl, QA, e2, e3, tle.trans le5, h5, QB.kp, ?_, QB⟩
  intro a q1 q2
  exact ⟨by rw [F5.I a q1 q2, F3.I a q1 q2, F2.I a q1 q2, F1.I a q1 q2], by rw [F5.R a q1 q2, F3.R a q1 q2, F2.R a q1 q2, F1.R a q1 q2]⟩
end Z2_LG
