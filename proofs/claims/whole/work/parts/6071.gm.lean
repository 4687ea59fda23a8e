section Z2_GM
variable {K : Bd} {W W' : Wd} {b : Bool} {k s p : Nat} {σ σ' : cl_S} {ρ ρ' : rf_S}
variable {X Y Z : Nat → Prop} {ts ts' ts'' : List Nat} {tm tm' tm'' : Nat → Nat} {N N' N'' n0 : Nat}
/-- writes to the machine's rows, as a step -/
theorem Msp.wr (T : TermR n0 σ ρ ts tm N) (hX : ∀ b, ¬ X b → σ'.1 b = σ.1 b) (hY : ∀ b, ¬ Y b → σ'.2.2.1 b = σ.2.2.1 b) (hL : σ'.2.1 = σ.2.1) (hT : σ'.2.2.2 = σ.2.2.2) (x1 : ∀ b, X b → 37 < b ∧ b < 325) (y1 : ∀ b, Y b → 37 < b ∧ b < 325) (hq : ∀ c, c ≠ 38 → c ≠ 39 → ρ'.1 c = ρ.1 c) (hz : ∀ c j, c = 38 ∨ c = 39 → ¬ Z j → ρ'.1 c j = ρ.1 c j) (hl : ρ'.2 = ρ.2) : Msp X Y Z n0 σ ρ ts tm N σ' ρ' ts tm N 0 0 0 0 0 := by
  refine ⟨Nat.le_refl _, by omega, by omega, fun _ _ => rfl, MsF.wr hX hY hL hT x1 y1 T.C.toCSt0, fun c _ a1 a2 => hq c a1 a2, hz, hl, fun j _ _ _ _ _ _ _ => by rw [hq 0 (by decide) (by decide)], fun E hE => ⟨E, by rw [hq 0 (by decide) (by decide)]; exact hE, by omega⟩, T.sm ⟨fun b hb => ⟨hX b (fun q => by have := x1 b q; omega), hY b (fun q => by have := y1 b q; omega)⟩, hT⟩ (fun c h1 h2 => hq c (by omega) (by omega)) (fun j _ => by rw [hq 0 (by decide) (by decide)])⟩
theorem Msp.xt (h1 : ts'.length ≤ ts.length + 1) (F : TFr σ σ' ts ts' 0 0) (T : TermR n0 σ' ρ ts' tm N) : Msp X Y Z n0 σ ρ ts tm N σ' ρ ts' tm N 0 1 0 0 0 := ⟨Nat.le_refl _, by omega, h1, fun _ _ => rfl, F.ms, fun _ _ _ _ => rfl, fun _ _ _ _ => rfl, rfl, fun _ _ _ _ _ _ _ _ => rfl, fun E hE => ⟨E, hE, by omega⟩, T⟩
/-- the class loads an image -/
theorem c_load {a w n : Nat} (hT : (σ.2.2.2.1 w).2 = n) (hn : n ≤ 2048) (hw : w ≠ a + 1) : ∃ σ', fc_X2_load a (some w) σ = some σ' ∧ (∀ b, b ≠ a + 1 → σ'.1 b = σ.1 b) ∧ (∀ j, σ'.1 (a + 1) j = if j < n then σ.1 w j else σ.1 (a + 1) j) ∧ σ'.2 = σ.2 := by
  have mn : (if (2048:Int32) < nI n then (2048:Int32) else nI n) = nI n := if_neg (show ¬ (2048:Int32) < nI n from fun q => by have := (n_lt (a := 2048) (b := n) (by omega) (by omega)).mp q; omega)
  have cg : ∀ {α : Type} (y : Option α), cpg (0:Int32) (0:Int32) (nI n) n 2048 y = y := by
    intro α y
    unfold cpg
    rw [if_neg]
    intro q
    rw [n_cl (show n < 2147483648 by omega), show (0:Int32).toNatClampNeg = 0 from rfl] at q
    rcases q with q | q | q | q | q
    · exact absurd q (by decide)
    · exact absurd q (by decide)
    · exact n_nneg (by omega) q
    · omega
    · omega
  refine ⟨cl_cp σ w (a + 1) (0:Int32) (0:Int32) (nI n), ?_, fun b hb => r_c hb, fun j => ?_, rfl⟩
  · unfold fc_X2_load bc_X2_load_0
    rw [nnn, hT, mn, cg, vln]
  · rw [r_cs, n_cl (show n < 2147483648 by omega), show (0:Int32).toNatClampNeg = 0 from rfl]
    unfold va_cpy
    by_cases c : j < n
    · rw [if_pos (by omega), if_pos c, show 0 + (j - 0) = j by omega]
    · rw [if_neg (by omega), if_neg c]
/-- what is known of a measured partition -/
def Mpt (p n : Nat) (f : Nat → Int32) (σ : cl_S) (ρ : rf_S) (ts : List Nat) (tm : Nat → Nat) (N : Nat) : Prop := (∃ t, t < N ∧ ρ.1 38 p = nI t ∧ σ.2.2.1 (83 + 12 * p) 15 = some (tm t) ∧ σ.1 (tm t) 0 = nI 1 ∧ wdL σ (tm t) n f) ∧ (∃ m, m < N ∧ ρ.1 39 p = nI m ∧ σ.2.2.1 (83 + 12 * p) 16 = some (tm m)) ∧ (∃ a, a ∈ ts ∧ σ.2.2.1 (83 + 12 * p) 17 = some a ∧ σ.1 a 0 = nI 9 ∧ σ.2.2.1 a 3 = some 34 ∧ σ.2.2.1 a 4 = σ.2.2.1 (83 + 12 * p) 16)
theorem Mpt.im {p n : Nat} {f : Nat → Int32} {σ : cl_S} {ρ : rf_S} {ts : List Nat} {tm : Nat → Nat} {N : Nat} (hS : Mpt p n f σ ρ ts tm N) : ∃ t, t < N ∧ ρ.1 38 p = nI t ∧ σ.2.2.1 (83 + 12 * p) 15 = some (tm t) ∧ σ.1 (tm t) 0 = nI 1 ∧ wdL σ (tm t) n f := hS.1
theorem Mpt.ms {p n : Nat} {f : Nat → Int32} {σ : cl_S} {ρ : rf_S} {ts : List Nat} {tm : Nat → Nat} {N : Nat} (hS : Mpt p n f σ ρ ts tm N) : ∃ m, m < N ∧ ρ.1 39 p = nI m ∧ σ.2.2.1 (83 + 12 * p) 16 = some (tm m) := hS.2.1
theorem Mpt.sk {p n : Nat} {f : Nat → Int32} {σ : cl_S} {ρ : rf_S} {ts : List Nat} {tm : Nat → Nat} {N : Nat} (hS : Mpt p n f σ ρ ts tm N) : ∃ a, a ∈ ts ∧ σ.2.2.1 (83 + 12 * p) 17 = some a ∧ σ.1 a 0 = nI 9 ∧ σ.2.2.1 a 3 = some 34 ∧ σ.2.2.1 a 4 = σ.2.2.1 (83 + 12 * p) 16 := hS.2.2
theorem Mpt.go {e g c d r n : Nat} {f : Nat → Int32} (h : Mpt p n f σ ρ ts tm N) (hp : p < 8) (L : TL σ ρ ts tm N) (S : Msp X Y Z n0 σ ρ ts tm N σ' ρ' ts' tm' N' e g c d r) (hY : ¬ Y (83 + 12 * p)) (hZ : ¬ Z p) : Mpt p n f σ' ρ' ts' tm' N' := by
  have e83 : σ'.2.2.1 (83 + 12 * p) = σ.2.2.1 (83 + 12 * p) := S.F.R _ hY (by omega) (by omega)
  refine ⟨?_, ?_, ?_⟩
  · obtain ⟨t, h1, h2, h3, h4, h5⟩ := h.im
    have mt := S.mt t h1
    exact ⟨t, Nat.lt_of_lt_of_le h1 S.nn, by rw [S.qz 38 p (Or.inl rfl) hZ]; exact h2, by rw [e83, mt]; exact h3, by rw [mt, S.F.fI _ (Or.inr (L.inm t h1)) 0 (by omega)]; exact h4, by rw [mt]; exact S.F.wd (L.inm t h1) h5⟩
  · obtain ⟨m, h1, h2, h3⟩ := h.ms
    exact ⟨m, Nat.lt_of_lt_of_le h1 S.nn, by rw [S.qz 39 p (Or.inr rfl) hZ]; exact h2, by rw [e83, S.mt m h1]; exact h3⟩
  · obtain ⟨a, h1, h2, h3, h4, h5⟩ := h.sk
    exact ⟨a, S.F.sub a h1, by rw [e83]; exact h2, by rw [S.F.fI a (Or.inr h1) 0 (by omega)]; exact h3, by rw [S.F.fR a (Or.inr h1) 3 (by omega) (by omega)]; exact h4, by rw [S.F.fR a (Or.inr h1) 4 (by omega) (by omega), e83]; exact h5⟩
theorem ms_one {tb cf np n E : Nat} (T : TermR n0 σ ρ ts tm N) (hn0 : 112000 ≤ n0 ∧ n0 < 1000000) (htb : tb < N) (cp : σ.2.2.1 47 3 = some cf) (c0 : σ.1 cf 0 = nI np) (h55 : ρ.1 0 55 = nI np) (hp : p < np) (hnp : np ≤ 8) (pp : σ.2.2.1 59 p = some (83 + 12 * p)) (kp : σ.2.2.1 19 p = some (20 + p) ∧ σ.2.2.2.1 (20 + p) = (1, 2048)) (hn : n ≤ 2048) (cn : σ.1 30 p = nI n) (qn : ρ.1 27 p = nI n) (w : ∀ j, j < n → σ.1 (20 + p) j = ρ.1 26 (2048 * p + j)) (h18 : ρ.1 0 18 = nI E) (hE : E + n ≤ 690000) (R : Rm σ N 6 8 (112 + n)) :
    ∃ σ' ρ' ts' tm' N' f, lc_X11_startBoot_171 0 (some (tm tb)) (nI p) σ = some (.inl (nI (p + 1), σ')) ∧ lq_measureAll_63 (nI tb) (nI p) ρ = some (.inl (nI (p + 1), ρ')) ∧ Msp (fun b => b = 85 + 12 * p) (fun b => b = 83 + 12 * p) (fun j => j = p) n0 σ ρ ts tm N σ' ρ' ts' tm' N' 6 7 1 n n ∧ Mpt p n f σ' ρ' ts' tm' N' ∧ (∀ j, σ'.1 (85 + 12 * p) j = if j < n then f j else σ.1 (85 + 12 * p) j) := by
  have i8 : ∀ {α : Type} (z : Option α), ix (nI p) 8 z = z := fun z => n_ix (by omega) (by omega)
  have i10 : ∀ {α : Type} (z : Option α), ix (nI p) 10 z = z := fun z => n_ix (by omega) (by omega)
  have ci : (nI p).toNatClampNeg = p := n_cl (by omega)
  have tp := T.C.top
  let Xp : Nat → Prop := fun b => b = 85 + 12 * p
  let Yp : Nat → Prop := fun b => b = 83 + 12 * p
  let Zp : Nat → Prop := fun j => j = p
  have xX : ∀ b, Xp b → 37 < b ∧ b < 325 := fun b (h : b = 85 + 12 * p) => by omega
  have xY : ∀ b, Yp b → 37 < b ∧ b < 325 := fun b (h : b = 83 + 12 * p) => by omega
  -- the image
  obtain ⟨σ1, ρ1, ts1, tm1, N1, t, a1, b1, d1, k1, k3, S1⟩ := ms_row (a0 := 20 + p) (fr := 2048 * p) (n := n) T (by rw [kp.2]) hn (by omega) w (by omega) hn0 h18 hE ⟨by have := R.n; omega, by have := R.c; omega, by have := R.d; omega⟩
  have S1' := S1 Xp Yp Zp
  have R1 := Rm.go (e0 := 1) (g := 1) (c := 1) (d := n) (e1 := 5) (c1 := 6) (d1 := 96) ⟨by have := R.n; omega, by have := R.c; omega, by have := R.d; omega⟩ S1'
  -- its words
  obtain ⟨f, wd1⟩ : ∃ f, wdL σ1 (tm1 t) n f := by
    obtain ⟨E0, -, hE0, kd⟩ := S1'.T.Q.e
    obtain ⟨kk, hk, ek, rs⟩ := kd t d1
    have kk1 : kk = 1 := (n_eq (by omega) (by omega)).mp (ek.symm.trans k1)
    subst kk1
    unfold rsh at rs
    rw [if_neg (by omega), if_pos rfl] at rs
    obtain ⟨o, l, f2, f3, f4, hol, hl⟩ := rs
    exact ⟨_, S1'.T.L.rw t o n d1 k1 f2 k3 (by omega) (by omega)⟩
  have kd1 : σ1.1 (tm1 t) 0 = nI 1 := by rw [S1'.T.L.kd t d1]; exact k1
  -- the class's ref 15, the reference's 38
  have S2 : Msp Xp Yp Zp n0 σ1 ρ1 ts1 tm1 N1 (cl_wr σ1 (83 + 12 * p) 15 (some (tm1 t))) (rf_w ρ1 38 p (nI t)) ts1 tm1 N1 0 0 0 0 0 := Msp.wr S1'.T (fun _ _ => rfl) (fun b hb => r_r hb) rfl rfl xX xY (fun c h1 h2 => q_w h1) (fun c j _ hj => by rw [g_q, if_neg (fun q => hj q.2)]) rfl
  have R2 : Rm (cl_wr σ1 (83 + 12 * p) 15 (some (tm1 t))) N1 5 6 96 := ⟨R1.n, R1.c, R1.d⟩
  have tb1 : tb < N1 := Nat.lt_of_lt_of_le htb S1'.nn
  obtain ⟨σ3, r1, r2, r3, r4, ρ3, v1, v2, v3, v4, ts3, tm3, N3, m, a3, y1, y2, y3, y4, y5, d3, S3⟩ := ms_meas S2.T tb1 d1 ⟨by have := R2.n; omega, by have := R2.c; omega, by have := R2.d; omega⟩ p
  have S3' := S3 Xp Yp Zp
  have R3 := Rm.go (e0 := 5) (g := 5) (c := 0) (d := 0) (e1 := 0) (c1 := 1) (d1 := 16) ⟨by have := R2.n; omega, by have := R2.c; omega, by have := R2.d; omega⟩ S3'
  have S4 : Msp Xp Yp Zp n0 σ3 ρ3 ts3 tm3 N3 (cl_wr σ3 (83 + 12 * p) 16 (some (tm3 m))) (rf_w ρ3 39 p (nI m)) ts3 tm3 N3 0 0 0 0 0 := Msp.wr S3'.T (fun _ _ => rfl) (fun b hb => r_r hb) rfl rfl xX xY (fun c h1 h2 => q_w h2) (fun c j _ hj => by rw [g_q, if_neg (fun q => hj q.2)]) rfl
  obtain ⟨σ5, ts5, a, a5, m5, ka, ra3, ra4, l5, F5, T5⟩ := t_extra S4.T d3 (show 1 ≤ σ3.2.2.2.2.2.1 by have := R3.c; omega) (show 16 ≤ σ3.2.2.2.2.2.2 by have := R3.d; omega)
  have S5 : Msp Xp Yp Zp n0 _ _ _ _ _ _ _ _ _ _ 0 1 0 0 0 := Msp.xt l5 F5 T5
  have S6 : Msp Xp Yp Zp n0 σ5 (rf_w ρ3 39 p (nI m)) ts5 tm3 N3 (cl_wr σ5 (83 + 12 * p) 17 (some a)) (rf_w ρ3 39 p (nI m)) ts5 tm3 N3 0 0 0 0 0 := Msp.wr T5 (fun _ _ => rfl) (fun b hb => r_r hb) rfl rfl xX xY (fun _ _ _ => rfl) (fun _ _ _ _ => rfl) rfl
  have S16 := ((((S1'.trans S2).trans S3').trans S4).trans S5).trans S6
  have S26 := (((S2.trans S3').trans S4).trans S5).trans S6
  have mt : tm3 t = tm1 t := S3'.mt t d1
  have wd6 : wdL (cl_wr σ5 (83 + 12 * p) 17 (some a)) (tm1 t) n f := S26.F.wd (S1'.T.L.inm t d1) wd1
  obtain ⟨w6, g1, g2, g3, g4, g5⟩ := id wd6
  obtain ⟨σ7, e7, o7, v7, c7⟩ := c_load (σ := cl_wr σ5 (83 + 12 * p) 17 (some a)) (a := 83 + 12 * p + 1) (w := w6) (n := n) (by rw [g4]) hn (by omega)
  have a85 : 83 + 12 * p + 1 + 1 = 85 + 12 * p := by omega
  rw [a85] at o7 v7
  have S7 : Msp Xp Yp Zp n0 (cl_wr σ5 (83 + 12 * p) 17 (some a)) (rf_w ρ3 39 p (nI m)) ts5 tm3 N3 σ7 (rf_w ρ3 39 p (nI m)) ts5 tm3 N3 0 0 0 0 0 := Msp.wr S6.T (fun b hb => o7 b hb) (fun b hb => by rw [c7]) (by rw [c7]) (by rw [c7]) xX xY (fun _ _ _ => rfl) (fun _ _ _ _ => rfl) rfl
  have S17 := S16.trans S7
  have S27 := S26.trans S7
  -- refs of the partition
  have h15 : (cl_wr σ5 (83 + 12 * p) 17 (some a)).2.2.1 (83 + 12 * p) 15 = some (tm1 t) := by
    rw [r_rk (by decide), F5.R _ (by omega) (by omega), r_rk (by decide), (S3 (fun _ => False) (fun _ => False) (fun _ => False)).F.R _ (fun q => q) (by omega) (by omega), r_rs]
  have h16 : (cl_wr σ5 (83 + 12 * p) 17 (some a)).2.2.1 (83 + 12 * p) 16 = some (tm3 m) := by
    rw [r_rk (by decide), F5.R _ (by omega) (by omega), r_rs]
  have q38 : (rf_w ρ3 39 p (nI m)).1 38 p = nI t := by
    rw [q_w (by decide), (S3 (fun _ => False) (fun _ => False) (fun _ => False)).qz 38 p (Or.inl rfl) (fun q => q), q_ws]
  refine ⟨σ7, rf_w ρ3 39 p (nI m), ts5, tm3, N3, f, ?_, ?_, ?_, ⟨⟨t, Nat.lt_of_lt_of_le d1 S3'.nn, q38, ?_, ?_, ?_⟩, ⟨m, d3, q_ws, ?_⟩, ⟨a, m5, ?_, ?_, ?_, ?_⟩⟩, fun j => ?_⟩
  · have e47 : 47 + 12 + cl_md 47 = 59 := rfl
    have l31 : (cl_wr σ3 (83 + 12 * p) 16 (some (tm3 m))).2.2.1 31 5 = some 34 := S4.T.C.tms.2.2.2.1
    have l34 : (cl_wr σ3 (83 + 12 * p) 16 (some (tm3 m))).2.2.1 31 4 = some 33 := S4.T.C.tms.2.2.1
    rw [S1'.mt tb htb] at a3
    unfold lc_X11_startBoot_171
    rw [vln, cp, nnn, c0, if_neg (fun q => by have := (n_le (by omega) (by omega)).mp q; omega), i8, vln, e47, ci, pp, i10, vln, kp.1, i10, cn, a1, bd2n, nnn, vln, vln, r_rs, a3, bd2n, vln, vln, vln, vln, l31, r_rs, l34, a5, bd2n, vln, vln, h15, nnn, g1, nnn, e7, bd1n, vln, show nI p + (1:Int32) = nI (p + 1) from n_add p 1]
  · unfold lq_measureAll_63
    rw [h55, if_neg (fun q => by have := (n_le (by omega) (by omega)).mp q; omega), i10, ci, qn, show (2048:Int32) * nI p = nI (2048 * p) from n_mul 2048 p, b1, bd2n, i8, vln, i8, q_ws, y1, bd2n, y2, bd2n, y3, bd2n, y4, bd2n, y5, bd2n, i8, vln, vln, show nI p + (1:Int32) = nI (p + 1) from n_add p 1]
  · exact ⟨S17.nn, S17.ne, S17.ll, S17.mt, S17.F.wk (fun _ h => h) (fun _ h => h) (by omega) (by omega), S17.q, S17.qz, S17.l, S17.f, fun E0 hE0 => by
      obtain ⟨E1, z1, z2⟩ := S17.e E0 hE0
      exact ⟨E1, z1, by omega⟩, S17.T⟩
  · rw [c7, h15, mt]
  · rw [mt, S27.F.fI _ (Or.inr (S1'.T.L.inm t d1)) 0 (by omega)]; exact kd1
  · rw [mt]; exact S27.F.wd (S1'.T.L.inm t d1) wd1
  · rw [c7]; exact h16
  · rw [c7]; exact r_rs
  · rw [(S6.trans S7).F.fI a (Or.inr m5) 0 (by omega)]; exact ka
  · rw [(S6.trans S7).F.fR a (Or.inr m5) 3 (by omega) (by omega)]; exact ra3
  · rw [(S6.trans S7).F.fR a (Or.inr m5) 4 (by omega) (by omega), ra4, c7, h16]
  · rw [v7 j]
    have i85 : (cl_wr σ5 (83 + 12 * p) 17 (some a)).1 (85 + 12 * p) j = σ.1 (85 + 12 * p) j := by
      rw [r_rI, F5.I _ (by omega) (by omega), r_rI, (S3 (fun _ => False) (fun _ => False) (fun _ => False)).F.I _ (fun q => q) (by omega) (by omega), r_rI, (S1 (fun _ => False) (fun _ => False) (fun _ => False)).F.I _ (fun q => q) (by omega) (by omega)]
    by_cases c : j < n
    · rw [if_pos c, if_pos c]; exact g5 j c
    · rw [if_neg c, if_neg c, i85]
end Z2_GM
