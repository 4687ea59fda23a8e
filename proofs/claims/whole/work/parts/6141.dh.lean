section Z2_DH
variable {K : Bd} {W W' W2 : Wd} {b : Bool} {k s p q : Nat} {σ σ' σ0 : cl_S} {ρ ρ' ρ0 : rf_S} {N : Nat}
theorem seg_38 {c j : Nat} (h : seg W s p c j) : 37 < c := by
  unfold seg at h
  rcases h with h | h | h | h | h | h | h | h | h <;> omega
def Bd.lup (K : Bd) (e : Nat) : Bd := (K.kn, K.kl + e, K.kc, K.ks)
theorem Bd.lup_n (K : Bd) (e : Nat) : (K.lup e).kn = K.kn := rfl
theorem Bd.lup_l (K : Bd) (e : Nat) : (K.lup e).kl = K.kl + e := rfl
theorem Bd.lup_c (K : Bd) (e : Nat) : (K.lup e).kc = K.kc := rfl
theorem Bd.lup_s (K : Bd) (e : Nat) : (K.lup e).ks = K.ks := rfl
theorem Bd.up_l (K : Bd) (e : Nat) : (K.up e).kl = K.kl + e := rfl
theorem Bd.up_c (K : Bd) (e : Nat) : (K.up e).kc = K.kc := rfl
theorem Bd.up_s (K : Bd) (e : Nat) : (K.up e).ks = K.ks := rfl
/-- the end: what was made is forgotten -/
theorem pg_end {ρ4 ρe ρs ρ11 : rf_S} {σe : cl_S} {S n1 e : Nat} (m1 : nbd n1 = W.N) (m2 : 1000000 ≤ n1) (m3 : n1 / 1000000 - 1 = S) (R : Rel K W false k σ ρ) (hk : k < 500) (hS : S ≤ W.N) (T4 : Tk (K.up e) (W.pg (frz W ρ4) n1) true k 1 σ' ρ4) (o4 : ∀ c j, c ≠ 0 → ¬ S1 c j → ρ4.1 c j = ρ.1 c j) (f4 : ∀ j, j ≠ 79 → ρ4.1 0 j = ρ.1 0 j) (le : (W.pg (frz W ρ4) n1).le W2) (T2 : Tk (K.up e) W2 true k 1 σe ρs) (hw : Qw ρe ρs) (p0 : ∀ c, c ≠ 0 → ρ11.1 c = ρe.1 c) (pf : ∀ j, j ≠ 79 → j ≠ 15 → ρ11.1 0 j = ρe.1 0 j) (p15 : (W.N = W2.N ∧ ρ11.1 0 15 = ρe.1 0 15) ∨ ρ11.1 0 15 = -1) (pl : ρ11.2 = ρe.2) (r : Int32) : ∃ ρ14, bq_purge_154 (nI W.N) (nI S) r ρ11 = (if r = 0 then some ((0:Int32), ρ14) else some ((1:Int32), ρ14)) ∧ ∃ Wf, Rel (K.lup e) Wf false k (cl_w σe 179 8 (0:Int32)) ρ14 := by
  have hN : W.N ≤ W2.N := le.N
  have h2 := T2.R.T.Q.n.2
  have n0e : W2.n0 = n1 := le.n0
  have nb : nbd W2.n0 = W.N := by rw [n0e]; exact m1
  have cI : ∀ d j, ¬ (d = 179 ∧ j = 8) → (cl_w σe 179 8 (0:Int32)).1 d j = σe.1 d j := fun d j w => by rw [g_w, if_neg w]
  have cD : ∀ d, d ≠ 179 → (cl_w σe 179 8 (0:Int32)).1 d = σe.1 d := fun d w => r_w w
  have cR : (cl_w σe 179 8 (0:Int32)).2 = σe.2 := rfl
  generalize cl_w σe 179 8 (0:Int32) = σ5 at cI cD cR
  have sm : SmT σe σ5 := ⟨fun a ha => ⟨cD a (by omega), by rw [cR]⟩, by rw [cR]⟩
  have es : ∀ c, c < 65 ∨ 68 < c → ρs.1 c = ρe.1 c := fun c hc => funext fun j => hw.1 c j (by omega)
  have Te : TermR W2.n0 σ5 ρe W2.ts W2.tm W2.N := T2.R.T.sm sm (fun c h1 h2 => (es c (by omega)).symm) (fun j _ => by rw [es 0 (by omega)])
  have Q11 : RSt0 ρ11 (W.N + (W2.N - W.N)) := by
    rw [show W.N + (W2.N - W.N) = W2.N by omega]
    exact Te.Q.toRSt0.cg (fun c hc _ => p0 c hc) (pf 12 (by decide) (by decide)) (pf 18 (by decide) (by decide))
  obtain ⟨ρ13, e13, g1, g2, g3, Q13⟩ := q_forget (N := W.N) (W2.N - W.N) ρ11 Q11 (fun t a c => by
    rw [p0 1 (by decide)]
    exact (Te.J.2.2.1 t (by rw [nb]; exact a) (by omega)).1)
  refine ⟨rf_w ρ13 0 13 (nI S), ?_, ?_⟩
  · unfold bq_purge_154
    rw [e13, bd1n, vln]
  have h0 : ∀ c, c ≠ 0 → c ≠ 11 → (rf_w ρ13 0 13 (nI S)).1 c = ρe.1 c := fun c a d => by rw [q_w a, g1 c a d, p0 c a]
  have hf : ∀ j, j ≠ 12 → j ≠ 13 → j ≠ 15 → j ≠ 79 → (rf_w ρ13 0 13 (nI S)).1 0 j = ρe.1 0 j := fun j a1 a2 a3 a4 => by rw [q_wk a2, g2 j a1, pf j a4 a3]
  have h13 : (rf_w ρ13 0 13 (nI S)).1 0 13 = nI S := q_ws
  have h15 : (W.N = W2.N ∧ (rf_w ρ13 0 13 (nI S)).1 0 15 = ρe.1 0 15) ∨ (rf_w ρ13 0 13 (nI S)).1 0 15 = -1 := by
    rw [q_wk (by decide), g2 15 (by decide)]; exact p15
  have hl : (rf_w ρ13 0 13 (nI S)).2 = ρe.2 := by show ρ13.2 = _; rw [g3, pl]
  have Q14 : RSt0 (rf_w ρ13 0 13 (nI S)) W.N := Q13.cg (fun c hc _ => q_w hc) (q_wk (by decide)) (q_wk (by decide))
  generalize rf_w ρ13 0 13 (nI S) = ρf at h0 hf h13 h15 hl Q14
  have Tf : TermR W.n0 σ5 ρf W2.ts W2.tm W.N := Te.back hN nb (by rw [n0e]; exact m2) (show W2.n0 / 1000000 - 1 = S by rw [n0e]; exact m3) hS R.T.k0.1 (R.n0 rfl) Q14 h0 hf h13 h15
  -- the frozen side
  obtain ⟨z1, z2, z3⟩ := fz_eq (T4.R.fz rfl) (T2.R.fz rfl) le.ln
  have E : ∀ c j, 37 < c → c < 77 → j < 100000 → ¬ S1 c j → ρs.1 c j = ρ.1 c j := fun c j a1 a2 a3 a4 => by rw [z1 c j a1 a2 a3 a4, o4 c j (by omega) a4]
  have M0e : MRel (W2.bk W.N W.ln W.n0) 0 σe ρs := MRel.bk hN h2 le.np R.cf.np.1 T2.R.m0 R.m0 E
  have OBe : OthB (W2.bk W.N W.ln W.n0) k σe ρs := OthB.bk hN h2 le.np (by omega) T2.R.oB R.oB E (by rw [z2, f4 110 (by decide)]) (by rw [z3, f4 78 (by decide)])
  have CFe : CfgR (W2.bk W.N W.ln W.n0) σe ρs := T2.R.cf.bk (fun c hc => by
    rw [le.ln]
    show W.ln c = frz W ρ4 c
    unfold frz
    rw [if_pos (by omega)])
  have fs : ∀ c j, c ≠ 0 → c ≠ 11 → ¬ S1 c j → ρf.1 c j = ρs.1 c j := fun c j a1 a2 a3 => by rw [h0 c a1 a2, hw.1 c j (fun w => a3 w.2.2)]
  have fc : ∀ c, c ≠ 0 → c ≠ 11 → (c < 65 ∨ 68 < c) → ρf.1 c = ρs.1 c := fun c a1 a2 a3 => by rw [h0 c a1 a2, es c a3]
  have ff : ∀ j, j ≠ 12 → j ≠ 13 → j ≠ 15 → j ≠ 79 → ρf.1 0 j = ρs.1 0 j := fun j a1 a2 a3 a4 => by rw [hf j a1 a2 a3 a4, es 0 (by omega)]
  have lo : ∀ a, pt W2.ts a → (30 < a ∧ a < 38) ∨ 324 < a := by
    intro a ha
    rcases ha with rfl | ha
    · omega
    · have := Te.C.mem a ha; omega
  have G : TGo (W2.bk W.N W.ln W.n0) (W2.bk W.N W.ln W.n0) σe σ5 := ⟨Wd.le.refl _, fun a ha j _ => by rw [(sm.r a (lo a ha)).1], fun a ha j _ _ => by rw [(sm.r a (lo a ha)).2], fun t ht => T2.R.T.L.inm t (Nat.lt_of_lt_of_le ht hN), fun b _ => by rw [sm.t], by rw [sm.t]; exact Nat.le_refl _⟩
  have M0 : MRel (W2.bk W.N W.ln W.n0) 0 σ5 ρf := by
    have np8 := CFe.np.1
    refine M0e.fr (Wd.le.refl _) (by omega) (fun q hq => (M0e.pr q hq).fr G (fun i hi => cD _ (by omega)) (fun i hi => by rw [cR]) (fun c j w => ?_)) (fun j _ => by rw [cD _ (by omega)]) (fun e => absurd e (by omega)) (by rw [cR]) (fun a h1 h2 => ⟨cD _ (by omega), by rw [cR]⟩) (cD _ (by omega)) (by rw [cR]) (fun c h1 h2 => by rw [fc c (by omega) (by omega) (by omega)]) (fun _ => ff 54 (by decide) (by decide) (by decide) (by decide)) (fun j h1 h2 => by rw [fc 71 (by omega) (by omega) (by omega)]) (fun c j hc h1 h2 => by rw [fc c (by omega) (by omega) (by omega)]) (fun c j hc h1 h2 => by rw [fc c (by omega) (by omega) (by omega)])
    have w38 := seg_38 w
    exact fs c j (by omega) (by omega) (seg_S0 CFe hq w).2
  have OB : OthB (W2.bk W.N W.ln W.n0) k σ5 ρf := OBe.fr G (cD 0 (by omega)) (by rw [cR]) (fun d hd => cD d (by omega)) (fun j _ => by rw [cD 47 (by omega)]) (fun d hd => by rw [cR]) (fun c hc => fc c (by omega) (by omega) (by omega)) (fun j hj => ff j (by omega) (by omega) (by omega) (by omega)) (by rw [fc 48 (by omega) (by omega) (by omega)]; exact Nat.le_refl _)
  have CF : CfgR (W2.bk W.N W.ln W.n0) σ5 ρf := CFe.fr (Wd.le.refl _) (fun i hi => cD _ (by have := CFe.cf; omega)) (fun c h1 h2 => fc c (by omega) (by omega) (by omega)) (fun j hj => ff j (by omega) (by omega) (by omega) (by omega))
  have ST : Stc σ5 := T2.R.st.fr (by rw [cR]) (fun s hs => by rw [cR]; exact ⟨rfl, rfl, rfl⟩) (fun d hd => by rw [cR]) (fun s q hs hq => ⟨by rw [cD _ (by omega)], fun j _ => by rw [cD _ (by omega)]⟩) (by rw [cI 179 2 (by omega)]; exact T2.R.st.re)
  have nS : ∀ c j, (c = 61 ∨ c = 69) → j < 8 → ¬ S1 c j := fun c j hc hj w => by
    unfold S1 at w
    rcases w with w | w | w | w | w | w | w | w | w | w <;> omega
  have pe : phi 0 ρf = phi 0 ρs := phi_cg (fun g hg => fs 61 _ (by omega) (by omega) (nS 61 _ (by omega) (by omega))) (fun g hg => fs 69 _ (by omega) (by omega) (nS 69 _ (by omega) (by omega)))
  have ps : phi 0 ρs = phi 0 ρ := phi_cg (fun g hg => E 61 _ (by omega) (by omega) (by omega) (nS 61 _ (by omega) (by omega))) (fun g hg => E 69 _ (by omega) (by omega) (by omega) (nS 69 _ (by omega) (by omega)))
  have BD : Bud (K.lup e) (W2.bk W.N W.ln W.n0) false σ5 ρf := by
    obtain ⟨b1, b2, b3, b4⟩ := T2.R.bd
    have b0 := R.bd.n
    rw [if_neg (by decide)] at b0
    rw [if_pos rfl, Bd.up_l] at b2
    rw [Bd.up_c] at b3
    rw [Bd.up_s] at b4
    refine ⟨?_, ?_, ?_, ?_⟩
    · rw [pe, ps, if_neg (by decide), Bd.lup_n]; exact b0
    · rw [pe, if_neg (by decide), Bd.lup_l]
      show W2.ts.length + phi 0 ρs + 0 ≤ K.kl + e
      omega
    · rw [cR, Bd.lup_c]; exact b3
    · rw [cR, Bd.lup_s]; exact b4
  exact ⟨_, Tf, ST, CF, M0, fun e => absurd e (by decide), T2.R.oA.fr (fun d hd => cD d (by omega)) (fun c h1 h2 => fc c (by omega) (by omega) (by omega)) (fun j hj => ff j (by omega) (by omega) (by omega) (by omega)), OB, BD, R.n0, T2.R.nm.fr (by rw [cR]) (by rw [hl, hw.2]) (fc 14 (by decide) (by decide) (by omega)) (fc 15 (by decide) (by decide) (by omega)), fun e => absurd e (by decide)⟩
theorem KV_up {o : Nat} (hk : k < 64) (ho : o ≤ 1) : KV ((KB k o).up 3200) := by
  unfold KV
  show (KB k o).kn + 3200 + 8 ≤ 112000 ∧ (KB k o).kl + 3200 + 8 < (KB k o).kc ∧ 16 * ((KB k o).kl + 3200 + 8) + 16 ≤ (KB k o).ks ∧ (KB k o).kl + 3200 ≤ 1000000
  rw [KB_n, KB_l, KB_c, KB_s]
  omega
theorem call_purge (h : RC k σ ρ) (hk : k < 64) (x : Int32) : CO k (fc_X11_purge 0 x σ) (fq_purge x ρ) := by
  obtain ⟨W, R⟩ := id h
  unfold fc_X11_purge bc_X11_purge_0 fq_purge bq_purge_0
  rcases R.isP x with ⟨p, hp, hp8, rfl, e1, n1, n2⟩ | ⟨e1, hx⟩
  · obtain ⟨n, hn, i1, i2, -⟩ := R.oB.ip
    have l5 : nI n ≤ (500:Int32) := (n_le (a := n) (b := 500) (by omega) (by omega)).mpr (by omega)
    obtain ⟨mk, σ3, ρ4, S, ef, hmk, ec, er, eS, hS, T4, e48, o4, f4, l4⟩ := again R hp
    obtain ⟨T0, hT, -, t0⟩ := R.m0.tk
    obtain ⟨σe, ρe, ρs, W2, i', ea, el, le, T2, hw⟩ := run_again (x2 := nI W.N) (x3 := nI S) (p := p) (KV_up hk (onF_le ρ)) T4 (by omega) e48 (by rw [flR_cg (W := W) (W' := W.pg (frz W ρ4) ((S + 1) * 1000000 + W.N)) rfl rfl rfl]; exact hmk) hp8 (by rw [o4 48 0 (by decide) (nS1 (by omega))]; exact t0) hT
    have hp2 : p < W2.np := by rw [le.np]; exact hp
    obtain ⟨r, hr, k1, k2⟩ := like_cq (σ' := cl_w σe 179 8 (0:Int32)) (ρ' := rf_w ρe 0 79 (0:Int32)) T2 hp2 (fun d a c => r_w c) rfl (fun c j hc => by rw [q_w (by omega)]; exact (hw.1 c j (by omega)).symm)
    have cls : bd2 (fc_X11_isPartition 0 (nI p) σ) (fun r_2 σ_1 => (if r_2 = 0 then some ((-1:Int32), σ_1) else (if (σ_1.1 47 15) ≤ (500:Int32) then vl (σ_1.2.2.1 47 3) (fun r_13 => nn r_13 (fun a_16 => bd2 (fc_X1_flowingTo a_16 (nI p) σ_1) (fun r_20 σ_19 => bd1 (fc_X5_repeat 179 (some 47) (some 44) r_20 σ_19) (fun σ_25 => ix (nI p) 8 (vl (σ_25.2.2.1 (179 + 12 + cl_md 179) (nI p).toNatClampNeg) (fun r_34 => ix (nI p) 8 (vl (σ_25.2.2.1 (47 + 12 + cl_md 47) (nI p).toNatClampNeg) (fun r_41 => nn r_34 (fun a_44 => bd2 (fc_X6_isLike a_44 r_41 σ_25) (fun r_48 σ_47 => (if r_48 = 0 then some ((0:Int32), σ_47) else some ((1:Int32), σ_47)))))))))))) else some ((-4:Int32), σ_1)))) = (if r = 0 then some ((0:Int32), cl_w σe 179 8 (0:Int32)) else some ((1:Int32), cl_w σe 179 8 (0:Int32))) := by
      have pa := T2.R.st.pp 1 p (by omega) hp8
      have pb := T2.R.st.pp 0 p (by omega) hp8
      rw [e1, bd2n, if_neg (by decide), i1, if_pos l5, show σ.2.2.1 47 3 = some W.cf from R.m0.cp, vln, nnn, ef, bd2n, ec, ea, bd1n, n_ix hp8 (by omega), n_cl (show p < 2147483648 by omega), show (cl_w σe 179 8 (0:Int32)).2.2.1 (179 + 12 + cl_md 179) p = some (83 + 135 * 1 + 12 * p) from pa, vln, n_ix hp8 (by omega), show (cl_w σe 179 8 (0:Int32)).2.2.1 (47 + 12 + cl_md 47) p = some (83 + 135 * 0 + 12 * p) from pb, vln, nnn, k1, bd2n]
    rw [cls, if_neg n1, if_pos n2, i2, if_pos l5, vln, R.T.Q.n.1, vln, eS, vln, er, bd1n]
    unfold bq_purge_53
    rw [el, Option.bind_some]
    show CO k _ (eq_purge_53 (nI p) (nI W.N) (nI S) i' (nI T0) ρe)
    unfold eq_purge_53
    rw [vln, k2, bd2n]
    have e12 : (rf_w ρe 0 79 (0:Int32)).1 0 12 = nI W2.N := by rw [q_wk (by decide), ← hw.1 0 12 (by omega)]; exact T2.R.T.Q.n.1
    have N2 := T2.R.T.Q.n.2
    have hN : W.N ≤ W2.N := le.N
    have key : ∀ ρ11, (∀ c, c ≠ 0 → ρ11.1 c = ρe.1 c) → (∀ j, j ≠ 79 → j ≠ 15 → ρ11.1 0 j = ρe.1 0 j) → ((W.N = W2.N ∧ ρ11.1 0 15 = ρe.1 0 15) ∨ ρ11.1 0 15 = -1) → ρ11.2 = ρe.2 → CO k (if r = 0 then some ((0:Int32), cl_w σe 179 8 (0:Int32)) else some ((1:Int32), cl_w σe 179 8 (0:Int32))) (bq_purge_154 (nI W.N) (nI S) r ρ11) := fun ρ11 a1 a2 a3 a4 => by
      obtain ⟨ρf, e5, Wf, Rf⟩ := pg_end (n1 := (S + 1) * 1000000 + W.N) (by unfold nbd; omega) (by omega) (by omega) R (by omega) hS T4 o4 f4 le T2 hw a1 a2 a3 a4 r
      have rc := RC.of (o := onF ρ) (Rf.kk (Nat.le_succ k)) hk (onF_le ρ) (by rw [Bd.lup_n]; omega) (by rw [Bd.lup_l]; omega) (by rw [Bd.lup_c]; omega) (by rw [Bd.lup_s]; omega)
      rw [e5]
      rcases hr with rfl | rfl
      · rw [if_neg (by decide), if_neg (by decide)]; exact ⟨_, _, _, rfl, rfl, rc⟩
      · rw [if_pos rfl, if_pos rfl]; exact ⟨_, _, _, rfl, rfl, rc⟩
    rw [e12]
    by_cases c : W2.N ≤ W.N
    · rw [if_pos ((n_le (by omega) (by omega)).mpr c)]
      exact key _ (fun c hc => q_w hc) (fun j a _ => q_wk a) (Or.inl ⟨by omega, q_wk (by decide)⟩) rfl
    · rw [if_neg (fun w => c ((n_le (by omega) (by omega)).mp w)), vln]
      exact key _ (fun c hc => by rw [q_w hc, q_w hc]) (fun j a d => by rw [q_wk d, q_wk a]) (Or.inr q_ws) rfl
  · rw [e1, bd2n, if_pos rfl]
    rcases hx with hx | ⟨h1, h2⟩
    · rw [if_pos hx]; exact CO.same h hk _
    · rw [if_neg h1, if_neg h2]; exact CO.same h hk _
end Z2_DH
