section Z2_G9
variable {K : Bd} {W W' : Wd} {b : Bool} {k s p : Nat} {σ σ' : cl_S} {ρ ρ' : rf_S}
variable {sp L a : Nat} {f : Nat → Int32} {e : Bool}
theorem rd_chans {n m : Nat} (hn1 : 1 ≤ n) (hn : n ≤ 8) (hm : m ≤ 16) : ∀ u c a e (σ : cl_S) (ρ : rf_S), m - c = u → c ≤ m → CsC sp L f a e σ → CsQ L f a e ρ → σ.1 sp 0 = nI n → σ.1 sp 5 = nI m → (e = false → ∃ fr to ln, CI sp c n fr to ln σ ρ) → ∃ σ' ρ' a' e' y z, lp (fun z : (Int32 × cl_S) => lc_X1_read_102 sp z.1 z.2) (nI c, σ) = some (y, σ') ∧ lp (fun z : (Int32 × rf_S) => lq_readConfig_232 (nI n) (nI m) z.1 z.2) (nI c, ρ) = some (z, ρ') ∧ CsC sp L f a' e' σ' ∧ CsQ L f a' e' ρ' ∧ Kf sp σ σ' ρ ρ' ∧ (∀ j, j ≠ 14 → j ≠ 15 → σ'.1 sp j = σ.1 sp j) ∧ (∀ d, d ≠ sp → (d < sp + 5 ∨ sp + 7 < d) → σ'.1 d = σ.1 d) ∧ (∀ i, (i < 24 ∨ 71 < i) → ρ'.1 79 i = ρ.1 79 i) ∧ (e = true → e' = true) ∧ (e' = false → ∃ fr to ln, CI sp m n fr to ln σ' ρ') := by
  have fin : ∀ c a (σ : cl_S) (ρ : rf_S), CsC sp L f a true σ → CsQ L f a true ρ → ∃ σ' ρ' a' e' y z, lp (fun z : (Int32 × cl_S) => lc_X1_read_102 sp z.1 z.2) (nI c, σ) = some (y, σ') ∧ lp (fun z : (Int32 × rf_S) => lq_readConfig_232 (nI n) (nI m) z.1 z.2) (nI c, ρ) = some (z, ρ') ∧ CsC sp L f a' e' σ' ∧ CsQ L f a' e' ρ' ∧ Kf sp σ σ' ρ ρ' ∧ (∀ j, j ≠ 14 → j ≠ 15 → σ'.1 sp j = σ.1 sp j) ∧ (∀ d, d ≠ sp → (d < sp + 5 ∨ sp + 7 < d) → σ'.1 d = σ.1 d) ∧ (∀ i, (i < 24 ∨ 71 < i) → ρ'.1 79 i = ρ.1 79 i) ∧ (true = true → e' = true) ∧ (e' = false → ∃ fr to ln, CI sp m n fr to ln σ' ρ') := by
    intro c a σ ρ hC hQ
    have e1 : lc_X1_read_102 sp (nI c) σ = some (.inr (nI c, σ)) := by
      unfold lc_X1_read_102
      by_cases w : σ.1 sp 5 ≤ nI c
      · rw [if_pos w]
      · rw [if_neg w, if_pos hC.z15]
    have hw : ρ.1 0 116 = 1 := hQ.w
    have e2 : lq_readConfig_232 (nI n) (nI m) (nI c) ρ = some (.inr (nI c, ρ)) := by
      unfold lq_readConfig_232
      by_cases w : nI m ≤ nI c
      · rw [if_pos w]
      · rw [if_neg w, hw, if_neg (by decide)]
    exact ⟨σ, ρ, a, true, _, _, lp_end (s := (nI c, σ)) e1, lp_end (s := (nI c, ρ)) e2, hC, hQ, Kf.refl, fun _ _ _ => rfl, fun _ _ _ => rfl, fun _ _ => rfl, fun _ => rfl, fun w => Bool.noConfusion w⟩
  intro u
  induction u with
  | zero =>
    intro c a e σ ρ hu hc hC hQ h0 h5 hP
    cases e with
    | true => exact fin c a σ ρ hC hQ
    | false =>
      have : c = m := by omega
      subst this
      have e1 : lc_X1_read_102 sp (nI c) σ = some (.inr (nI c, σ)) := by
        unfold lc_X1_read_102
        rw [h5, if_pos ((n_le (by omega) (by omega)).mpr (Nat.le_refl _))]
      have e2 : lq_readConfig_232 (nI n) (nI c) (nI c) ρ = some (.inr (nI c, ρ)) := by
        unfold lq_readConfig_232
        rw [if_pos ((n_le (by omega) (by omega)).mpr (Nat.le_refl _))]
      exact ⟨σ, ρ, a, false, _, _, lp_end (s := (nI c, σ)) e1, lp_end (s := (nI c, ρ)) e2, hC, hQ, Kf.refl, fun _ _ _ => rfl, fun _ _ _ => rfl, fun _ _ => rfl, fun w => Bool.noConfusion w, hP⟩
  | succ u ih =>
    intro c a e σ ρ hu hc hC hQ h0 h5 hP
    cases e with
    | true => exact fin c a σ ρ hC hQ
    | false =>
      obtain ⟨fr, to, ln, P⟩ := hP rfl
      obtain ⟨σ1, ρ1, a1, e1, c1, q1, C1, Q1, K1, s1, s2, s3, g1⟩ := rd_chan hC hQ hn1 hn (show c < m by omega) hm h0 h5 P
      obtain ⟨σ', ρ', a', e', w1, w2, f1, f2, C2, Q2, K2, t1, t2, t3, -, g2⟩ := ih (c + 1) a1 e1 σ1 ρ1 (by omega) (by omega) C1 Q1 (by rw [s1 0 (by decide) (by decide)]; exact h0) (by rw [s1 5 (by decide) (by decide)]; exact h5) g1
      exact ⟨σ', ρ', a', e', w1, w2, by rw [lp_next (s := (nI c, σ)) c1]; exact f1, by rw [lp_next (s := (nI c, ρ)) q1]; exact f2, C2, Q2, K1.trans K2, fun j h1 h2 => by rw [t1 j h1 h2, s1 j h1 h2], fun d h1 h2 => by rw [t2 d h1 h2, s2 d h1 h2], fun i hi => by rw [t3 i hi, s3 i hi], fun w => Bool.noConfusion w, g2⟩
/-- the slots that were read -/
def SI (sp c n : Nat) (who stp : Nat → Nat) (σ : cl_S) (ρ : rf_S) : Prop := ∀ i, i < c → σ.1 (sp + 8) i = nI (who i) ∧ ρ.1 79 (72 + 2 * i) = nI (who i) ∧ σ.1 (sp + 9) i = nI (stp i) ∧ ρ.1 79 (73 + 2 * i) = nI (stp i) ∧ (who i < n ∨ who i = 255) ∧ 1 ≤ stp i ∧ stp i ≤ 1000
/-- the owner of a slot -/
theorem rd_owner (hC : CsC sp L f a false σ) (hQ : CsQ L f a false ρ) {n : Nat} (hn1 : 1 ≤ n) (hn : n ≤ 8) (e0 : σ.1 sp 0 = nI n) : ∃ (v vq : Int32) (σ1 : cl_S) (ρ1 ρ2 : rf_S) (a1 : Nat) (e1 : Bool), fc_X1_nextOwner sp σ = some (v, σ1) ∧ fq_config 0 255 ρ = some (vq, ρ1) ∧ fq_refuse (if vq < nI n then 0 else if vq = 255 then 0 else 1) ρ1 = some ρ2 ∧ (e1 = false → vq = v) ∧ CsC sp L f a1 e1 σ1 ∧ CsQ L f a1 e1 ρ2 ∧ Kf sp σ σ1 ρ ρ2 ∧ (∀ d j, ¬ (d = sp ∧ (j = 14 ∨ j = 15)) → σ1.1 d j = σ.1 d j) ∧ ρ2.1 79 = ρ.1 79 ∧ (e1 = false → ∃ x, v = nI x ∧ (x < n ∨ x = 255)) := by
  have hsp := hC.sp
  have hL := hC.L2
  have haL := hC.aL
  obtain ⟨o1, o2⟩ := hC.ok rfl
  have hw : ρ.1 0 116 = 0 := hQ.w
  have sn : nI n - (1:Int32) = nI (n - 1) := n_sub (a := n) (b := 1) hn1
  by_cases c255 : a < L ∧ f a = 255
  · rcases hC.nx 255 255 with ⟨-, b1, b2, b3, b4, b5⟩ | ⟨-, b1, -⟩ | ⟨w, -⟩
    · rcases hQ.nx 0 255 with ⟨-, c1, c2, c3, c4, c5⟩ | ⟨w, -⟩
      · refine ⟨f a, f a, _, _, _, a + 1, false, ?_, c4, ?_, fun _ => rfl, b5, c5, ⟨fun d hd => r_w (by omega), rfl, fun c h1 _ => q_w h1, rfl, fun j h1 h2 => q_wk h1⟩, fun d j hd => by rw [g_w, if_neg (by omega)], q_w (by decide), fun _ => ⟨255, c255.2, Or.inr rfl⟩⟩
        · unfold fc_X1_nextOwner bc_X1_nextOwner_0 bc_X1_nextOwner_31
          rw [hC.w13, o1, if_neg (fun z => by have := (n_le (by omega) (by omega)).mp z; omega), vln, hC.w12, nnn, hC.T, n_ix (show a < 2048 by omega) (by omega), n_cl (show a < 2147483648 by omega), hC.fw a c255.1, if_pos c255.2, if_neg (by decide), b4, bd2n]
        · rw [c255.2, if_neg (show ¬ (255:Int32) < nI n from fun z => by have := (n_lt (a := 255) (b := n) (by omega) (by omega)).mp z; omega), if_pos rfl]
          exact CsQ.rf0
      · rcases w rfl with w | w | w
        · omega
        · rw [c255.2] at w; exact absurd w (by decide)
        · rw [c255.2] at w; exact absurd (by decide) w
    · rcases b1 with b1 | b1 | b1
      · omega
      · rw [c255.2] at b1; exact absurd b1 (by decide)
      · rw [c255.2] at b1; exact absurd (by decide) b1
    · cases w
  · obtain ⟨v, vq, σ1, ρ1, ρ2, a1, e1, h1, h2, h3, C1, Q1, K1, d1, n1, g1⟩ := nx_wide hC hQ 0 (nI (n - 1)) 255 (fun v => if v < nI n then 0 else if v = 255 then 0 else 1) (fun v hv => Int32.le_trans hv (by rw [show (255:Int32) = nI 255 from rfl, n_le (by omega) (by omega)]; omega)) (fun _ z1 z2 => if_pos (by
      rcases n_cases (f a) with hv | ⟨x, hx, ex⟩
      · exact absurd hv z1
      · rw [ex] at z2 ⊢
        rw [n_lt hx (by omega)]
        have := (n_le hx (by omega)).mp z2
        omega)) (fun _ cL z1 z2 z3 => by
      have f255 : ¬ f a = 255 := fun w => c255 ⟨cL, w⟩
      rcases n_cases (f a) with hv | ⟨x, hx, ex⟩
      · exact absurd hv z1
      · rw [ex] at z3 f255 ⊢
        show ¬ (if nI x < nI n then (0:Int32) else if nI x = 255 then 0 else 1) = 0
        rw [if_neg (fun w => z3 ((n_le hx (by omega)).mpr (by have := (n_lt hx (by omega)).mp w; omega))), if_neg f255]
        decide)
    refine ⟨v, vq, σ1, ρ1, ρ2, a1, e1, ?_, h2, h3, fun w => (g1 w).2.2.1, C1, Q1, K1, d1, n1, fun w => ?_⟩
    · by_cases cL : a < L
      · have f255 : ¬ f a = 255 := fun w => c255 ⟨cL, w⟩
        unfold fc_X1_nextOwner bc_X1_nextOwner_0 bc_X1_nextOwner_30 bc_X1_nextOwner_31
        rw [hC.w13, o1, if_neg (fun z => by have := (n_le (by omega) (by omega)).mp z; omega), vln, hC.w12, nnn, hC.T, n_ix (show a < 2048 by omega) (by omega), n_cl (show a < 2147483648 by omega), hC.fw a cL, if_neg f255, if_pos rfl, e0, sn, h1, bd2n]
      · unfold fc_X1_nextOwner bc_X1_nextOwner_0 bc_X1_nextOwner_30 bc_X1_nextOwner_31
        rw [hC.w13, o1, if_pos ((n_le (by omega) (by omega)).mpr (by omega)), if_pos rfl, e0, sn, h1, bd2n]
    · obtain ⟨-, -, -, z1, z2⟩ := g1 w
      rcases n_cases v with hv | ⟨x, hx, rfl⟩
      · exact absurd hv z1
      · exact ⟨x, rfl, Or.inl (by have := (n_le hx (by omega)).mp z2; omega)⟩
theorem rd_slot (hC : CsC sp L f a false σ) (hQ : CsQ L f a false ρ) {who stp : Nat → Nat} {n c m : Nat} {x3 : Int32} (hn1 : 1 ≤ n) (hn : n ≤ 8) (hc : c < m) (hm : m ≤ 32) (e0 : σ.1 sp 0 = nI n) (e9 : σ.1 sp 9 = nI m) (P : SI sp c n who stp σ ρ) :
    ∃ σ' ρ' a' e', lc_X1_read_144 sp (nI c) σ = some (.inl (nI (c + 1), σ')) ∧ lq_readConfig_346 (nI n) x3 (nI m) (nI c) ρ = some (.inl (nI (c + 1), ρ')) ∧ CsC sp L f a' e' σ' ∧ CsQ L f a' e' ρ' ∧ Kf sp σ σ' ρ ρ' ∧ (∀ j, j ≠ 14 → j ≠ 15 → σ'.1 sp j = σ.1 sp j) ∧ (∀ d, d ≠ sp → d < sp + 8 → σ'.1 d = σ.1 d) ∧ (∀ i, (i < 72 ∨ 135 < i) → ρ'.1 79 i = ρ.1 79 i) ∧ (e' = false → ∃ who' stp', SI sp (c + 1) n who' stp' σ' ρ') := by
  have hsp := hC.sp
  have hL := hC.L2
  have haL := hC.aL
  obtain ⟨o1, o2⟩ := hC.ok rfl
  have hw : ρ.1 0 116 = 0 := hQ.w
  have ic : ∀ {α : Type} (z : Option α), ix (nI c) 32 z = z := fun z => n_ix (by omega) (by omega)
  have cc : (nI c).toNatClampNeg = c := n_cl (by omega)
  obtain ⟨v, vq, σ1, ρ1, ρ2, a1, e1, k1, q1, q2, ev, C1, Q1, K1, d1, n1, g1⟩ := rd_owner hC hQ hn1 hn e0
  have C1' : CsC sp L f a1 e1 (cl_w σ1 (sp + 8) c v) := C1.cg (fun j hj => by rw [r_w (by omega)]) (r_w (by omega)) rfl
  have t2 : (72:Int32) + (2:Int32) * nI c = nI (72 + 2 * c) := by rw [show (2:Int32) = nI 2 from rfl, n_mul, show (72:Int32) = nI 72 from rfl, n_add]
  have t3 : (73:Int32) + (2:Int32) * nI c = nI (73 + 2 * c) := by rw [show (2:Int32) = nI 2 from rfl, n_mul, show (73:Int32) = nI 73 from rfl, n_add]
  have Q1' : CsQ L f a1 e1 (rf_w ρ2 79 (72 + 2 * c) vq) := Q1.cg (fun j hj => by rw [q_w (by decide)]) (by rw [q_w (by decide)]) (by rw [q_w (by decide)])
  obtain ⟨w, σ4, ρ4, a4, e4, k4, q4, C4, Q4, K4, d4, n4, g4, -⟩ := nx_same C1' Q1' 1 1000
  have ec : lc_X1_read_144 sp (nI c) σ = some (.inl (nI (c + 1), cl_w σ4 (sp + 9) c w)) := by
    unfold lc_X1_read_144
    rw [e9, if_neg (fun z => by have := (n_le (by omega) (by omega)).mp z; omega), o2, if_neg (by decide), k1, bd2n, ic, cc, vln, k4, bd2n, ic, vln, vln, show nI c + (1:Int32) = nI (c + 1) from n_add c 1]
  have eq : lq_readConfig_346 (nI n) x3 (nI m) (nI c) ρ = some (.inl (nI (c + 1), rf_w ρ4 79 (73 + 2 * c) w)) := by
    have fin : ∀ z, fq_refuse z ρ1 = some ρ2 → bq_readConfig_390i346 (nI n) x3 (nI m) (nI c) vq z ρ1 = some (.inl (nI (c + 1), rf_w ρ4 79 (73 + 2 * c) w)) := by
      intro z hz
      unfold bq_readConfig_390i346
      rw [hz, bd1n, t2, t3, n_ix (show 72 + 2 * c < 200 by omega) (by omega), n_cl (show 72 + 2 * c < 2147483648 by omega), vln, q4, bd2n, n_ix (show 73 + 2 * c < 200 by omega) (by omega), n_cl (show 73 + 2 * c < 2147483648 by omega), vln, vln, show nI c + (1:Int32) = nI (c + 1) from n_add c 1]
    unfold lq_readConfig_346 bq_readConfig_389i346
    rw [if_neg (fun z => by have := (n_le (by omega) (by omega)).mp z; omega), hw, if_pos rfl, q1, bd2n]
    by_cases z : vq < nI n
    · rw [if_pos z] at q2 ⊢
      exact fin 0 q2
    · rw [if_neg z] at q2 ⊢
      by_cases z : vq = 255
      · rw [if_pos z] at q2 ⊢
        exact fin 0 q2
      · rw [if_neg z] at q2 ⊢
        exact fin 1 q2
  have sd : ∀ d j, ¬ (d = sp ∧ (j = 14 ∨ j = 15)) → ¬ (d = sp + 8 ∧ j = c) → ¬ (d = sp + 9 ∧ j = c) → (cl_w σ4 (sp + 9) c w).1 d j = σ.1 d j := fun d j w1 w2 w3 => by rw [g_w, if_neg w3, d4 d j w1, g_w, if_neg w2, d1 d j w1]
  have q79 : ∀ i, (rf_w ρ4 79 (73 + 2 * c) w).1 79 i = if i = 73 + 2 * c then w else if i = 72 + 2 * c then vq else ρ.1 79 i := by
    intro i
    rw [g_q, n4, g_q, n1]
    simp only [true_and]
  refine ⟨_, _, a4, e4, ec, eq, C4.cg (fun j hj => by rw [r_w (by omega)]) (r_w (by omega)) rfl, Q4.cg (fun j hj => by rw [q_w (by decide)]) (by rw [q_w (by decide)]) (by rw [q_w (by decide)]), ?_, fun j h1 h2 => sd sp j (by omega) (by omega) (by omega), fun d h1 h2 => funext fun j => sd d j (by omega) (by omega) (by omega), fun i hi => by rw [q79, if_neg (by omega), if_neg (by omega)], fun ee => ?_⟩
  · refine ⟨fun d hd => funext fun j => sd d j (by omega) (by omega) (by omega), by show σ4.2 = σ.2; rw [K4.c2]; show σ1.2 = σ.2; exact K1.c2, fun x w1 w2 => by rw [q_w w2, K4.q x w1 w2, q_w w2, K1.q x w1 w2], by show ρ4.2 = ρ.2; rw [K4.l]; show ρ2.2 = ρ.2; rw [K1.l], fun j w1 w2 => by rw [q_w (by decide), K4.i j w1 w2, q_w (by decide), K1.i j w1 w2]⟩
  · obtain ⟨ee1, -, h1, h2⟩ := g4 ee
    obtain ⟨x, ex, hx⟩ := g1 ee1
    have evq := ev ee1
    subst ex
    subst evq
    rcases n_cases w with hz | ⟨z, hz, rfl⟩
    · exact absurd (n_neg hz (show 1 < 2147483648 by omega)).1 h1
    have z1 : z ≤ 1000 := (n_le (a := z) (b := 1000) hz (by omega)).mp h2
    have z0 : 1 ≤ z := by
      apply Classical.byContradiction
      intro q
      exact h1 ((n_lt (a := z) (b := 1) hz (by omega)).mpr (by omega))
    refine ⟨va_up who c x, va_up stp c z, fun i hi => ?_⟩
    by_cases c' : i = c
    · subst c'
      rw [up_s, up_s, q79, q79, if_neg (by omega), if_pos rfl, if_pos rfl]
      exact ⟨by rw [r_w (by omega), d4 _ _ (by omega)]; exact r_ws, rfl, r_ws, rfl, hx, z0, z1⟩
    · obtain ⟨v1, v2, v3, v4, v5⟩ := P i (by omega)
      rw [up_n c', up_n c', q79, q79, if_neg (by omega), if_neg (by omega), if_neg (by omega), if_neg (by omega), sd (sp + 8) i (by omega) (by omega) (by omega), sd (sp + 9) i (by omega) (by omega) (by omega)]
      exact ⟨v1, v2, v3, v4, v5⟩
theorem rd_slots {n m : Nat} {x3 : Int32} (hn1 : 1 ≤ n) (hn : n ≤ 8) (hm : m ≤ 32) : ∀ u c a e (σ : cl_S) (ρ : rf_S), m - c = u → c ≤ m → CsC sp L f a e σ → CsQ L f a e ρ → (e = false → σ.1 sp 0 = nI n) → σ.1 sp 9 = nI m → (e = false → ∃ who stp, SI sp c n who stp σ ρ) → ∃ σ' ρ' a' e' y z, lp (fun z : (Int32 × cl_S) => lc_X1_read_144 sp z.1 z.2) (nI c, σ) = some (y, σ') ∧ lp (fun z : (Int32 × rf_S) => lq_readConfig_346 (nI n) x3 (nI m) z.1 z.2) (nI c, ρ) = some (z, ρ') ∧ CsC sp L f a' e' σ' ∧ CsQ L f a' e' ρ' ∧ Kf sp σ σ' ρ ρ' ∧ (∀ j, j ≠ 14 → j ≠ 15 → σ'.1 sp j = σ.1 sp j) ∧ (∀ d, d ≠ sp → d < sp + 8 → σ'.1 d = σ.1 d) ∧ (∀ i, (i < 72 ∨ 135 < i) → ρ'.1 79 i = ρ.1 79 i) ∧ (e = true → e' = true) ∧ (e' = false → ∃ who stp, SI sp m n who stp σ' ρ') := by
  have fin : ∀ c a (σ : cl_S) (ρ : rf_S), CsC sp L f a true σ → CsQ L f a true ρ → ∃ σ' ρ' a' e' y z, lp (fun z : (Int32 × cl_S) => lc_X1_read_144 sp z.1 z.2) (nI c, σ) = some (y, σ') ∧ lp (fun z : (Int32 × rf_S) => lq_readConfig_346 (nI n) x3 (nI m) z.1 z.2) (nI c, ρ) = some (z, ρ') ∧ CsC sp L f a' e' σ' ∧ CsQ L f a' e' ρ' ∧ Kf sp σ σ' ρ ρ' ∧ (∀ j, j ≠ 14 → j ≠ 15 → σ'.1 sp j = σ.1 sp j) ∧ (∀ d, d ≠ sp → d < sp + 8 → σ'.1 d = σ.1 d) ∧ (∀ i, (i < 72 ∨ 135 < i) → ρ'.1 79 i = ρ.1 79 i) ∧ (true = true → e' = true) ∧ (e' = false → ∃ who stp, SI sp m n who stp σ' ρ') := by
    intro c a σ ρ hC hQ
    have e1 : lc_X1_read_144 sp (nI c) σ = some (.inr (nI c, σ)) := by
      unfold lc_X1_read_144
      by_cases w : σ.1 sp 9 ≤ nI c
      · rw [if_pos w]
      · rw [if_neg w, if_pos hC.z15]
    have hw : ρ.1 0 116 = 1 := hQ.w
    have e2 : lq_readConfig_346 (nI n) x3 (nI m) (nI c) ρ = some (.inr (nI c, ρ)) := by
      unfold lq_readConfig_346
      by_cases w : nI m ≤ nI c
      · rw [if_pos w]
      · rw [if_neg w, hw, if_neg (by decide)]
    exact ⟨σ, ρ, a, true, _, _, lp_end (s := (nI c, σ)) e1, lp_end (s := (nI c, ρ)) e2, hC, hQ, Kf.refl, fun _ _ _ => rfl, fun _ _ _ => rfl, fun _ _ => rfl, fun _ => rfl, fun w => Bool.noConfusion w⟩
  intro u
  induction u with
  | zero =>
    intro c a e σ ρ hu hc hC hQ h0 h5 hP
    cases e with
    | true => exact fin c a σ ρ hC hQ
    | false =>
      have : c = m := by omega
      subst this
      have e1 : lc_X1_read_144 sp (nI c) σ = some (.inr (nI c, σ)) := by
        unfold lc_X1_read_144
        rw [h5, if_pos ((n_le (by omega) (by omega)).mpr (Nat.le_refl _))]
      have e2 : lq_readConfig_346 (nI n) x3 (nI c) (nI c) ρ = some (.inr (nI c, ρ)) := by
        unfold lq_readConfig_346
        rw [if_pos ((n_le (by omega) (by omega)).mpr (Nat.le_refl _))]
      exact ⟨σ, ρ, a, false, _, _, lp_end (s := (nI c, σ)) e1, lp_end (s := (nI c, ρ)) e2, hC, hQ, Kf.refl, fun _ _ _ => rfl, fun _ _ _ => rfl, fun _ _ => rfl, fun w => Bool.noConfusion w, hP⟩
  | succ u ih =>
    intro c a e σ ρ hu hc hC hQ h0 h5 hP
    cases e with
    | true => exact fin c a σ ρ hC hQ
    | false =>
      obtain ⟨fr, to, P⟩ := hP rfl
      obtain ⟨σ1, ρ1, a1, e1, c1, q1, C1, Q1, K1, s1, s2, s3, g1⟩ := rd_slot (x3 := x3) hC hQ hn1 hn (show c < m by omega) hm (h0 rfl) h5 P
      obtain ⟨σ', ρ', a', e', w1, w2, f1, f2, C2, Q2, K2, t1, t2, t3, -, g2⟩ := ih (c + 1) a1 e1 σ1 ρ1 (by omega) (by omega) C1 Q1 (fun _ => by rw [s1 0 (by decide) (by decide)]; exact h0 rfl) (by rw [s1 9 (by decide) (by decide)]; exact h5) g1
      exact ⟨σ', ρ', a', e', w1, w2, by rw [lp_next (s := (nI c, σ)) c1]; exact f1, by rw [lp_next (s := (nI c, ρ)) q1]; exact f2, C2, Q2, K1.trans K2, fun j h1 h2 => by rw [t1 j h1 h2, s1 j h1 h2], fun d h1 h2 => by rw [t2 d h1 h2, s2 d h1 h2], fun i hi => by rw [t3 i hi, s3 i hi], fun w => Bool.noConfusion w, g2⟩
end Z2_G9
