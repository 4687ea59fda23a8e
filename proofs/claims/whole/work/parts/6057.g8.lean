section Z2_G8
variable {K : Bd} {W W' : Wd} {b : Bool} {k s p : Nat} {σ σ' : cl_S} {ρ ρ' : rf_S}
variable {sp L a : Nat} {f : Nat → Int32} {e : Bool}
theorem CsC.z15 (h : CsC sp L f a true σ) : (0:Int32) ≤ σ.1 sp 15 := by
  have := h.aL
  have := h.L2
  rw [h.no rfl, i32_0, n_le (by omega) (by omega)]; omega
/-- the loop over the partitions -/
theorem rd_parts {n : Nat} (hn : n ≤ 8) : ∀ m p a e (σ : cl_S) (ρ : rf_S) (x xq : Int32), n - p = m → p ≤ n → CsC sp L f a e σ → CsQ L f a e ρ → σ.1 sp 0 = nI n → (e = false → ∃ bs sz ar, x = nI (asum ar p) ∧ xq = nI (asum ar p) ∧ PI sp p bs sz ar σ ρ) → ∃ σ' ρ' a' e' y y' z z', lp (fun z : (Int32 × Int32 × cl_S) => lc_X1_read_41 sp z.1 z.2.1 z.2.2) (x, nI p, σ) = some (y, y', σ') ∧ lp (fun z : (Int32 × Int32 × rf_S) => lq_readConfig_22 (nI n) z.1 z.2.1 z.2.2) (xq, nI p, ρ) = some (z, z', ρ') ∧ CsC sp L f a' e' σ' ∧ CsQ L f a' e' ρ' ∧ Kf sp σ σ' ρ ρ' ∧ (∀ j, j ≠ 14 → j ≠ 15 → σ'.1 sp j = σ.1 sp j) ∧ (∀ d, sp + 4 < d → σ'.1 d = σ.1 d) ∧ (∀ i, 23 < i → ρ'.1 79 i = ρ.1 79 i) ∧ (e' = false → ∃ bs sz ar, PI sp n bs sz ar σ' ρ') := by
  have fin : ∀ p a (σ : cl_S) (ρ : rf_S) (x xq : Int32), CsC sp L f a true σ → CsQ L f a true ρ → ∃ σ' ρ' a' e' y y' z z', lp (fun z : (Int32 × Int32 × cl_S) => lc_X1_read_41 sp z.1 z.2.1 z.2.2) (x, nI p, σ) = some (y, y', σ') ∧ lp (fun z : (Int32 × Int32 × rf_S) => lq_readConfig_22 (nI n) z.1 z.2.1 z.2.2) (xq, nI p, ρ) = some (z, z', ρ') ∧ CsC sp L f a' e' σ' ∧ CsQ L f a' e' ρ' ∧ Kf sp σ σ' ρ ρ' ∧ (∀ j, j ≠ 14 → j ≠ 15 → σ'.1 sp j = σ.1 sp j) ∧ (∀ d, sp + 4 < d → σ'.1 d = σ.1 d) ∧ (∀ i, 23 < i → ρ'.1 79 i = ρ.1 79 i) ∧ (e' = false → ∃ bs sz ar, PI sp n bs sz ar σ' ρ') := by
    intro p a σ ρ x xq hC hQ
    have e1 : lc_X1_read_41 sp x (nI p) σ = some (.inr (x, nI p, σ)) := by
      unfold lc_X1_read_41
      by_cases w : σ.1 sp 0 ≤ nI p
      · rw [if_pos w]
      · rw [if_neg w, if_pos hC.z15]
    have hw : ρ.1 0 116 = 1 := hQ.w
    have e2 : lq_readConfig_22 (nI n) xq (nI p) ρ = some (.inr (xq, nI p, ρ)) := by
      unfold lq_readConfig_22
      by_cases w : nI n ≤ nI p
      · rw [if_pos w]
      · rw [if_neg w, hw, if_neg (by decide)]
    exact ⟨σ, ρ, a, true, _, _, _, _, lp_end (s := (x, nI p, σ)) e1, lp_end (s := (xq, nI p, ρ)) e2, hC, hQ, Kf.refl, fun _ _ _ => rfl, fun _ _ => rfl, fun _ _ => rfl, fun w => Bool.noConfusion w⟩
  intro m
  induction m with
  | zero =>
    intro p a e σ ρ x xq hm hp hC hQ h0 hP
    cases e with
    | true => exact fin p a σ ρ x xq hC hQ
    | false =>
      have : p = n := by omega
      subst this
      obtain ⟨bs, sz, ar, -, -, P⟩ := hP rfl
      have e1 : lc_X1_read_41 sp x (nI p) σ = some (.inr (x, nI p, σ)) := by
        unfold lc_X1_read_41
        rw [h0, if_pos ((n_le (by omega) (by omega)).mpr (Nat.le_refl _))]
      have e2 : lq_readConfig_22 (nI p) xq (nI p) ρ = some (.inr (xq, nI p, ρ)) := by
        unfold lq_readConfig_22
        rw [if_pos ((n_le (by omega) (by omega)).mpr (Nat.le_refl _))]
      exact ⟨σ, ρ, a, false, _, _, _, _, lp_end (s := (x, nI p, σ)) e1, lp_end (s := (xq, nI p, ρ)) e2, hC, hQ, Kf.refl, fun _ _ _ => rfl, fun _ _ => rfl, fun _ _ => rfl, fun _ => ⟨bs, sz, ar, P⟩⟩
  | succ m ih =>
    intro p a e σ ρ x xq hm hp hC hQ h0 hP
    cases e with
    | true => exact fin p a σ ρ x xq hC hQ
    | false =>
      obtain ⟨bs, sz, ar, rfl, rfl, P⟩ := hP rfl
      obtain ⟨σ1, ρ1, a1, e1, y, yq, c1, q1, C1, Q1, K1, s1, s2, s3, g1⟩ := rd_part hC hQ (show p < n by omega) hn h0 P
      obtain ⟨σ', ρ', a', e', w1, w2, w3, w4, f1, f2, C2, Q2, K2, t1, t2, t3, g2⟩ := ih (p + 1) a1 e1 σ1 ρ1 y yq (by omega) (by omega) C1 Q1 (by rw [s1 0 (by decide) (by decide)]; exact h0) g1
      exact ⟨σ', ρ', a', e', w1, w2, w3, w4, by rw [lp_next (s := (nI (asum ar p), nI p, σ)) c1]; exact f1, by rw [lp_next (s := (nI (asum ar p), nI p, ρ)) q1]; exact f2, C2, Q2, K1.trans K2, fun j h1 h2 => by rw [t1 j h1 h2, s1 j h1 h2], fun d hd => by rw [t2 d hd, s2 d hd], fun i hi => by rw [t3 i hi, s3 i hi], g2⟩
/-- the channels that were read -/
def CI (sp c n : Nat) (fr to ln : Nat → Nat) (σ : cl_S) (ρ : rf_S) : Prop := ∀ i, i < c → σ.1 (sp + 5) i = nI (fr i) ∧ ρ.1 79 (24 + 3 * i) = nI (fr i) ∧ σ.1 (sp + 6) i = nI (to i) ∧ ρ.1 79 (25 + 3 * i) = nI (to i) ∧ σ.1 (sp + 7) i = nI (ln i) ∧ ρ.1 79 (26 + 3 * i) = nI (ln i) ∧ fr i < n ∧ to i < n ∧ 1 ≤ ln i ∧ ln i ≤ 16
theorem rd_chan (hC : CsC sp L f a false σ) (hQ : CsQ L f a false ρ) {fr to ln : Nat → Nat} {n c m : Nat} (hn1 : 1 ≤ n) (hn : n ≤ 8) (hc : c < m) (hm : m ≤ 16) (e0 : σ.1 sp 0 = nI n) (e5 : σ.1 sp 5 = nI m) (P : CI sp c n fr to ln σ ρ) :
    ∃ σ' ρ' a' e', lc_X1_read_102 sp (nI c) σ = some (.inl (nI (c + 1), σ')) ∧ lq_readConfig_232 (nI n) (nI m) (nI c) ρ = some (.inl (nI (c + 1), ρ')) ∧ CsC sp L f a' e' σ' ∧ CsQ L f a' e' ρ' ∧ Kf sp σ σ' ρ ρ' ∧ (∀ j, j ≠ 14 → j ≠ 15 → σ'.1 sp j = σ.1 sp j) ∧ (∀ d, d ≠ sp → (d < sp + 5 ∨ sp + 7 < d) → σ'.1 d = σ.1 d) ∧ (∀ i, (i < 24 ∨ 71 < i) → ρ'.1 79 i = ρ.1 79 i) ∧ (e' = false → ∃ fr' to' ln', CI sp (c + 1) n fr' to' ln' σ' ρ') := by
  have hsp := hC.sp
  obtain ⟨o1, o2⟩ := hC.ok rfl
  have hw : ρ.1 0 116 = 0 := hQ.w
  have ic : ∀ {α : Type} (z : Option α), ix (nI c) 16 z = z := fun z => n_ix (by omega) (by omega)
  have cc : (nI c).toNatClampNeg = c := n_cl (by omega)
  have sn : nI n - (1:Int32) = nI (n - 1) := n_sub (a := n) (b := 1) hn1
  obtain ⟨u, σ1, ρ1, a1, e1, k1, q1, C1, Q1, K1, d1, n1, g1, -⟩ := nx_same hC hQ 0 (nI (n - 1))
  have C1' : CsC sp L f a1 e1 (cl_w σ1 (sp + 5) c u) := C1.cg (fun j hj => by rw [r_w (by omega)]) (r_w (by omega)) rfl
  have s10 : (cl_w σ1 (sp + 5) c u).1 sp 0 = nI n := by rw [r_w (by omega), d1 sp 0 (by omega)]; exact e0
  obtain ⟨v, σ2, ρ2, a2, e2, k2, q2, C2, Q2, K2, d2, n2, g2, -⟩ := nx_same C1' Q1 0 (nI (n - 1))
  have C2' : CsC sp L f a2 e2 (cl_w σ2 (sp + 6) c v) := C2.cg (fun j hj => by rw [r_w (by omega)]) (r_w (by omega)) rfl
  have a2p : e2 = false → 1 ≤ a2 := fun w => by have := (g2 w).2.1; omega
  have s26 : (cl_w σ2 (sp + 6) c v).1 (sp + 6) c = v := r_ws
  have s25 : (cl_w σ2 (sp + 6) c v).1 (sp + 5) c = u := by rw [r_w (by omega), d2 _ _ (by omega), r_ws]
  -- the refusal of v = u
  obtain ⟨σ3, ρ3, a3, e3, cl, ql, C3, Q3, dd, c32, qq, l3, i3, g3⟩ : ∃ (σ3 : cl_S) (ρ3 : rf_S) (a3 : Nat) (e3 : Bool), (if v = u then bd1 (fc_X1_refuseLast sp (cl_w σ2 (sp + 6) c v)) (fun σ_41 => bc_X1_readChannel_53 sp (nI c) σ_41) else bc_X1_readChannel_53 sp (nI c) (cl_w σ2 (sp + 6) c v)) = bc_X1_readChannel_53 sp (nI c) σ3 ∧ fq_refuse (if v = u then 1 else 0) ρ2 = some ρ3 ∧ CsC sp L f a3 e3 σ3 ∧ CsQ L f a3 e3 ρ3 ∧ (∀ d j, ¬ (d = sp ∧ j = 15) → σ3.1 d j = (cl_w σ2 (sp + 6) c v).1 d j) ∧ σ3.2 = σ2.2 ∧ (∀ c, c ≠ 0 → ρ3.1 c = ρ2.1 c) ∧ ρ3.2 = ρ2.2 ∧ (∀ j, j ≠ 115 → j ≠ 116 → ρ3.1 0 j = ρ2.1 0 j) ∧ (e3 = false → e2 = false ∧ ¬ v = u) := by
    by_cases w : v = u
    · rw [if_pos w, if_pos w]
      obtain ⟨σ3, r1, r2, r3, r4⟩ := C2'.rf a2p
      obtain ⟨ρ3, y1, y2, y3, y4, y5⟩ := Q2.rf (x := 1) (by decide) a2p
      exact ⟨σ3, ρ3, _, true, by rw [r1, bd1n], y1, r2, y2, r3, r4, y3, y4, y5, fun w => Bool.noConfusion w⟩
    · rw [if_neg w, if_neg w]
      exact ⟨_, ρ2, a2, e2, rfl, CsQ.rf0, C2', Q2, fun _ _ _ => rfl, rfl, fun _ _ => rfl, rfl, fun _ _ _ => rfl, fun z => ⟨z, w⟩⟩
  have t4 : (24:Int32) + (3:Int32) * nI c = nI (24 + 3 * c) := by rw [show (3:Int32) = nI 3 from rfl, n_mul, show (24:Int32) = nI 24 from rfl, n_add]
  have t5 : (25:Int32) + (3:Int32) * nI c = nI (25 + 3 * c) := by rw [show (3:Int32) = nI 3 from rfl, n_mul, show (25:Int32) = nI 25 from rfl, n_add]
  have t6 : (26:Int32) + (3:Int32) * nI c = nI (26 + 3 * c) := by rw [show (3:Int32) = nI 3 from rfl, n_mul, show (26:Int32) = nI 26 from rfl, n_add]
  have Q3' : CsQ L f a3 e3 (rf_w (rf_w ρ3 79 (24 + 3 * c) u) 79 (25 + 3 * c) v) := Q3.cg (fun j hj => by rw [q_w (by decide), q_w (by decide)]) (by rw [q_w (by decide), q_w (by decide)]) (by rw [q_w (by decide), q_w (by decide)])
  obtain ⟨w, σ4, ρ4, a4, e4, k4, q4, C4, Q4, K4, d4, n4, g4, -⟩ := nx_same C3 Q3' 1 16
  have ec : lc_X1_read_102 sp (nI c) σ = some (.inl (nI (c + 1), cl_w σ4 (sp + 7) c w)) := by
    unfold lc_X1_read_102 fc_X1_readChannel bc_X1_readChannel_0
    simp only [ic, cc, vln]
    rw [e5, if_neg (fun z => by have := (n_le (by omega) (by omega)).mp z; omega), o2, if_neg (by decide), e0, sn, k1, bd2n, s10, sn, k2, bd2n, s26, s25, cl]
    unfold bc_X1_readChannel_53
    rw [k4, bd2n, ic, cc, vln, bd1n, show nI c + (1:Int32) = nI (c + 1) from n_add c 1]
  have eq : lq_readConfig_232 (nI n) (nI m) (nI c) ρ = some (.inl (nI (c + 1), rf_w ρ4 79 (26 + 3 * c) w)) := by
    have fin : ∀ z, fq_refuse z ρ2 = some ρ3 → bq_readConfig_278i232 (nI n) (nI m) (nI c) u v z ρ2 = some (.inl (nI (c + 1), rf_w ρ4 79 (26 + 3 * c) w)) := by
      intro z hz
      unfold bq_readConfig_278i232
      rw [hz, bd1n, t4, t5, t6, n_ix (show 24 + 3 * c < 200 by omega) (by omega), n_cl (show 24 + 3 * c < 2147483648 by omega), vln, n_ix (show 25 + 3 * c < 200 by omega) (by omega), n_cl (show 25 + 3 * c < 2147483648 by omega), vln, q4, bd2n, n_ix (show 26 + 3 * c < 200 by omega) (by omega), n_cl (show 26 + 3 * c < 2147483648 by omega), vln, vln, show nI c + (1:Int32) = nI (c + 1) from n_add c 1]
    unfold lq_readConfig_232
    rw [if_neg (fun z => by have := (n_le (by omega) (by omega)).mp z; omega), hw, if_pos rfl, sn, q1, bd2n, q2, bd2n]
    by_cases z : v = u
    · rw [if_pos z] at ql ⊢
      exact fin 1 ql
    · rw [if_neg z] at ql ⊢
      exact fin 0 ql
  have sd : ∀ d j, ¬ (d = sp ∧ (j = 14 ∨ j = 15)) → ¬ (d = sp + 5 ∧ j = c) → ¬ (d = sp + 6 ∧ j = c) → ¬ (d = sp + 7 ∧ j = c) → (cl_w σ4 (sp + 7) c w).1 d j = σ.1 d j := fun d j w1 w2 w3 w4 => by rw [g_w, if_neg w4, d4 d j w1, dd d j (by omega), g_w, if_neg w3, d2 d j w1, g_w, if_neg w2, d1 d j w1]
  have q79 : ∀ i, (rf_w ρ4 79 (26 + 3 * c) w).1 79 i = if i = 26 + 3 * c then w else if i = 25 + 3 * c then v else if i = 24 + 3 * c then u else ρ.1 79 i := by
    intro i
    rw [g_q, n4, g_q, g_q, qq 79 (by decide), n2, n1]
    simp only [true_and]
  refine ⟨_, _, a4, e4, ec, eq, C4.cg (fun j hj => by rw [r_w (by omega)]) (r_w (by omega)) rfl, Q4.cg (fun j hj => by rw [q_w (by decide)]) (by rw [q_w (by decide)]) (by rw [q_w (by decide)]), ?_, fun j h1 h2 => sd sp j (by omega) (by omega) (by omega) (by omega), fun d h1 h2 => funext fun j => sd d j (by omega) (by omega) (by omega) (by omega), fun i hi => by rw [q79, if_neg (by omega), if_neg (by omega), if_neg (by omega)], fun ee => ?_⟩
  · refine ⟨fun d hd => funext fun j => sd d j (by omega) (by omega) (by omega) (by omega), by show σ4.2 = σ.2; rw [K4.c2, c32, K2.c2]; show σ1.2 = σ.2; exact K1.c2, fun x w1 w2 => by rw [q_w w2, K4.q x w1 w2, q_w w2, q_w w2, qq x w1, K2.q x w1 w2, K1.q x w1 w2], by show ρ4.2 = ρ.2; rw [K4.l]; show ρ3.2 = ρ.2; rw [l3, K2.l, K1.l], fun j w1 w2 => by rw [q_w (by decide), K4.i j w1 w2, q_w (by decide), q_w (by decide), i3 j w1 w2, K2.i j w1 w2, K1.i j w1 w2]⟩
  · obtain ⟨ee3, -, h1, h2⟩ := g4 ee
    obtain ⟨ee2, hne⟩ := g3 ee3
    obtain ⟨ee1, -, h3, h4⟩ := g2 ee2
    obtain ⟨-, -, h5, h6⟩ := g1 ee1
    rcases n_cases u with hx | ⟨x, hx, rfl⟩
    · exact absurd hx h5
    rcases n_cases v with hy | ⟨y, hy, rfl⟩
    · exact absurd hy h3
    rcases n_cases w with hz | ⟨z, hz, rfl⟩
    · exact absurd (n_neg hz (show 1 < 2147483648 by omega)).1 h1
    have x1 := (n_le hx (by omega)).mp h6
    have y1 := (n_le hy (by omega)).mp h4
    have z1 : z ≤ 16 := (n_le (a := z) (b := 16) hz (by omega)).mp h2
    have z0 : 1 ≤ z := by
      apply Classical.byContradiction
      intro q
      exact h1 ((n_lt (a := z) (b := 1) hz (by omega)).mpr (by omega))
    refine ⟨va_up fr c x, va_up to c y, va_up ln c z, fun i hi => ?_⟩
    by_cases c' : i = c
    · subst c'
      rw [up_s, up_s, up_s, q79, q79, q79, if_neg (by omega), if_neg (by omega), if_pos rfl, if_neg (by omega), if_pos rfl, if_pos rfl]
      exact ⟨by rw [r_w (by omega), d4 _ _ (by omega), dd _ _ (by omega)]; exact s25, rfl, by rw [r_w (by omega), d4 _ _ (by omega), dd _ _ (by omega)]; exact s26, rfl, r_ws, rfl, by omega, by omega, z0, z1⟩
    · obtain ⟨v1, v2, v3, v4, v5, v6, v7⟩ := P i (by omega)
      rw [up_n c', up_n c', up_n c', q79, q79, q79, if_neg (by omega), if_neg (by omega), if_neg (by omega), if_neg (by omega), if_neg (by omega), if_neg (by omega), if_neg (by omega), if_neg (by omega), if_neg (by omega), sd (sp + 5) i (by omega) (by omega) (by omega) (by omega), sd (sp + 6) i (by omega) (by omega) (by omega) (by omega), sd (sp + 7) i (by omega) (by omega) (by omega) (by omega)]
      exact ⟨v1, v2, v3, v4, v5, v6, v7⟩
end Z2_G8
