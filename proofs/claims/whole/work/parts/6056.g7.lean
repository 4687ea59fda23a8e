section Z2_G7
variable {K : Bd} {W W' : Wd} {b : Bool} {k s p : Nat} {σ σ' : cl_S} {ρ ρ' : rf_S}
variable {sp L a : Nat} {f : Nat → Int32} {e : Bool}
/-- a word that the reference takes within a wider bound and then may refuse -/
theorem nx_wide (hC : CsC sp L f a e σ) (hQ : CsQ L f a e ρ) (lo hi hq : Int32) (cnd : Int32 → Int32) (hle : ∀ v, v ≤ hi → v ≤ hq) (h0 : e = false → ¬ f a < lo → f a ≤ hi → cnd (f a) = 0) (h1 : e = false → a < L → ¬ f a < lo → f a ≤ hq → ¬ f a ≤ hi → ¬ cnd (f a) = 0) : ∃ v vq σ' ρ1 ρ' a' e', fc_X1_nextWord sp lo hi σ = some (v, σ') ∧ fq_config lo hq ρ = some (vq, ρ1) ∧ fq_refuse (cnd vq) ρ1 = some ρ' ∧ CsC sp L f a' e' σ' ∧ CsQ L f a' e' ρ' ∧ Kf sp σ σ' ρ ρ' ∧ (∀ d j, ¬ (d = sp ∧ (j = 14 ∨ j = 15)) → σ'.1 d j = σ.1 d j) ∧ ρ'.1 79 = ρ.1 79 ∧ (e' = false → e = false ∧ a' = a + 1 ∧ vq = v ∧ ¬ v < lo ∧ v ≤ hi) := by
  have hsp := hC.sp
  have kf : ∀ {ρ1 ρ2 : rf_S} {j : Nat} {v : Int32}, j = 115 ∨ j = 116 → (∀ c, c ≠ 0 → ρ2.1 c = (rf_w ρ 0 j v).1 c) → ρ2.2 = (rf_w ρ 0 j v).2 → (∀ i, i ≠ 115 → i ≠ 116 → ρ2.1 0 i = (rf_w ρ 0 j v).1 0 i) → ∀ {σ2 : cl_S}, (∀ d, d ≠ sp → σ2.1 d = σ.1 d) → σ2.2 = σ.2 → Kf sp σ σ2 ρ ρ2 := by
    intro ρ1 ρ2 j v hj k1 k2 k3 σ2 k4 k5
    exact ⟨fun d hd => k4 d (by omega), k5, fun c w1 w2 => by rw [k1 c w1, q_w w1], k2, fun i w1 w2 => by rw [k3 i w1 w2, q_wk (by omega)]⟩
  cases e with
  | true =>
    rcases hC.nx lo hi with ⟨w, -⟩ | ⟨w, -⟩ | ⟨-, b4⟩
    · cases w
    · cases w
    · rcases hQ.nx lo hq with ⟨w, -⟩ | ⟨-, c4, c5⟩
      · cases w
      · by_cases z : cnd lo = 0
        · refine ⟨_, _, σ, _, _, a, true, b4, c4, by rw [z]; exact CsQ.rf0, hC, c5, kf (ρ1 := ρ) (j := 116) (v := 1) (Or.inr rfl) (fun _ _ => rfl) rfl (fun _ _ _ => rfl) (fun _ _ => rfl) rfl, fun _ _ _ => rfl, q_w (by decide), fun w => Bool.noConfusion w⟩
        · obtain ⟨ρ3, y1, y2, y3, y4, y5⟩ := c5.rf z (fun w => Bool.noConfusion w)
          exact ⟨_, _, σ, _, ρ3, a, true, b4, c4, y1, hC, y2, kf (ρ1 := ρ) (j := 116) (v := 1) (Or.inr rfl) y3 y4 y5 (fun _ _ => rfl) rfl, fun _ _ _ => rfl, by rw [y3 79 (by decide), q_w (by decide)], fun w => Bool.noConfusion w⟩
  | false =>
    rcases hC.nx lo hi with ⟨-, b1, b2, b3, b4, b5⟩ | ⟨-, b1, b4, b5⟩ | ⟨w, -⟩
    · rcases hQ.nx lo hq with ⟨-, c1, c2, c3, c4, c5⟩ | ⟨c1, c4, c5⟩
      · exact ⟨_, _, _, _, _, a + 1, false, b4, c4, by rw [h0 rfl b2 b3]; exact CsQ.rf0, b5, c5, kf (ρ1 := ρ) (j := 115) (v := nI (a + 1)) (Or.inl rfl) (fun _ _ => rfl) rfl (fun _ _ _ => rfl) (fun d hd => r_w hd) rfl, fun d j hd => by rw [g_w, if_neg (by omega)], q_w (by decide), fun _ => ⟨rfl, rfl, rfl, b2, b3⟩⟩
      · rcases c1 rfl with c1 | c1 | c1
        · omega
        · exact absurd c1 b2
        · exact absurd (hle _ b3) c1
    · rcases hQ.nx lo hq with ⟨-, c1, c2, c3, c4, c5⟩ | ⟨-, c4, c5⟩
      · have nh : ¬ f a ≤ hi := by
          rcases b1 with b1 | b1 | b1
          · omega
          · exact absurd b1 c2
          · exact b1
        obtain ⟨ρ3, y1, y2, y3, y4, y5⟩ := c5.rf (h1 rfl c1 c2 c3 nh) (fun _ => by omega)
        exact ⟨_, _, _, _, ρ3, a, true, b4, c4, y1, b5, y2, kf (ρ1 := ρ) (j := 115) (v := nI (a + 1)) (Or.inl rfl) y3 y4 y5 (fun d hd => r_w hd) rfl, fun d j hd => by rw [g_w, if_neg (by omega)], by rw [y3 79 (by decide), q_w (by decide)], fun w => Bool.noConfusion w⟩
      · by_cases z : cnd lo = 0
        · exact ⟨_, _, _, _, _, a, true, b4, c4, by rw [z]; exact CsQ.rf0, b5, c5, kf (ρ1 := ρ) (j := 116) (v := 1) (Or.inr rfl) (fun _ _ => rfl) rfl (fun _ _ _ => rfl) (fun d hd => r_w hd) rfl, fun d j hd => by rw [g_w, if_neg (by omega)], q_w (by decide), fun w => Bool.noConfusion w⟩
        · obtain ⟨ρ3, y1, y2, y3, y4, y5⟩ := c5.rf z (fun w => Bool.noConfusion w)
          exact ⟨_, _, _, _, ρ3, a, true, b4, c4, y1, b5, y2, kf (ρ1 := ρ) (j := 116) (v := 1) (Or.inr rfl) y3 y4 y5 (fun d hd => r_w hd) rfl, fun d j hd => by rw [g_w, if_neg (by omega)], by rw [y3 79 (by decide), q_w (by decide)], fun w => Bool.noConfusion w⟩
    · cases w
/-- a partition is read -/
theorem rd_part (hC : CsC sp L f a false σ) (hQ : CsQ L f a false ρ) {bs sz ar : Nat → Nat} {n : Nat} (hp : p < n) (hn : n ≤ 8) (e0 : σ.1 sp 0 = nI n) (P : PI sp p bs sz ar σ ρ) :
    ∃ σ' ρ' a' e' x xq, lc_X1_read_41 sp (nI (asum ar p)) (nI p) σ = some (.inl (x, nI (p + 1), σ')) ∧ lq_readConfig_22 (nI n) (nI (asum ar p)) (nI p) ρ = some (.inl (xq, nI (p + 1), ρ')) ∧ CsC sp L f a' e' σ' ∧ CsQ L f a' e' ρ' ∧ Kf sp σ σ' ρ ρ' ∧ (∀ j, j ≠ 14 → j ≠ 15 → σ'.1 sp j = σ.1 sp j) ∧ (∀ d, sp + 4 < d → σ'.1 d = σ.1 d) ∧ (∀ i, 23 < i → ρ'.1 79 i = ρ.1 79 i) ∧ (e' = false → ∃ bs' sz' ar', x = nI (asum ar' (p + 1)) ∧ xq = nI (asum ar' (p + 1)) ∧ PI sp (p + 1) bs' sz' ar' σ' ρ') := by
  have hsp := hC.sp
  have p8 : p < 8 := by omega
  have hx := P.sm
  have ip : ∀ {α : Type} (z : Option α), ix (nI p) 8 z = z := fun z => n_ix p8 (by omega)
  have cp : (nI p).toNatClampNeg = p := n_cl (by omega)
  obtain ⟨o1, o2⟩ := hC.ok rfl
  have C0 : CsC sp L f a false (cl_w σ (sp + 4) p (nI (asum ar p))) := hC.cg (fun j hj => by rw [r_w (by omega)]) (r_w (by omega)) rfl
  have P0 : PI sp p bs sz ar (cl_w σ (sp + 4) p (nI (asum ar p))) ρ := by
    refine ⟨fun q hq => ?_, P.bd, P.dj, P.sm⟩
    rw [r_w (by omega), r_w (by omega), r_w (by omega), r_wk (by omega)]
    exact P.v q hq
  obtain ⟨σ1, ρ1, a1, e1, u, v, uq, vq, k1, k2, C1, Q1, K1, d1, n1, g1⟩ := rd_bs C0 hQ p8 P0 (nI n) (nI (asum ar p)) (nI (asum ar p))
  obtain ⟨r, rq, σ2, ρ2, ρ3, a2, e2, m1, m2, m3, C2, Q2, K2, d2, n2, g2⟩ := nx_wide C1 Q1 0 (nI (min (32 - asum ar p) 8)) 8 (fun v => if nI (asum ar p) + v ≤ (32:Int32) then 0 else 1) (fun v hv => by
    have : nI (min (32 - asum ar p) 8) ≤ (8:Int32) := by rw [show (8:Int32) = nI 8 from rfl, n_le (by omega) (by omega)]; exact Nat.min_le_right _ _
    exact Int32.le_trans hv this) (fun _ => (fun v (h1 : ¬ v < 0) (h2 : v ≤ nI (min (32 - asum ar p) 8)) => show (if nI (asum ar p) + v ≤ (32:Int32) then (0:Int32) else 1) = 0 by
    rcases n_cases v with hv | ⟨m, hm, rfl⟩
    · exact absurd hv h1
    · have h3 := (n_le hm (by omega)).mp h2
      have h4 := Nat.le_min.mp h3
      exact if_pos (by rw [n_add, show (32:Int32) = nI 32 from rfl, n_le (by omega) (by omega)]; omega)) (f a1)) (fun _ _ => (fun v (h1 : ¬ v < 0) (h2 : v ≤ 8) (h3 : ¬ v ≤ nI (min (32 - asum ar p) 8)) => show ¬ (if nI (asum ar p) + v ≤ (32:Int32) then (0:Int32) else 1) = 0 by
    rcases n_cases v with hv | ⟨m, hm, rfl⟩
    · exact absurd hv h1
    · have h4 : m ≤ 8 := (n_le (a := m) (b := 8) hm (by omega)).mp h2
      have h5 : ¬ m ≤ 32 - asum ar p := fun w => h3 ((n_le hm (by omega)).mpr (Nat.le_min.mpr ⟨w, h4⟩))
      rw [if_neg (by rw [n_add, show (32:Int32) = nI 32 from rfl, n_le (by omega) (by omega)]; omega)]
      decide) (f a1))
  have hmin : (if ((32:Int32) - nI (asum ar p)) < (8:Int32) then ((32:Int32) - nI (asum ar p)) else (8:Int32)) = nI (min (32 - asum ar p) 8) := by
    rw [show (32:Int32) - nI (asum ar p) = nI (32 - asum ar p) from n_sub (a := 32) (b := asum ar p) (by omega)]
    by_cases w : 32 - asum ar p < 8
    · rw [if_pos (show nI (32 - asum ar p) < (8:Int32) from (n_lt (a := 32 - asum ar p) (b := 8) (by omega) (by omega)).mpr w), Nat.min_eq_left (by omega)]
    · rw [if_neg (show ¬ nI (32 - asum ar p) < (8:Int32) from fun z => w ((n_lt (a := 32 - asum ar p) (b := 8) (by omega) (by omega)).mp z)), Nat.min_eq_right (by omega)]; rfl
  have ec : lc_X1_read_41 sp (nI (asum ar p)) (nI p) σ = some (.inl (nI (asum ar p) + r, nI (p + 1), cl_w σ2 (sp + 3) p r)) := by
    rw [cp] at k1
    unfold lc_X1_read_41 fc_X1_readPartition bc_X1_readPartition_0
    rw [e0, if_neg (fun w => by have := (n_le (by omega) (by omega)).mp w; omega), o2, if_neg (by decide), ip, cp, vln, k1]
    unfold ec_X1_readPartition_44
    rw [hmin, m1, bd2n, ip, cp, vln, bd1n, ip, r_ws, vln, vln, show nI p + (1:Int32) = nI (p + 1) from n_add p 1]
  have t3 : (3:Int32) * nI p = nI (3 * p) := n_mul 3 p
  have t4 : nI (3 * p) + (1:Int32) = nI (3 * p + 1) := n_add _ 1
  have t5 : nI (3 * p) + (2:Int32) = nI (3 * p + 2) := n_add _ 2
  have i3 : ∀ {α : Type} (z : Option α), ix (nI (3 * p)) 200 z = z := fun z => n_ix (by omega) (by omega)
  have i4 : ∀ {α : Type} (z : Option α), ix (nI (3 * p + 1)) 200 z = z := fun z => n_ix (by omega) (by omega)
  have i5 : ∀ {α : Type} (z : Option α), ix (nI (3 * p + 2)) 200 z = z := fun z => n_ix (by omega) (by omega)
  have eq : lq_readConfig_22 (nI n) (nI (asum ar p)) (nI p) ρ = some (.inl (nI (asum ar p) + rq, nI (p + 1), rf_w (rf_w (rf_w ρ3 79 (3 * p) uq) 79 (3 * p + 1) vq) 79 (3 * p + 2) rq)) := by
    unfold lq_readConfig_22
    have hw : ρ.1 0 116 = 0 := hQ.w
    rw [if_neg (fun w => by have := (n_le (by omega) (by omega)).mp w; omega), hw, if_pos rfl, k2 (fun r s τ' => bd2 (fq_config (0:Int32) (8:Int32) τ') (fun r_12 ρ_11 => (if (nI (asum ar p) + r_12) ≤ (32:Int32) then bq_readConfig_173i22 (nI n) (nI (asum ar p)) (nI p) r s r_12 (0:Int32) ρ_11 else bq_readConfig_173i22 (nI n) (nI (asum ar p)) (nI p) r s r_12 (1:Int32) ρ_11))) (fun r s τ bad => rfl), m2, bd2n]
    have fin : ∀ w, fq_refuse w ρ2 = some ρ3 → bq_readConfig_173i22 (nI n) (nI (asum ar p)) (nI p) uq vq rq w ρ2 = some (.inl (nI (asum ar p) + rq, nI (p + 1), rf_w (rf_w (rf_w ρ3 79 (3 * p) uq) 79 (3 * p + 1) vq) 79 (3 * p + 2) rq)) := by
      intro w hw
      unfold bq_readConfig_173i22
      rw [hw, bd1n, t3, t4, t5]
      simp only [vln, i3, i4, i5, n_cl (show 3 * p < 2147483648 by omega), n_cl (show 3 * p + 1 < 2147483648 by omega), n_cl (show 3 * p + 2 < 2147483648 by omega), show nI p + (1:Int32) = nI (p + 1) from n_add p 1]
    by_cases w : nI (asum ar p) + rq ≤ (32:Int32)
    · rw [if_pos w] at m3 ⊢
      exact fin 0 m3
    · rw [if_neg w] at m3 ⊢
      exact fin 1 m3
  have q79 : ∀ i, (rf_w (rf_w (rf_w ρ3 79 (3 * p) uq) 79 (3 * p + 1) vq) 79 (3 * p + 2) rq).1 79 i = if i = 3 * p + 2 then rq else if i = 3 * p + 1 then vq else if i = 3 * p then uq else ρ.1 79 i := by
    intro i
    simp only [g_q, true_and]
    rw [n2, n1]
  refine ⟨_, _, a2, e2, _, _, ec, eq, C2.cg (fun j hj => by rw [r_w (by omega)]) (r_w (by omega)) rfl, Q2.cg (fun j hj => by rw [q_w (by decide), q_w (by decide), q_w (by decide)]) (by rw [q_w (by decide), q_w (by decide), q_w (by decide)]) (by rw [q_w (by decide), q_w (by decide), q_w (by decide)]), ?_, fun j h1 h2 => ?_, fun d hd => ?_, fun i hi => ?_, fun ee => ?_⟩
  · refine ⟨fun d hd => by rw [r_w (by omega), K2.I d hd, K1.I d hd, r_w (by omega)], by show σ2.2 = σ.2; rw [K2.c2, K1.c2]; rfl, fun c w1 w2 => by rw [q_w w2, q_w w2, q_w w2, K2.q c w1 w2, K1.q c w1 w2], by show ρ3.2 = ρ.2; rw [K2.l, K1.l], fun j w1 w2 => by rw [q_w (by decide), q_w (by decide), q_w (by decide), K2.i j w1 w2, K1.i j w1 w2]⟩
  · rw [r_w (by omega), d2 sp j (by omega), d1 sp j (by omega) (by omega) (by omega), r_w (by omega)]
  · exact funext fun j => by rw [r_w (by omega), d2 d j (by omega), d1 d j (by omega) (by omega) (by omega), r_w (by omega)]
  · rw [q79, if_neg (by omega), if_neg (by omega), if_neg (by omega)]
  · obtain ⟨ee1, -, er, h1, h2⟩ := g2 ee
    obtain ⟨b, s, ub, vs, ubq, vsq, s1, s2, s3, s4, s5, s6⟩ := g1 ee1
    subst er
    rcases n_cases rq with hv | ⟨m, hm, rfl⟩
    · exact absurd hv h1
    have h3 := Nat.le_min.mp ((n_le hm (by omega)).mp h2)
    have as : asum (va_up ar p m) p = asum ar p := asum_cg (fun q hq => up_n (by omega))
    have as2 : asum (va_up ar p m) (p + 1) = asum ar p + m := by
      show asum (va_up ar p m) p + va_up ar p m p = _
      rw [as, up_s]
    refine ⟨va_up bs p b, va_up sz p s, va_up ar p m, by rw [n_add, as2], by rw [n_add, as2], ⟨fun q hq => ?_, fun q hq => ?_, fun q q' hqq hq => ?_, by rw [as2]; omega⟩⟩
    · by_cases c : q = p
      · subst c
        rw [up_s, up_s, up_s, q79, q79, q79, if_neg (by omega), if_neg (by omega), if_pos rfl, if_neg (by omega), if_pos rfl, if_pos rfl]
        refine ⟨by rw [r_w (by omega), d2 _ _ (by omega)]; exact s1, ubq, by rw [r_w (by omega), d2 _ _ (by omega)]; exact s2, vsq, r_ws, rfl, ?_⟩
        rw [r_w (by omega), d2 _ _ (by omega), d1 _ _ (by omega) (by omega) (by omega), r_ws, as]
      · have hq' : q < p := by omega
        obtain ⟨v1, v2, v3, v4, v5, v6, v7⟩ := P0.v q hq'
        rw [up_n c, up_n c, up_n c, q79, q79, q79, if_neg (by omega), if_neg (by omega), if_neg (by omega), if_neg (by omega), if_neg (by omega), if_neg (by omega), if_neg (by omega), if_neg (by omega), if_neg (by omega)]
        refine ⟨?_, v2, ?_, v4, ?_, v6, ?_⟩
        · rw [r_w (by omega), d2 _ _ (by omega), d1 _ _ (by omega) (by omega) (by omega)]; exact v1
        · rw [r_w (by omega), d2 _ _ (by omega), d1 _ _ (by omega) (by omega) (by omega)]; exact v3
        · rw [r_wk c, d2 _ _ (by omega), d1 _ _ (by omega) (by omega) (by omega)]; exact v5
        · rw [r_w (by omega), d2 _ _ (by omega), d1 _ _ (by omega) (by omega) (by omega), asum_cg (h := ar) (fun i hi => up_n (by omega))]; exact v7
    · by_cases c : q = p
      · subst c; rw [up_s, up_s, up_s]; exact ⟨s3, s4, s5, h3.2⟩
      · rw [up_n c, up_n c, up_n c]; exact P.bd q (by omega)
    · by_cases c : q' = p
      · subst c
        rw [up_s, up_s, up_n (show q ≠ q' by omega), up_n (show q ≠ q' by omega)]
        exact s6 q hqq
      · rw [up_n (show q ≠ p by omega), up_n (show q ≠ p by omega), up_n c, up_n c]
        exact P.dj q q' hqq (by omega)
end Z2_G7
