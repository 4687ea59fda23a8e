section Z2_LN
variable {K : Bd} {W W' : Wd} {b : Bool} {k s p : Nat} {σ σ' : cl_S} {ρ ρ' : rf_S}
/-- n ticks of the reference; g: as long as the power is on -/
noncomputable def tkN (g : Bool) : Nat → rf_S → Option (Nat × rf_S)
  | 0, ρ => some (0, ρ)
  | n + 1, ρ => if g = true ∧ ρ.1 0 51 = 0 then some (0, ρ) else bd2 (fq_tick ρ) (fun r ρ' => if r = 0 then some (0, ρ') else bd2 (tkN g n ρ') (fun d ρ'' => some (d + 1, ρ'')))
theorem tkN_succ (g : Bool) (n : Nat) (ρ : rf_S) : tkN g (n + 1) ρ = if g = true ∧ ρ.1 0 51 = 0 then some (0, ρ) else bd2 (fq_tick ρ) (fun r ρ' => if r = 0 then some (0, ρ') else bd2 (tkN g n ρ') (fun d ρ'' => some (d + 1, ρ''))) := rfl
theorem tkN_add {g : Bool} {n : Nat} : ∀ {a : Nat} {ρ ρ' : rf_S}, tkN g a ρ = some (a, ρ') → tkN g (a + n) ρ = bd2 (tkN g n ρ') (fun d ρ'' => some (a + d, ρ'')) := by
  intro a
  induction a with
  | zero =>
    intro ρ ρ' h
    unfold tkN at h
    have := Option.some.inj h
    rw [Prod.mk.injEq] at this
    rw [this.2, Nat.zero_add]
    rcases tkN g n ρ' with _ | ⟨d, τ⟩
    · rfl
    · show _ = some (0 + d, τ); rw [Nat.zero_add]
  | succ a ih =>
    intro ρ ρ' h
    rw [tkN_succ] at h
    rw [show a + 1 + n = (a + n) + 1 by omega, tkN_succ]
    by_cases cg : g = true ∧ ρ.1 0 51 = 0
    · rw [if_pos cg] at h
      have := Option.some.inj h
      rw [Prod.mk.injEq] at this
      omega
    rw [if_neg cg] at h ⊢
    rcases e0 : fq_tick ρ with _ | ⟨r, τ⟩
    · rw [e0] at h; cases h
    · rw [e0] at h
      rw [bd2n] at h ⊢
      by_cases c : r = 0
      · rw [if_pos c] at h
        have := Option.some.inj h
        rw [Prod.mk.injEq] at this
        omega
      · rw [if_neg c] at h ⊢
        rcases e : tkN g a τ with _ | ⟨d, τ2⟩
        · rw [e] at h; cases h
        · rw [e, bd2n] at h
          have := Option.some.inj h
          rw [Prod.mk.injEq] at this
          have hd : d = a := by omega
          subst hd
          rw [ih e, this.2]
          rcases tkN g n ρ' with _ | ⟨d2, τ3⟩
          · rfl
          · rw [bd2n, bd2n, bd2n]
            congr 2
            omega
/-- the reference's loop of a run -/
theorem q_runlp {n : Nat} (hn : n < 2147483648) : ∀ m o ρ d ρ', n - o = m → o ≤ n → tkN true m ρ = some (d, ρ') → lp (fun z : (Int32 × rf_S) => lq_run_48 (nI n) z.1 z.2) (nI o, ρ) = some (nI (o + d), ρ') := by
  intro m
  induction m with
  | zero =>
    intro o ρ d ρ' hm ho h
    unfold tkN at h
    have := Option.some.inj h
    rw [Prod.mk.injEq] at this
    rw [← this.1, ← this.2]
    have eb : lq_run_48 (nI n) (nI o) ρ = some (.inr (nI o, ρ)) := by
      unfold lq_run_48
      rw [if_pos ((n_le (by omega) (by omega)).mpr (by omega))]
    exact lp_end eb
  | succ m ih =>
    intro o ρ d ρ' hm ho h
    rw [tkN_succ] at h
    have hlt : ¬ nI n ≤ nI o := fun q => by have := (n_le (by omega) (by omega)).mp q; omega
    by_cases cg : true = true ∧ ρ.1 0 51 = 0
    · rw [if_pos cg] at h
      have := Option.some.inj h
      rw [Prod.mk.injEq] at this
      rw [← this.1, ← this.2]
      have eb : lq_run_48 (nI n) (nI o) ρ = some (.inr (nI o, ρ)) := by
        unfold lq_run_48
        rw [if_neg hlt, if_pos cg.2]
      exact lp_end eb
    rw [if_neg cg] at h
    have on : ¬ ρ.1 0 51 = 0 := fun q => cg ⟨rfl, q⟩
    rcases e0 : fq_tick ρ with _ | ⟨r, τ⟩
    · rw [e0] at h; cases h
    · rw [e0, bd2n] at h
      by_cases c : r = 0
      · rw [if_pos c] at h
        have := Option.some.inj h
        rw [Prod.mk.injEq] at this
        rw [← this.1, ← this.2]
        have eb : lq_run_48 (nI n) (nI o) ρ = some (.inr (nI o, τ)) := by
          unfold lq_run_48
          rw [if_neg hlt, if_neg on, e0, bd2n, if_pos c]
        exact lp_end eb
      · rw [if_neg c] at h
        rcases e : tkN true m τ with _ | ⟨d2, τ2⟩
        · rw [e] at h; cases h
        · rw [e, bd2n] at h
          have := Option.some.inj h
          rw [Prod.mk.injEq] at this
          have eb : lq_run_48 (nI n) (nI o) ρ = some (.inl (nI (o + 1), τ)) := by
            unfold lq_run_48
            rw [if_neg hlt, if_neg on, e0, bd2n, if_neg c, vln, show nI o + (1:Int32) = nI (o + 1) from n_add o 1]
          rw [lp_next eb, ih (o + 1) τ d2 τ2 (by omega) (by omega) e, ← this.1, ← this.2]
          congr 2
          congr 1
          omega
/-- nobody steps -/
def Idl (W : Wd) (s i : Nat) (ρ : rf_S) : Prop := W.np ≤ W.who i ∨ ¬ ρ.1 55 (8 * s + W.who i) = 0 ∨ ¬ ρ.1 51 s = 0
theorem q_idl (C : CfgR W σ ρ) (hs : s < 2) (sd : ρ.1 0 79 = nI s) {i : Nat} (e49 : ρ.1 49 s = nI i) (hi : i < W.ns) (I : Idl W s i ρ) : fq_tick ρ = bq_tick_62 (rf_w ρ 0 108 0) := by
  obtain ⟨hns, -, -, n64⟩ := C.ns
  obtain ⟨np8, -, n55⟩ := C.np
  obtain ⟨⟨hw, -⟩, -, e35, -⟩ := C.sl i hi
  have w2 : W.who i < 256 := by omega
  unfold fq_tick bq_tick_0
  have f55 : (rf_w ρ 0 108 0).1 0 55 = nI W.np := by rw [q_wk (by decide)]; exact n55
  have f79 : (rf_w ρ 0 108 0).1 0 79 = nI s := by rw [q_wk (by decide)]; exact sd
  rw [sd, n_ix hs (by omega), n_cl (show s < 2147483648 by omega), e49, n_ix (show i < 32 by omega) (by omega), n_cl (show i < 2147483648 by omega), e35, vln, vln, f55]
  by_cases c : W.np ≤ W.who i
  · rw [if_pos ((n_le (by omega) (by omega)).mpr c)]
  · rw [if_neg (fun q => c ((n_le (by omega) (by omega)).mp q)), f79, show (8:Int32) * nI s + nI (W.who i) = nI (8 * s + W.who i) from by rw [show (8:Int32) = nI 8 from rfl, n_mul, n_add], n_ix (show 8 * s + W.who i < 16 by omega) (by omega), n_cl (show 8 * s + W.who i < 2147483648 by omega), q_w (show (55:Nat) ≠ 0 by decide)]
    by_cases c2 : ρ.1 55 (8 * s + W.who i) = 0
    · rw [if_pos c2, n_ix hs (by omega), n_cl (show s < 2147483648 by omega), q_w (show (51:Nat) ≠ 0 by decide), if_neg (by
        rcases I with I | I | I
        · exact absurd I c
        · exact absurd c2 I
        · exact I)]
    · rw [if_neg c2]
theorem q_act (C : CfgR W σ ρ) (hs : s < 2) (sd : ρ.1 0 79 = nI s) {i : Nat} (e49 : ρ.1 49 s = nI i) (hi : i < W.ns) (I : ¬ Idl W s i ρ) : fq_tick ρ = bd1 (fq_step (nI (W.who i)) (rf_w ρ 0 108 0)) (fun ρ_8 => bq_tick_62 ρ_8) := by
  obtain ⟨hns, -, -, n64⟩ := C.ns
  obtain ⟨np8, -, n55⟩ := C.np
  obtain ⟨⟨hw, -⟩, -, e35, -⟩ := C.sl i hi
  have w2 : W.who i < 256 := by omega
  unfold fq_tick bq_tick_0
  have f55 : (rf_w ρ 0 108 0).1 0 55 = nI W.np := by rw [q_wk (by decide)]; exact n55
  have f79 : (rf_w ρ 0 108 0).1 0 79 = nI s := by rw [q_wk (by decide)]; exact sd
  have i1 : ¬ W.np ≤ W.who i := fun q => I (Or.inl q)
  have i2 : ρ.1 55 (8 * s + W.who i) = 0 := Classical.byContradiction fun q => I (Or.inr (Or.inl q))
  have i3 : ρ.1 51 s = 0 := Classical.byContradiction fun q => I (Or.inr (Or.inr q))
  rw [sd, n_ix hs (by omega), n_cl (show s < 2147483648 by omega), e49, n_ix (show i < 32 by omega) (by omega), n_cl (show i < 2147483648 by omega), e35, vln, vln, f55]
  rw [if_neg (fun q => i1 ((n_le (by omega) (by omega)).mp q)), f79, show (8:Int32) * nI s + nI (W.who i) = nI (8 * s + W.who i) from by rw [show (8:Int32) = nI 8 from rfl, n_mul, n_add], n_ix (show 8 * s + W.who i < 16 by omega) (by omega), n_cl (show 8 * s + W.who i < 2147483648 by omega), q_w (show (55:Nat) ≠ 0 by decide), if_pos i2, n_ix hs (by omega), n_cl (show s < 2147483648 by omega), q_w (show (51:Nat) ≠ 0 by decide), if_pos i3]
theorem CfgR.idr {i j t d : Nat} (C : CfgR W σ ρ) (I : IdR W s i j t d ρ ρ') : CfgR W σ ρ' := C.fr (Wd.le.refl W) (fun _ _ => rfl) (fun c h1 h2 => funext fun x => I.q c x (by omega) (by omega)) (fun x hx => I.f x (by omega))
theorem idle_n {g : Bool} (C : CfgR W σ ρ) (hs : s < 2) (sd : ρ.1 0 79 = nI s) {i j t : Nat} (e48 : ρ.1 48 s = nI t) (e49 : ρ.1 49 s = nI i) (e50 : ρ.1 50 s = nI j) (hi : i < W.ns) (I : Idl W s i ρ) (hg : ¬ (g = true ∧ ρ.1 0 51 = 0)) : ∀ d, 0 < d → j + d ≤ W.stp i → ∃ ρ', tkN g d ρ = some (d, ρ') ∧ IdR W s i j t d ρ ρ' := by
  have one : ∀ {τ : rf_S} {j' t' : Nat}, CfgR W σ τ → τ.1 0 79 = nI s → τ.1 48 s = nI t' → τ.1 49 s = nI i → τ.1 50 s = nI j' → Idl W s i τ → ¬ (g = true ∧ τ.1 0 51 = 0) → j' < W.stp i → ∃ τ', tkN g 1 τ = some (1, τ') ∧ IdR W s i j' t' 1 τ τ' := by
    intro τ j' t' C' d1 d2 d3 d4 I' hg' hj
    have C0 : CfgR W σ (rf_w τ 0 108 0) := C'.fr (Wd.le.refl W) (fun _ _ => rfl) (fun c h1 h2 => q_w (by omega)) (fun x hx => q_wk (by omega))
    obtain ⟨τ', e, R⟩ := q_62 (s := s) C0 hs (by rw [q_wk (by decide)]; exact d1) q_ws (by rw [q_w (by decide)]; exact d2) (by rw [q_w (by decide)]; exact d3) (by rw [q_w (by decide)]; exact d4) hi hj
    refine ⟨τ', ?_, ?_⟩
    · rw [tkN_succ, if_neg hg']
      rw [q_idl C' hs d1 d3 hi I', e, bd2n, if_neg (by decide)]
      rfl
    · refine ⟨fun c x h1 h2 => by rw [R.q c x h1 h2, q_w h1], R.l, fun x hx => by rw [R.f x hx, q_wk hx], R.pw, R.t, ?_⟩
      rcases R.r with ⟨r1, r2, r3, r4⟩ | r
      · exact Or.inl ⟨r1, r2, r3, by rw [r4, q_w (by decide)]⟩
      · exact Or.inr r
  intro d
  induction d with
  | zero => intro h; omega
  | succ d ih =>
    intro _ hj
    by_cases d0 : d = 0
    · subst d0
      exact one C sd e48 e49 e50 I hg (by omega)
    · obtain ⟨ρ1, e1, R1⟩ := ih (by omega) (by omega)
      obtain ⟨r1, r2, r3, r4⟩ : j + d < W.stp i ∧ ρ1.1 49 s = nI i ∧ ρ1.1 50 s = nI (j + d) ∧ ρ1.1 51 s = ρ.1 51 s := by
        rcases R1.r with r | r
        · exact r
        · omega
      have I1 : Idl W s i ρ1 := by
        unfold Idl
        rw [r4, R1.q 55 _ (by omega) (by omega)]
        exact I
      obtain ⟨ρ2, e2, R2⟩ := one (C.idr R1) (by rw [R1.f 79 (by decide)]; exact sd) R1.t r2 r3 I1 (by rw [R1.f 51 (by decide)]; exact hg) r1
      refine ⟨ρ2, ?_, fun c x h1 h2 => by rw [R2.q c x h1 h2, R1.q c x h1 h2], by rw [R2.l, R1.l], fun x hx => by rw [R2.f x hx, R1.f x hx], R2.pw, R2.t, ?_⟩
      · rw [tkN_add e1, e2, bd2n]
      · rcases R2.r with ⟨k1, k2, k3, k4⟩ | ⟨k1, k2, k3, k4⟩
        · exact Or.inl ⟨k1, k2, k3, by rw [k4, r4]⟩
        · exact Or.inr ⟨k1, k2, k3, k4⟩
/-- the loop of the ticks -/
theorem run_lp {g : Bool} (v : KV K) {n : Nat} (hn : n ≤ 60000) (hg : g = true → s = 0) : ∀ m o i σ ρ W t, n - o = m → i ≤ o → o ≤ n → Tk K W b k s σ ρ → ρ.1 48 s = nI t → t + m ≤ 60000 → ∃ z d ρ', lp (fun z : (Int32 × Int32 × cl_S) => lc_X5_runTicks_4 (47 + 132 * s) (nI n) z.1 z.2.1 z.2.2) (nI o, nI i, σ) = some z ∧ tkN g m ρ = some (d, ρ') ∧ z.1 = nI (o + d) ∧ d ≤ m ∧ ((d = m ∧ ∃ W', W.le W' ∧ Tk K W' b k s z.2.2 ρ' ∧ ρ'.1 48 s = nI (t + d)) ∨ (d < m ∧ ∃ W', W.le W' ∧ GON K W' b k s z.2.2 ρ')) := by
  intro m
  induction m using Nat.strongRecOn with
  | ind m ih =>
  intro o i σ ρ W t hm hio hon h e48 htm
  have s2 := h.s2
  have s01 : s = 0 ∨ s = 1 := by omega
  have C := h.R.cf
  have hcf := C.cf
  have on1 : ¬ σ.1 (47 + 132 * s) 8 = 0 := by rw [h.on]; decide
  have onq : ¬ (g = true ∧ ρ.1 0 51 = 0) := by
    rintro ⟨q1, q2⟩
    have q3 := hg q1
    subst q3
    rw [← h.R.oB.on.1] at q2
    exact on1 q2
  by_cases c0 : m = 0
  · subst c0
    have eb : lc_X5_runTicks_4 (47 + 132 * s) (nI n) (nI o) (nI i) σ = some (.inr (nI o, nI i, σ)) := by
      unfold lc_X5_runTicks_4
      by_cases q : nI n ≤ nI i
      · rw [if_pos q]
      · rw [if_neg q, if_pos ((n_le (by omega) (by omega)).mpr (by omega))]
    exact ⟨_, 0, ρ, lp_end eb, rfl, rfl, Nat.le_refl _, Or.inl ⟨rfl, W, Wd.le.refl W, h, e48⟩⟩
  have M := h.M
  obtain ⟨sl, st, -, -, a1, a2, a3, a4, a5⟩ := M.sl
  obtain ⟨hsl, hst⟩ := a5 h.np
  obtain ⟨hns, -, -, -⟩ := C.ns
  obtain ⟨⟨hw, st1, st2⟩, w1, w2, w3, w4⟩ := C.sl sl hsl
  obtain ⟨np8, n0, -⟩ := C.np
  have nx : ∀ {o' i' : Nat} {τ : cl_S}, lc_X5_runTicks_4 (47 + 132 * s) (nI n) (nI o) (nI i) σ = some (.inl (nI o', nI i', τ)) → lp (fun z : (Int32 × Int32 × cl_S) => lc_X5_runTicks_4 (47 + 132 * s) (nI n) z.1 z.2.1 z.2.2) (nI o, nI i, σ) = lp (fun z : (Int32 × Int32 × cl_S) => lc_X5_runTicks_4 (47 + 132 * s) (nI n) z.1 z.2.1 z.2.2) (nI o', nI i', τ) := fun q => lp_next (body := fun z : (Int32 × Int32 × cl_S) => lc_X5_runTicks_4 (47 + 132 * s) (nI n) z.1 z.2.1 z.2.2) q
  have hd : lc_X5_runTicks_4 (47 + 132 * s) (nI n) (nI o) (nI i) σ = (if W.np ≤ W.who sl then bc_X5_runTicks_70i4 (47 + 132 * s) (nI n) (nI o) (nI i) σ else if σ.1 (47 + 132 * s) 12 = 0 then (if σ.1 (84 + 135 * s + 12 * W.who sl) 7 = 0 then bd2 (fc_X2_step (84 + 135 * s + 12 * W.who sl) σ) (fun r_64 σ_63 => (if r_64 < 0 then bc_X5_runTicks_150i4 (47 + 132 * s) (nI n) (nI o) (nI i) σ_63 else ix (nI (W.who sl)) 8 (vl (σ_63.2.2.1 (59 + 135 * s) (W.who sl)) (fun r_82 => nn r_82 (fun a_85 => ix (nI (W.who sl)) 8 (vl (σ_63.2.2.1 (59 + 135 * s) (W.who sl)) (fun r_92 => bd2 (fc_X5_answer (47 + 132 * s) r_92 r_64 σ_63) (fun r_96 σ_95 => bd1 (fc_X5_endAsk (47 + 132 * s) (some (a_85 + 1)) r_96 σ_95) (fun σ_101 => bc_X5_runTicks_150i4 (47 + 132 * s) (nI n) (nI o) (nI i) σ_101))))))))) else bc_X5_runTicks_70i4 (47 + 132 * s) (nI n) (nI o) (nI i) σ) else bc_X5_runTicks_70i4 (47 + 132 * s) (nI n) (nI o) (nI i) σ) := by
    unfold lc_X5_runTicks_4
    rw [if_neg (fun q => by have := (n_le (by omega) (by omega)).mp q; omega), if_neg (fun q => by have := (n_le (by omega) (by omega)).mp q; omega), if_neg on1, vln, M.cp, nnn, a1, n_ix (show sl < 32 by omega) (by omega), n_cl (show sl < 2147483648 by omega), w1, vln, vln, nnn, n0]
    by_cases q1 : W.np ≤ W.who sl
    · rw [if_pos q1, if_pos ((n_le (by omega) (by omega)).mpr q1)]
    · have md : 47 + 132 * s + 12 + cl_md (47 + 132 * s) = 59 + 135 * s := by
        rcases s01 with rfl | rfl <;> rfl
      rw [if_neg q1, if_neg (fun q => q1 ((n_le (by omega) (by omega)).mp q))]
      by_cases q2 : σ.1 (47 + 132 * s) 12 = 0
      · rw [if_pos q2, if_pos q2, n_ix (show W.who sl < 8 by omega) (by omega), vln, md, n_cl (show W.who sl < 2147483648 by omega), h.R.st.pp s (W.who sl) s2 (by omega), nnn, show 83 + 135 * s + 12 * W.who sl + 1 = 84 + 135 * s + 12 * W.who sl by omega]
        by_cases q3 : σ.1 (84 + 135 * s + 12 * W.who sl) 7 = 0
        · rw [if_pos q3, if_pos q3, n_ix (show W.who sl < 8 by omega) (by omega), vln, nnn, show 83 + 135 * s + 12 * W.who sl + 1 = 84 + 135 * s + 12 * W.who sl by omega]
        · rw [if_neg q3, if_neg q3]
      · rw [if_neg q2, if_neg q2]
  by_cases I : Idl W s sl ρ
  · -- nobody steps
    have hd2 : lc_X5_runTicks_4 (47 + 132 * s) (nI n) (nI o) (nI i) σ = bc_X5_runTicks_70i4 (47 + 132 * s) (nI n) (nI o) (nI i) σ := by
      rw [hd]
      by_cases q1 : W.np ≤ W.who sl
      · rw [if_pos q1]
      · rw [if_neg q1]
        by_cases q2 : σ.1 (47 + 132 * s) 12 = 0
        · rw [if_pos q2, if_neg]
          rw [(M.pr (W.who sl) (by omega)).co.ha]
          rcases I with I | I | I
          · exact absurd I q1
          · exact I
          · rw [← M.yl] at I; exact absurd q2 I
        · rw [if_neg q2]
    obtain ⟨d, hd0, hd1, hd2', hd3⟩ : ∃ d, 0 < d ∧ st + d ≤ W.stp sl ∧ d ≤ m ∧ (if (nI (W.stp sl) - nI st) < (nI n - nI o) then (nI (W.stp sl) - nI st) else (nI n - nI o)) = nI d := by
      rw [n_sub (show st ≤ W.stp sl by omega), n_sub hon]
      by_cases q : W.stp sl - st < n - o
      · rw [if_pos ((n_lt (by omega) (by omega)).mpr q)]
        exact ⟨_, by omega, by omega, by omega, rfl⟩
      · rw [if_neg (fun q' => q ((n_lt (by omega) (by omega)).mp q'))]
        exact ⟨_, by omega, by omega, by omega, rfl⟩
    obtain ⟨ρ1, e1, R1⟩ := idle_n (g := g) C s2 h.sd e48 a2 a4 hsl I onq d hd0 hd1
    obtain ⟨σ1, ep, T1⟩ := h.ps e48 a2 a4 (by omega) hsl hd1 R1
    have eb : lc_X5_runTicks_4 (47 + 132 * s) (nI n) (nI o) (nI i) σ = some (.inl (nI (o + d), nI (i + 1), σ1)) := by
      rw [hd2]
      unfold bc_X5_runTicks_70i4 bc_X5_runTicks_169i4
      rw [vln, M.cp, nnn, a1, n_ix (show sl < 32 by omega) (by omega), n_cl (show sl < 2147483648 by omega), w3, a3, hd3, ep, bd2n, vln, vln, n_add, show nI i + (1:Int32) = nI (i + 1) from n_add i 1]
    obtain ⟨z, d2, ρ2, f1, f2, f3, f4, f5⟩ := ih (m - d) (by omega) (o + d) (i + 1) σ1 ρ1 W (t + d) (by omega) (by omega) (by omega) T1 R1.t (by omega)
    refine ⟨z, d + d2, ρ2, by rw [nx eb]; exact f1, ?_, by rw [f3]; congr 1; omega, by omega, ?_⟩
    · have := tkN_add (n := m - d) e1
      rw [show d + (m - d) = m by omega] at this
      rw [this, f2, bd2n]
    · rcases f5 with ⟨g1, g2, g3, g4, g5⟩ | ⟨g1, g2⟩
      · exact Or.inl ⟨by omega, g2, g3, g4, by rw [g5]; congr 1; omega⟩
      · exact Or.inr ⟨by omega, g2⟩
  · -- a step
    have i1 : ¬ W.np ≤ W.who sl := fun q => I (Or.inl q)
    have i2 : ρ.1 55 (8 * s + W.who sl) = 0 := Classical.byContradiction fun q => I (Or.inr (Or.inl q))
    have i3 : ρ.1 51 s = 0 := Classical.byContradiction fun q => I (Or.inr (Or.inr q))
    have hw' : W.who sl < W.np := by omega
    have et := q_act C s2 h.sd a2 hsl I
    rw [if_neg i1, if_pos (by rw [M.yl]; exact i3), if_pos (by rw [(M.pr (W.who sl) hw').co.ha]; exact i2)] at hd
    obtain ⟨m', rfl⟩ : ∃ m', m = m' + 1 := ⟨m - 1, by omega⟩
    -- what comes behind the step
    have okc : ∀ {σ1 : cl_S} {ρ1 : rf_S}, OKT K W b k s ρ σ1 ρ1 → lc_X5_runTicks_4 (47 + 132 * s) (nI n) (nI o) (nI i) σ = bc_X5_runTicks_150i4 (47 + 132 * s) (nI n) (nI o) (nI i) σ1 → fq_step (nI (W.who sl)) (rf_w ρ 0 108 0) = some ρ1 → ∃ z d ρ', lp (fun z : (Int32 × Int32 × cl_S) => lc_X5_runTicks_4 (47 + 132 * s) (nI n) z.1 z.2.1 z.2.2) (nI o, nI i, σ) = some z ∧ tkN g (m' + 1) ρ = some (d, ρ') ∧ z.1 = nI (o + d) ∧ d ≤ m' + 1 ∧ ((d = m' + 1 ∧ ∃ W', W.le W' ∧ Tk K W' b k s z.2.2 ρ' ∧ ρ'.1 48 s = nI (t + d)) ∨ (d < m' + 1 ∧ ∃ W', W.le W' ∧ GON K W' b k s z.2.2 ρ')) := by
      rintro σ1 ρ1 ⟨W1, le, T1, pw, e48'⟩ hl hq
      rw [hq, bd1n] at et
      have M1 := T1.M
      obtain ⟨sl', st', -, -, b1, b2, b3, b4, b5⟩ := M1.sl
      obtain ⟨hsl', hst'⟩ := b5 T1.np
      have e48'' : ρ1.1 48 s = nI t := by rw [e48']; exact e48
      obtain ⟨ρ2, e62, R2⟩ := q_62 T1.R.cf s2 T1.sd pw e48'' b2 b4 hsl' hst'
      obtain ⟨σ2, ep, T2⟩ := T1.ps e48'' b2 b4 (by omega) hsl' (by omega) R2
      rw [e62] at et
      have on2 : ¬ σ1.1 (47 + 132 * s) 8 = 0 := by rw [T1.on]; decide
      have ep' : fc_X5_pass (47 + 132 * s) (1:Int32) σ1 = some ((1:Int32), σ2) := ep
      have eb : lc_X5_runTicks_4 (47 + 132 * s) (nI n) (nI o) (nI i) σ = some (.inl (nI (o + 1), nI (i + 1), σ2)) := by
        rw [hl]
        unfold bc_X5_runTicks_150i4 bc_X5_runTicks_167i4 bc_X5_runTicks_169i4
        rw [if_neg on2, ep', bd2n, vln, vln, show nI i + (1:Int32) = nI (i + 1) from n_add i 1, show nI o + (1:Int32) = nI (o + 1) from n_add o 1]
      obtain ⟨z, d2, ρ3, f1, f2, f3, f4, f5⟩ := ih m' (by omega) (o + 1) (i + 1) σ2 ρ2 W1 (t + 1) (by omega) (by omega) (by omega) T2 R2.t (by omega)
      refine ⟨z, d2 + 1, ρ3, by rw [nx eb]; exact f1, ?_, by rw [f3]; congr 1; omega, by omega, ?_⟩
      · rw [tkN_succ, if_neg onq]
        rw [et, bd2n, if_neg (by decide), f2, bd2n]
      · rcases f5 with ⟨g1, W2, g2, g3, g4⟩ | ⟨g1, W2, g2, g3⟩
        · exact Or.inl ⟨by omega, W2, le.trans g2, g3, by rw [g4]; congr 1; omega⟩
        · exact Or.inr ⟨by omega, W2, le.trans g2, g3⟩
    rcases h.act v hw' with ⟨σ1, ρ1, f1, f2, f3⟩ | ⟨q, r, σ0, σ1, ρ1, hq, f1, f2, f3, f4, f5⟩
    · refine okc f3 ?_ f2
      rw [hd, f1, bd2n, if_pos (by decide)]
    · have hl : lc_X5_runTicks_4 (47 + 132 * s) (nI n) (nI o) (nI i) σ = bc_X5_runTicks_150i4 (47 + 132 * s) (nI n) (nI o) (nI i) σ1 := by
        rw [hd, f1, bd2n, if_neg (n_nneg (by omega)), n_ix (show W.who sl < 8 by omega) (by omega), vln, h.R.st.pp s (W.who sl) s2 (by omega), nnn, n_ix (show W.who sl < 8 by omega) (by omega), vln, f2, bd2n, show 83 + 135 * s + 12 * W.who sl + 1 = 84 + 135 * s + 12 * W.who sl by omega, f3, bd1n]
      rcases f5 with f5 | ⟨rfl, g0, g1, g2, g3, g4⟩
      · exact okc f5 hl f4
      · rw [f4, bd1n] at et
        have eb : lc_X5_runTicks_4 (47 + 132 * 0) (nI n) (nI o) (nI i) σ = some (.inl (nI o, nI (i + 1), σ1)) := by
          rw [hl]
          unfold bc_X5_runTicks_150i4 bc_X5_runTicks_167i4 bc_X5_runTicks_169i4
          rw [if_pos (show σ1.1 (47 + 132 * 0) 8 = 0 from g2), vln, vln, show nI i + (1:Int32) = nI (i + 1) from n_add i 1, show nI o + (0:Int32) = nI o from n_add o 0]
        have eb2 : lc_X5_runTicks_4 (47 + 132 * 0) (nI n) (nI o) (nI (i + 1)) σ1 = some (.inr (nI o, nI (i + 1), σ1)) := by
          unfold lc_X5_runTicks_4
          by_cases q1 : nI n ≤ nI (i + 1)
          · rw [if_pos q1]
          · rw [if_neg q1]
            by_cases q2 : nI n ≤ nI o
            · rw [if_pos q2]
            · rw [if_neg q2, if_pos (show σ1.1 (47 + 132 * 0) 8 = 0 from g2)]
        refine ⟨_, 0, ρ1, by rw [nx eb]; exact lp_end eb2, ?_, rfl, by omega, Or.inr ⟨by omega, W, Wd.le.refl W, rfl, g0, g1, g2, g3, g4⟩⟩
        rw [tkN_succ, if_neg onq]
        unfold bq_tick_62 at et
        rw [if_neg (by rw [g3]; decide)] at et
        rw [et, bd2n, if_pos rfl]
theorem run_n {g : Bool} (v : KV K) (hg : g = true → s = 0) (h : Tk K W b k s σ ρ) {n t : Nat} (e48 : ρ.1 48 s = nI t) (hn : t + n ≤ 60000) : ∃ d σ' ρ', fc_X5_runTicks (47 + 132 * s) (nI n) σ = some (nI d, σ') ∧ tkN g n ρ = some (d, ρ') ∧ d ≤ n ∧ ((d = n ∧ ∃ W', W.le W' ∧ Tk K W' b k s σ' ρ' ∧ ρ'.1 48 s = nI (t + n)) ∨ (d < n ∧ ∃ W', W.le W' ∧ GON K W' b k s σ' ρ')) := by
  obtain ⟨z, d, ρ', f1, f2, f3, f4, f5⟩ := run_lp (g := g) v (n := n) (by omega) hg n 0 0 σ ρ W t (by omega) (by omega) (by omega) h e48 hn
  rw [Nat.zero_add] at f3
  refine ⟨d, z.2.2, ρ', ?_, f2, f4, ?_⟩
  · unfold fc_X5_runTicks bc_X5_runTicks_0 bc_X5_runTicks_4
    have : ((0:Int32), (0:Int32), σ) = (nI 0, nI 0, σ) := rfl
    rw [this, f1]
    show some (z.1, z.2.2) = _
    rw [f3]
  · rcases f5 with ⟨g1, W2, g2, g3, g4⟩ | g
    · exact Or.inl ⟨g1, W2, g2, g3, by rw [g4, g1]⟩
    · exact Or.inr g
end Z2_LN
