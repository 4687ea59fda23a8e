section Z2_G6
variable {K : Bd} {W W' : Wd} {b : Bool} {k s p : Nat} {σ σ' : cl_S} {ρ ρ' : rf_S}
variable {sp L a : Nat} {f : Nat → Int32} {e : Bool}
def asum (ar : Nat → Nat) : Nat → Nat
  | 0 => 0
  | n + 1 => asum ar n + ar n
theorem asum_cg {g h : Nat → Nat} {n : Nat} (e : ∀ q, q < n → g q = h q) : asum g n = asum h n := by
  induction n with
  | zero => rfl
  | succ n ih => unfold asum; rw [ih (fun q hq => e q (by omega)), e n (by omega)]
/-- the partitions that were read -/
def PI (sp p : Nat) (bs sz ar : Nat → Nat) (σ : cl_S) (ρ : rf_S) : Prop := (∀ q, q < p → σ.1 (sp + 1) q = nI (bs q) ∧ ρ.1 79 (3 * q) = nI (bs q) ∧ σ.1 (sp + 2) q = nI (sz q) ∧ ρ.1 79 (3 * q + 1) = nI (sz q) ∧ σ.1 (sp + 3) q = nI (ar q) ∧ ρ.1 79 (3 * q + 2) = nI (ar q) ∧ σ.1 (sp + 4) q = nI (asum ar q)) ∧ (∀ q, q < p → 16 ≤ sz q ∧ sz q ≤ 2048 ∧ bs q + sz q ≤ 8192 ∧ ar q ≤ 8) ∧ (∀ q q', q < q' → q' < p → bs q + sz q ≤ bs q' ∨ bs q' + sz q' ≤ bs q) ∧ (asum ar p ≤ 32)
theorem PI.v {sp p : Nat} {bs sz ar : Nat → Nat} {σ : cl_S} {ρ : rf_S} (hS : PI sp p bs sz ar σ ρ) : ∀ q, q < p → σ.1 (sp + 1) q = nI (bs q) ∧ ρ.1 79 (3 * q) = nI (bs q) ∧ σ.1 (sp + 2) q = nI (sz q) ∧ ρ.1 79 (3 * q + 1) = nI (sz q) ∧ σ.1 (sp + 3) q = nI (ar q) ∧ ρ.1 79 (3 * q + 2) = nI (ar q) ∧ σ.1 (sp + 4) q = nI (asum ar q) := hS.1
theorem PI.bd {sp p : Nat} {bs sz ar : Nat → Nat} {σ : cl_S} {ρ : rf_S} (hS : PI sp p bs sz ar σ ρ) : ∀ q, q < p → 16 ≤ sz q ∧ sz q ≤ 2048 ∧ bs q + sz q ≤ 8192 ∧ ar q ≤ 8 := hS.2.1
theorem PI.dj {sp p : Nat} {bs sz ar : Nat → Nat} {σ : cl_S} {ρ : rf_S} (hS : PI sp p bs sz ar σ ρ) : ∀ q q', q < q' → q' < p → bs q + sz q ≤ bs q' ∨ bs q' + sz q' ≤ bs q := hS.2.2.1
theorem PI.sm {sp p : Nat} {bs sz ar : Nat → Nat} {σ : cl_S} {ρ : rf_S} (hS : PI sp p bs sz ar σ ρ) : asum ar p ≤ 32 := hS.2.2.2
def ovl (p : Nat) (bs sz : Nat → Nat) (u v : Int32) (q : Nat) : Prop := ¬ nI (bs q) + nI (sz q) ≤ u ∧ ¬ u + v ≤ nI (bs q)
/-- the class's look for what overlaps -/
theorem ov_c {bs sz : Nat → Nat} {u v x2 : Int32} (hp : p < 8) : ∀ m q (a : Nat) (e : Bool) (σ : cl_S), p - q = m → q ≤ p → CsC sp L f a e σ → (e = false → 1 ≤ a) → (∀ i, i < p → σ.1 (sp + 1) i = nI (bs i) ∧ σ.1 (sp + 2) i = nI (sz i)) → σ.1 (sp + 1) p = u → σ.1 (sp + 2) p = v → ∃ σ' a' e', lp (fun z : (Int32 × cl_S) => lc_X1_readPartition_44 sp (nI p) x2 z.1 z.2) (nI q, σ) = some (nI p, σ') ∧ CsC sp L f a' e' σ' ∧ (∀ d j, ¬ (d = sp ∧ j = 15) → σ'.1 d j = σ.1 d j) ∧ σ'.2 = σ.2 ∧ (e = true → e' = true ∧ a' = a) ∧ (e = false → (∀ i, q ≤ i → i < p → ¬ ovl p bs sz u v i) → e' = false ∧ a' = a) ∧ (e = false → (∃ i, q ≤ i ∧ i < p ∧ ovl p bs sz u v i) → e' = true ∧ a' = a - 1) := by
  intro m
  induction m with
  | zero =>
    intro q a e σ hm hq hC ha hv hu hv'
    have : q = p := by omega
    subst this
    have eb : lc_X1_readPartition_44 sp (nI q) x2 (nI q) σ = some (.inr (nI q, σ)) := by
      unfold lc_X1_readPartition_44
      rw [if_pos ((n_le (by omega) (by omega)).mpr (Nat.le_refl _))]
    exact ⟨σ, a, e, lp_end eb, hC, fun _ _ _ => rfl, rfl, fun q => ⟨q, rfl⟩, fun q _ => ⟨q, rfl⟩, fun _ ⟨i, h1, h2, _⟩ => by omega⟩
  | succ m ih =>
    intro q a e σ hm hq hC ha hv hu hv'
    have hsp := hC.sp
    obtain ⟨v1, v2⟩ := hv q (by omega)
    have hd : lc_X1_readPartition_44 sp (nI p) x2 (nI q) σ = (if nI (bs q) + nI (sz q) ≤ u then some (.inl (nI (q + 1), σ)) else if u + v ≤ nI (bs q) then some (.inl (nI (q + 1), σ)) else bd1 (fc_X1_refuseLast sp σ) (fun σ_43 => some (.inl (nI (q + 1), σ_43)))) := by
      unfold lc_X1_readPartition_44 bc_X1_readPartition_97i44
      have i1 : ∀ {α : Type} (z : Option α), ix (nI p) 8 z = z := fun z => n_ix hp (by omega)
      have i2 : ∀ {α : Type} (z : Option α), ix (nI q) 8 z = z := fun z => n_ix (by omega) (by omega)
      simp only [i1, i2]
      rw [if_neg (fun w => by have := (n_le (by omega) (by omega)).mp w; omega), n_cl (show p < 2147483648 by omega), n_cl (show q < 2147483648 by omega), v1, v2, hu, hv']
      simp only [vln, show nI q + (1:Int32) = nI (q + 1) from n_add q 1]
    by_cases ov : ovl p bs sz u v q
    · rw [if_neg ov.1, if_neg ov.2] at hd
      obtain ⟨σ1, r1, r2, r3, r4⟩ := hC.rf ha
      rw [r1, bd1n] at hd
      obtain ⟨σ', a', e', g1, g2, g3, g4, g5, g6, g7⟩ := ih (q + 1) _ true σ1 (by omega) (by omega) r2 (fun w => Bool.noConfusion w) (fun i hi => by rw [r3 (sp + 1) i (by omega), r3 (sp + 2) i (by omega)]; exact hv i hi) (by rw [r3 (sp + 1) p (by omega)]; exact hu) (by rw [r3 (sp + 2) p (by omega)]; exact hv')
      obtain ⟨k1, k2⟩ := g5 rfl
      refine ⟨σ', a', e', by rw [lp_next hd]; exact g1, g2, fun d j hd => by rw [g3 d j hd, r3 d j hd], by rw [g4, r4], fun w => ?_, fun w1 w2 => absurd ov (w2 q (by omega) (by omega)), fun w _ => ?_⟩
      · rw [w] at k2; exact ⟨k1, k2⟩
      · rw [w] at k2; exact ⟨k1, k2⟩
    · have hd' : lc_X1_readPartition_44 sp (nI p) x2 (nI q) σ = some (.inl (nI (q + 1), σ)) := by
        rw [hd]
        by_cases w1 : nI (bs q) + nI (sz q) ≤ u
        · rw [if_pos w1]
        · rw [if_neg w1]
          by_cases w2 : u + v ≤ nI (bs q)
          · rw [if_pos w2]
          · exact absurd ⟨w1, w2⟩ ov
      obtain ⟨σ', a', e', g1, g2, g3, g4, g5, g6, g7⟩ := ih (q + 1) a e σ (by omega) (by omega) hC ha hv hu hv'
      refine ⟨σ', a', e', by rw [lp_next hd']; exact g1, g2, g3, g4, g5, fun w1 w2 => g6 w1 (fun i h1 h2 => w2 i (by omega) h2), fun w1 ⟨i, h1, h2, h3⟩ => g7 w1 ⟨i, ?_, h2, h3⟩⟩
      by_cases c : i = q
      · subst c; exact absurd h3 ov
      · omega
/-- the reference's -/
theorem ov_q {bs sz : Nat → Nat} {u v x1 x2 : Int32} (hp : p < 8) (hv : ∀ i, i < p → ρ.1 79 (3 * i) = nI (bs i) ∧ ρ.1 79 (3 * i + 1) = nI (sz i)) : ∀ m q bad, p - q = m → q ≤ p → ∃ bad', lp (fun z : (Int32 × Int32 × rf_S) => lq_readConfig_76i22 x1 x2 (nI p) u v z.1 z.2.1 z.2.2) (bad, nI q, ρ) = some (bad', nI p, ρ) ∧ (bad = 0 → (∀ i, q ≤ i → i < p → ¬ ovl p bs sz u v i) → bad' = 0) ∧ ((¬ bad = 0 ∨ ∃ i, q ≤ i ∧ i < p ∧ ovl p bs sz u v i) → ¬ bad' = 0) := by
  intro m
  induction m with
  | zero =>
    intro q bad hm hq
    have : q = p := by omega
    subst this
    have eb : lq_readConfig_76i22 x1 x2 (nI q) u v bad (nI q) ρ = some (.inr (bad, nI q, ρ)) := by
      unfold lq_readConfig_76i22
      rw [if_pos ((n_le (by omega) (by omega)).mpr (Nat.le_refl _))]
    refine ⟨bad, lp_end eb, fun w _ => w, fun w => ?_⟩
    rcases w with w | ⟨i, h1, h2, _⟩
    · exact w
    · omega
  | succ m ih =>
    intro q bad hm hq
    obtain ⟨v1, v2⟩ := hv q (by omega)
    have t3 : (3:Int32) * nI q = nI (3 * q) := n_mul 3 q
    have t4 : nI (3 * q) + (1:Int32) = nI (3 * q + 1) := n_add _ 1
    have hd : lq_readConfig_76i22 x1 x2 (nI p) u v bad (nI q) ρ = (if bad = 0 then (if nI (bs q) + nI (sz q) ≤ u then some (.inl (0, nI (q + 1), ρ)) else if u + v ≤ nI (bs q) then some (.inl (0, nI (q + 1), ρ)) else some (.inl (1, nI (q + 1), ρ))) else some (.inl (1, nI (q + 1), ρ))) := by
      unfold lq_readConfig_76i22 bq_readConfig_134i76 bq_readConfig_130i76 bq_readConfig_135i76
      have i1 : ∀ {α : Type} (z : Option α), ix (nI (3 * q)) 200 z = z := fun z => n_ix (by omega) (by omega)
      have i2 : ∀ {α : Type} (z : Option α), ix (nI (3 * q + 1)) 200 z = z := fun z => n_ix (by omega) (by omega)
      rw [t3, t4]
      simp only [i1, i2]
      rw [if_neg (fun w => by have := (n_le (by omega) (by omega)).mp w; omega), n_cl (show 3 * q < 2147483648 by omega), n_cl (show 3 * q + 1 < 2147483648 by omega), v1, v2]
      simp only [vln, show nI q + (1:Int32) = nI (q + 1) from n_add q 1]
    have go : ∀ bad1 : Int32, lq_readConfig_76i22 x1 x2 (nI p) u v bad (nI q) ρ = some (.inl (bad1, nI (q + 1), ρ)) → (bad = 0 → ¬ ovl p bs sz u v q → bad1 = 0) → ((¬ bad = 0 ∨ ovl p bs sz u v q) → ¬ bad1 = 0) → ∃ bad', lp (fun z : (Int32 × Int32 × rf_S) => lq_readConfig_76i22 x1 x2 (nI p) u v z.1 z.2.1 z.2.2) (bad, nI q, ρ) = some (bad', nI p, ρ) ∧ (bad = 0 → (∀ i, q ≤ i → i < p → ¬ ovl p bs sz u v i) → bad' = 0) ∧ ((¬ bad = 0 ∨ ∃ i, q ≤ i ∧ i < p ∧ ovl p bs sz u v i) → ¬ bad' = 0) := by
      intro bad1 h1 h2 h3
      obtain ⟨bad', g1, g2, g3⟩ := ih (q + 1) bad1 (by omega) (by omega)
      refine ⟨bad', by rw [lp_next h1]; exact g1, fun w1 w2 => g2 (h2 w1 (w2 q (by omega) (by omega))) (fun i k1 k2 => w2 i (by omega) k2), fun w => g3 ?_⟩
      rcases w with w | ⟨i, k1, k2, k3⟩
      · exact Or.inl (h3 (Or.inl w))
      · by_cases c : i = q
        · subst c; exact Or.inl (h3 (Or.inr k3))
        · exact Or.inr ⟨i, by omega, k2, k3⟩
    by_cases b0 : bad = 0
    · rw [if_pos b0] at hd
      by_cases w1 : nI (bs q) + nI (sz q) ≤ u
      · rw [if_pos w1] at hd
        exact go 0 hd (fun _ _ => rfl) (fun w => by rcases w with w | w; exact absurd b0 w; exact absurd w1 w.1)
      · rw [if_neg w1] at hd
        by_cases w2 : u + v ≤ nI (bs q)
        · rw [if_pos w2] at hd
          exact go 0 hd (fun _ _ => rfl) (fun w => by rcases w with w | w; exact absurd b0 w; exact absurd w2 w.2)
        · rw [if_neg w2] at hd
          exact go 1 hd (fun _ w => absurd ⟨w1, w2⟩ w) (fun _ => by decide)
    · rw [if_neg b0] at hd
      exact go 1 hd (fun w => absurd w b0) (fun _ => by decide)
/-- base and size of a partition; u, v: what both took them for -/
theorem rd_bs (hC : CsC sp L f a false σ) (hQ : CsQ L f a false ρ) {bs sz ar : Nat → Nat} (hp : p < 8) (P : PI sp p bs sz ar σ ρ) (x1 x2 y2 : Int32) :
    ∃ σ' ρ' a' e' u v uq vq, (bd2 (fc_X1_nextWord sp (0:Int32) (8176:Int32) σ) (fun r_3 σ_2 => ix (nI p) 8 (vl (cl_w σ_2 (sp + 1) (nI p).toNatClampNeg r_3) (fun σ_8 => ix (nI p) 8 (bd2 (fc_X1_nextWord sp (16:Int32) (if ((8192:Int32) - (σ_8.1 (sp + 1) (nI p).toNatClampNeg)) < (2048:Int32) then ((8192:Int32) - (σ_8.1 (sp + 1) (nI p).toNatClampNeg)) else (2048:Int32)) σ_8) (fun r_17 σ_16 => ix (nI p) 8 (vl (cl_w σ_16 (sp + 2) (nI p).toNatClampNeg r_17) (fun σ_22 => bc_X1_readPartition_44 sp (nI p) y2 (0:Int32) σ_22))))))) = ec_X1_readPartition_44 sp (nI p) y2 (nI p) σ') ∧
      (∀ X : Int32 → Int32 → rf_S → Option ((Int32 × Int32 × rf_S) ⊕ (Int32 × Int32 × rf_S)), (∀ r s τ bad, bq_readConfig_71i22 x1 x2 (nI p) r s bad τ = (lp (fun z : (Int32 × Int32 × rf_S) => lq_readConfig_76i22 x1 x2 (nI p) r s z.1 z.2.1 z.2.2) (bad, (0:Int32), τ)).bind (fun z => bd1 (fq_refuse z.1 z.2.2) (fun τ' => X r s τ'))) → (bd2 (fq_config (0:Int32) (8176:Int32) ρ) (fun r_6 ρ_5 => bd2 (fq_config (16:Int32) (2048:Int32) ρ_5) (fun r_8 ρ_7 => (if (r_6 + r_8) ≤ (8192:Int32) then bq_readConfig_71i22 x1 x2 (nI p) r_6 r_8 (0:Int32) ρ_7 else bq_readConfig_71i22 x1 x2 (nI p) r_6 r_8 (1:Int32) ρ_7)))) = X uq vq ρ') ∧
      CsC sp L f a' e' σ' ∧ CsQ L f a' e' ρ' ∧ Kf sp σ σ' ρ ρ' ∧ (∀ d j, ¬ (d = sp ∧ (j = 14 ∨ j = 15)) → ¬ (d = sp + 1 ∧ j = p) → ¬ (d = sp + 2 ∧ j = p) → σ'.1 d j = σ.1 d j) ∧ ρ'.1 79 = ρ.1 79 ∧
      (e' = false → ∃ b s, u = nI b ∧ v = nI s ∧ uq = nI b ∧ vq = nI s ∧ σ'.1 (sp + 1) p = nI b ∧ σ'.1 (sp + 2) p = nI s ∧ 16 ≤ s ∧ s ≤ 2048 ∧ b + s ≤ 8192 ∧ ∀ q, q < p → bs q + sz q ≤ b ∨ b + s ≤ bs q) := by
  have hsp := hC.sp
  have ip : ∀ {α : Type} (z : Option α), ix (nI p) 8 z = z := fun z => n_ix hp (by omega)
  have cp : (nI p).toNatClampNeg = p := n_cl (by omega)
  simp only [ip, cp, vln]
  obtain ⟨u, σ1, ρ1, a1, e1, c1, q1, C1, Q1, K1, d1, n1, g1, l1⟩ := nx_same hC hQ 0 8176
  rw [c1, bd2n]
  have C1' : CsC sp L f a1 e1 (cl_w σ1 (sp + 1) p u) := C1.cg (fun j hj => by rw [r_w (by omega)]) (r_w (by omega)) rfl
  rw [r_ws]
  -- the size
  generalize hhi : (if ((8192:Int32) - u) < (2048:Int32) then ((8192:Int32) - u) else (2048:Int32)) = hi
  have tl : ∀ (σ2 : cl_S) (ρ2 : rf_S) (a2 : Nat) (e2 : Bool) (aq : Nat) (eq : Bool) (v vq bad : Int32), fc_X1_nextWord sp 16 hi (cl_w σ1 (sp + 1) p u) = some (v, σ2) → fq_config 16 2048 ρ1 = some (vq, ρ2) → (if (u + vq) ≤ (8192:Int32) then (0:Int32) else 1) = bad → CsC sp L f a2 e2 σ2 → CsQ L f aq eq ρ2 → (∀ d j, ¬ (d = sp ∧ (j = 14 ∨ j = 15)) → σ2.1 d j = (cl_w σ1 (sp + 1) p u).1 d j) → σ2.2 = σ1.2 → (∀ c, c ≠ 0 → ρ2.1 c = ρ1.1 c) → ρ2.2 = ρ1.2 → (∀ j, j ≠ 115 → j ≠ 116 → ρ2.1 0 j = ρ1.1 0 j) → (e2 = false → 1 ≤ a2) → ((e2 = false ∧ eq = false ∧ aq = a2 ∧ v = vq ∧ bad = 0 ∧ ∃ b s, u = nI b ∧ v = nI s ∧ 16 ≤ s ∧ s ≤ 2048 ∧ b + s ≤ 8192) ∨ (e2 = true ∧ eq = true ∧ aq = a2) ∨ (e2 = true ∧ eq = false ∧ aq = a2 + 1 ∧ ¬ bad = 0)) → ∃ σ' ρ' a' e' u' v' uq vq', (bd2 (fc_X1_nextWord sp (16:Int32) hi (cl_w σ1 (sp + 1) p u)) (fun r_17 σ_16 => bc_X1_readPartition_44 sp (nI p) y2 (0:Int32) (cl_w σ_16 (sp + 2) p r_17)) = ec_X1_readPartition_44 sp (nI p) y2 (nI p) σ') ∧ (∀ X : Int32 → Int32 → rf_S → Option ((Int32 × Int32 × rf_S) ⊕ (Int32 × Int32 × rf_S)), (∀ r s τ bad, bq_readConfig_71i22 x1 x2 (nI p) r s bad τ = (lp (fun z : (Int32 × Int32 × rf_S) => lq_readConfig_76i22 x1 x2 (nI p) r s z.1 z.2.1 z.2.2) (bad, (0:Int32), τ)).bind (fun z => bd1 (fq_refuse z.1 z.2.2) (fun τ' => X r s τ'))) → (bd2 (fq_config (0:Int32) (8176:Int32) ρ) (fun r_6 ρ_5 => bd2 (fq_config (16:Int32) (2048:Int32) ρ_5) (fun r_8 ρ_7 => (if (r_6 + r_8) ≤ (8192:Int32) then bq_readConfig_71i22 x1 x2 (nI p) r_6 r_8 (0:Int32) ρ_7 else bq_readConfig_71i22 x1 x2 (nI p) r_6 r_8 (1:Int32) ρ_7)))) = X uq vq' ρ') ∧ CsC sp L f a' e' σ' ∧ CsQ L f a' e' ρ' ∧ Kf sp σ σ' ρ ρ' ∧ (∀ d j, ¬ (d = sp ∧ (j = 14 ∨ j = 15)) → ¬ (d = sp + 1 ∧ j = p) → ¬ (d = sp + 2 ∧ j = p) → σ'.1 d j = σ.1 d j) ∧ ρ'.1 79 = ρ.1 79 ∧ (e' = false → ∃ b s, u' = nI b ∧ v' = nI s ∧ uq = nI b ∧ vq' = nI s ∧ σ'.1 (sp + 1) p = nI b ∧ σ'.1 (sp + 2) p = nI s ∧ 16 ≤ s ∧ s ≤ 2048 ∧ b + s ≤ 8192 ∧ ∀ q, q < p → bs q + sz q ≤ b ∨ b + s ≤ bs q) := by
    intro σ2 ρ2 a2 e2 aq eq v vq bad h1 h2 hbad C2 Q2 d2 c2 n2 l2 f2 a2' cases'
    have C2' : CsC sp L f a2 e2 (cl_w σ2 (sp + 2) p v) := C2.cg (fun j hj => by rw [r_w (by omega)]) (r_w (by omega)) rfl
    have k1 : ∀ d j, ¬ (d = sp ∧ (j = 14 ∨ j = 15)) → ¬ (d = sp + 1 ∧ j = p) → ¬ (d = sp + 2 ∧ j = p) → (cl_w σ2 (sp + 2) p v).1 d j = σ.1 d j := fun d j w1 w2 w3 => by rw [g_w, if_neg w3, d2 d j w1, g_w, if_neg w2, d1 d j w1]
    have vals : ∀ i, i < p → (cl_w σ2 (sp + 2) p v).1 (sp + 1) i = nI (bs i) ∧ (cl_w σ2 (sp + 2) p v).1 (sp + 2) i = nI (sz i) := fun i hi => by
      rw [k1 (sp + 1) i (by omega) (by omega) (by omega), k1 (sp + 2) i (by omega) (by omega) (by omega)]
      have := P.v i hi
      exact ⟨this.1, this.2.2.1⟩
    have u1 : (cl_w σ2 (sp + 2) p v).1 (sp + 1) p = u := by rw [r_w (by omega), d2 (sp + 1) p (by omega), r_ws]
    obtain ⟨σ3, a3, e3, o1, C3, o2, o3, o4, o5, o6⟩ := ov_c (x2 := y2) hp p 0 a2 e2 (cl_w σ2 (sp + 2) p v) (by omega) (by omega) C2' a2' vals u1 r_ws
    have qv : ∀ i, i < p → ρ2.1 79 (3 * i) = nI (bs i) ∧ ρ2.1 79 (3 * i + 1) = nI (sz i) := fun i hi => by
      rw [n2 79 (by decide), n1]
      have := P.v i hi
      exact ⟨this.2.1, this.2.2.2.1⟩
    obtain ⟨bad', r1, r2, r3⟩ := ov_q (bs := bs) (sz := sz) (u := u) (v := vq) (x1 := x1) (x2 := x2) hp qv p 0 bad (by omega) (by omega)
    have cl : bd2 (fc_X1_nextWord sp (16:Int32) hi (cl_w σ1 (sp + 1) p u)) (fun r_17 σ_16 => bc_X1_readPartition_44 sp (nI p) y2 (0:Int32) (cl_w σ_16 (sp + 2) p r_17)) = ec_X1_readPartition_44 sp (nI p) y2 (nI p) σ3 := by
      have o1' : lp (fun z : (Int32 × cl_S) => lc_X1_readPartition_44 sp (nI p) y2 z.1 z.2) ((0:Int32), cl_w σ2 (sp + 2) p v) = _ := o1
      rw [h1, bd2n]
      unfold bc_X1_readPartition_44
      rw [o1', Option.bind_some]
    have rq : ∀ (ρ3 : rf_S), fq_refuse bad' ρ2 = some ρ3 → ∀ X : Int32 → Int32 → rf_S → Option ((Int32 × Int32 × rf_S) ⊕ (Int32 × Int32 × rf_S)), (∀ r s τ bad, bq_readConfig_71i22 x1 x2 (nI p) r s bad τ = (lp (fun z : (Int32 × Int32 × rf_S) => lq_readConfig_76i22 x1 x2 (nI p) r s z.1 z.2.1 z.2.2) (bad, (0:Int32), τ)).bind (fun z => bd1 (fq_refuse z.1 z.2.2) (fun τ' => X r s τ'))) → (bd2 (fq_config (0:Int32) (8176:Int32) ρ) (fun r_6 ρ_5 => bd2 (fq_config (16:Int32) (2048:Int32) ρ_5) (fun r_8 ρ_7 => (if (r_6 + r_8) ≤ (8192:Int32) then bq_readConfig_71i22 x1 x2 (nI p) r_6 r_8 (0:Int32) ρ_7 else bq_readConfig_71i22 x1 x2 (nI p) r_6 r_8 (1:Int32) ρ_7)))) = X u vq ρ3 := by
      intro ρ3 h3 X hX
      rw [q1, bd2n, h2, bd2n]
      have r1' : lp (fun z : (Int32 × Int32 × rf_S) => lq_readConfig_76i22 x1 x2 (nI p) u vq z.1 z.2.1 z.2.2) (bad, (0:Int32), ρ2) = _ := r1
      by_cases w : (u + vq) ≤ (8192:Int32)
      · rw [if_pos w] at hbad ⊢
        subst hbad
        rw [hX, r1', Option.bind_some, h3, bd1n]
      · rw [if_neg w] at hbad ⊢
        subst hbad
        rw [hX, r1', Option.bind_some, h3, bd1n]
    have Kc : ∀ ρ3 : rf_S, (∀ c, c ≠ 0 → ρ3.1 c = ρ2.1 c) → ρ3.2 = ρ2.2 → (∀ j, j ≠ 115 → j ≠ 116 → ρ3.1 0 j = ρ2.1 0 j) → Kf sp σ σ3 ρ ρ3 := by
      intro ρ3 k3 k4 k5
      refine ⟨fun d hd => funext fun j => by rw [o2 d j (by omega), k1 d j (by omega) (by omega) (by omega)], by rw [o3]; show σ2.2 = σ.2; rw [c2, K1.c2], fun c h1 h2 => by rw [k3 c h1, n2 c h1, K1.q c h1 h2], by rw [k4, l2, K1.l], fun j h1 h2 => by rw [k5 j h1 h2, f2 j h1 h2, K1.i j h1 h2]⟩
    have dd : ∀ d j, ¬ (d = sp ∧ (j = 14 ∨ j = 15)) → ¬ (d = sp + 1 ∧ j = p) → ¬ (d = sp + 2 ∧ j = p) → σ3.1 d j = σ.1 d j := fun d j w1 w2 w3 => by rw [o2 d j (by omega), k1 d j w1 w2 w3]
    have n79 : ∀ ρ3 : rf_S, (∀ c, c ≠ 0 → ρ3.1 c = ρ2.1 c) → ρ3.1 79 = ρ.1 79 := fun ρ3 k3 => by rw [k3 79 (by decide), n2 79 (by decide), n1]
    rcases cases' with ⟨rfl, rfl, rfl, rfl, rfl, b, s, ub, vs, s1, s2, s3⟩ | ⟨rfl, rfl, rfl⟩ | ⟨rfl, rfl, rfl, hb⟩
    · by_cases ov : ∃ i, 0 ≤ i ∧ i < p ∧ ovl p bs sz u v i
      · obtain ⟨z1, z2⟩ := o6 rfl ov
        subst z1; subst z2
        obtain ⟨ρ3, y1, y2', y3, y4, y5⟩ := Q2.rf (r3 (Or.inr ov)) a2'
        exact ⟨σ3, ρ3, _, true, u, v, u, v, cl, rq ρ3 y1, C3, y2', Kc ρ3 y3 y4 y5, dd, n79 ρ3 y3, fun w => Bool.noConfusion w⟩
      · have nov : ∀ i, 0 ≤ i → i < p → ¬ ovl p bs sz u v i := fun i h1 h2 w => ov ⟨i, h1, h2, w⟩
        obtain ⟨z1, z2⟩ := o5 rfl nov
        subst z1; subst z2
        have b0 := r2 rfl nov
        subst b0
        refine ⟨σ3, ρ2, _, false, u, v, u, v, cl, rq ρ2 CsQ.rf0, C3, Q2, Kc ρ2 (fun _ _ => rfl) rfl (fun _ _ _ => rfl), dd, n79 ρ2 (fun _ _ => rfl), fun _ => ⟨b, s, ub, vs, ub, vs, by rw [o2 (sp + 1) p (by omega), u1, ub], by rw [o2 (sp + 2) p (by omega), r_ws, vs], s1, s2, s3, fun q hq => ?_⟩⟩
        have := nov q (by omega) hq
        unfold ovl at this
        have bq := P.bd q hq
        rw [ub, vs, n_add, n_add, n_le (by omega) (by omega), n_le (by omega) (by omega)] at this
        omega
    · obtain ⟨z1, z2⟩ := o4 rfl
      subst z1; subst z2
      by_cases hb : bad' = 0
      · subst hb
        exact ⟨σ3, ρ2, a3, true, u, v, u, vq, cl, rq ρ2 CsQ.rf0, C3, Q2, Kc ρ2 (fun _ _ => rfl) rfl (fun _ _ _ => rfl), dd, n79 ρ2 (fun _ _ => rfl), fun w => Bool.noConfusion w⟩
      · obtain ⟨ρ3, y1, y2', y3, y4, y5⟩ := Q2.rf hb (fun w => Bool.noConfusion w)
        exact ⟨σ3, ρ3, a3, true, u, v, u, vq, cl, rq ρ3 y1, C3, y2', Kc ρ3 y3 y4 y5, dd, n79 ρ3 y3, fun w => Bool.noConfusion w⟩
    · obtain ⟨z1, z2⟩ := o4 rfl
      subst z1; subst z2
      obtain ⟨ρ3, y1, y2', y3, y4, y5⟩ := Q2.rf (r3 (Or.inl hb)) (fun _ => by omega)
      exact ⟨σ3, ρ3, a3, true, u, v, u, vq, cl, rq ρ3 y1, C3, y2', Kc ρ3 y3 y4 y5, dd, n79 ρ3 y3, fun w => Bool.noConfusion w⟩
  cases e1 with
  | true =>
    rcases C1'.nx 16 hi with ⟨w, -⟩ | ⟨w, -⟩ | ⟨-, h1⟩
    · cases w
    · cases w
    · rcases Q1.nx 16 2048 with ⟨w, -⟩ | ⟨-, h2, Q2⟩
      · cases w
      · exact tl _ _ a1 true a1 true _ _ _ h1 h2 rfl C1' Q2 (fun _ _ _ => rfl) rfl (fun c hc => q_w hc) rfl (fun j _ h2 => q_wk h2) (fun w => Bool.noConfusion w) (Or.inr (Or.inl ⟨rfl, rfl, rfl⟩))
  | false =>
    obtain ⟨-, ea1, g2, g3⟩ := g1 rfl
    -- the base is a small number
    obtain ⟨b, hb, hb8⟩ : ∃ b, u = nI b ∧ b ≤ 8176 := by
      rcases n_cases u with hn | ⟨b, hb, rfl⟩
      · exact absurd hn g2
      · exact ⟨b, rfl, (n_le (a := b) (b := 8176) hb (by omega)).mp g3⟩
    have hhi' : hi = nI (min (8192 - b) 2048) := by
      rw [← hhi, hb, show (8192:Int32) - nI b = nI (8192 - b) from n_sub (a := 8192) (b := b) (by omega)]
      by_cases w : 8192 - b < 2048
      · rw [if_pos (show nI (8192 - b) < (2048:Int32) from (n_lt (a := 8192 - b) (b := 2048) (by omega) (by omega)).mpr w), Nat.min_eq_left (by omega)]
      · rw [if_neg (show ¬ nI (8192 - b) < (2048:Int32) from fun z => w ((n_lt (a := 8192 - b) (b := 2048) (by omega) (by omega)).mp z)), Nat.min_eq_right (by omega)]; rfl
    have hmin : min (8192 - b) 2048 ≤ 2048 := Nat.min_le_right _ _
    have hmin2 : min (8192 - b) 2048 ≤ 8192 - b := Nat.min_le_left _ _
    rcases C1'.nx 16 hi with ⟨-, b1, b2, b3, h1, C2⟩ | ⟨-, b1, h1, C2⟩ | ⟨w, -⟩
    · rcases Q1.nx 16 2048 with ⟨-, c1', c2', c3', h2, Q2⟩ | ⟨w, -⟩
      · obtain ⟨s, hs, hs1, hs2⟩ : ∃ s, f a1 = nI s ∧ 16 ≤ s ∧ s ≤ min (8192 - b) 2048 := by
          rcases n_cases (f a1) with hn | ⟨s, hs, es⟩
          · exact absurd (n_neg hn (show 16 < 2147483648 by omega)).1 b2
          · rw [es] at b2 b3
            rw [hhi'] at b3
            exact ⟨s, es, by rw [show (16:Int32) = nI 16 from rfl, n_lt hs (by omega)] at b2; omega, (n_le hs (by omega)).mp b3⟩
        have hsum : u + f a1 ≤ (8192:Int32) := by rw [hb, hs, n_add, show (8192:Int32) = nI 8192 from rfl, n_le (by omega) (by omega)]; omega
        exact tl _ _ (a1 + 1) false (a1 + 1) false _ _ 0 h1 h2 (if_pos hsum) C2 Q2 (fun d j hd => by rw [g_w, if_neg (by omega)]) rfl (fun c hc => q_w hc) rfl (fun j h1 _ => q_wk h1) (fun _ => by omega) (Or.inl ⟨rfl, rfl, rfl, rfl, rfl, b, s, hb, hs, by omega, by omega, by omega⟩)
      · rcases w rfl with w | w | w
        · omega
        · exact absurd w b2
        · exfalso
          rw [hhi'] at b3
          apply w
          rcases n_cases (f a1) with hn | ⟨s, hs, es⟩
          · exact absurd (n_neg hn (show 16 < 2147483648 by omega)).1 b2
          · rw [es] at b3 ⊢
            rw [show (2048:Int32) = nI 2048 from rfl, n_le hs (by omega)]
            have := (n_le hs (by omega)).mp b3
            omega
    · rcases Q1.nx 16 2048 with ⟨-, c1', c2', c3', h2, Q2⟩ | ⟨-, h2, Q2⟩
      · -- the class alone sees the fault
        have hs : ∃ s, f a1 = nI s ∧ s ≤ 2048 ∧ ¬ s ≤ 8192 - b := by
          rcases n_cases (f a1) with hn | ⟨s, hs, es⟩
          · exact absurd (n_neg hn (show 16 < 2147483648 by omega)).1 c2'
          · rw [es] at c3' b1 c2'
            have s2 : s ≤ 2048 := (n_le (a := s) (b := 2048) hs (by omega)).mp c3'
            refine ⟨s, es, s2, fun w => ?_⟩
            rcases b1 with b1 | b1 | b1
            · omega
            · exact absurd b1 c2'
            · rw [hhi', n_le hs (by omega)] at b1
              have := Nat.le_min.mpr ⟨w, s2⟩
              exact b1 this
        obtain ⟨s, es, s2, s3⟩ := hs
        have hsum : ¬ u + f a1 ≤ (8192:Int32) := by rw [hb, es, n_add, show (8192:Int32) = nI 8192 from rfl, n_le (by omega) (by omega)]; omega
        exact tl _ _ a1 true (a1 + 1) false _ _ 1 h1 h2 (if_neg hsum) C2 Q2 (fun d j hd => by rw [g_w, if_neg (by omega)]) rfl (fun c hc => q_w hc) rfl (fun j h1 _ => q_wk h1) (fun w => Bool.noConfusion w) (Or.inr (Or.inr ⟨rfl, rfl, rfl, by decide⟩))
      · exact tl _ _ a1 true a1 true _ _ _ h1 h2 rfl C2 Q2 (fun d j hd => by rw [g_w, if_neg (by omega)]) rfl (fun c hc => q_w hc) rfl (fun j _ h2 => q_wk h2) (fun w => Bool.noConfusion w) (Or.inr (Or.inl ⟨rfl, rfl, rfl⟩))
    · cases w
end Z2_G6
