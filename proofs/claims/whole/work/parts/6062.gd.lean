section Z2_GD
variable {K : Bd} {W W' : Wd} {b : Bool} {k s p : Nat} {σ σ' : cl_S} {ρ ρ' : rf_S}
def b01 (x : Bool) : Int32 := if x then 1 else 0
/-- the matrix of flows -/
def MF (ρ0 : rf_S) (F : Nat → Nat → Bool) (ρ : rf_S) : Prop := (∀ c, c ≠ 37 → ρ.1 c = ρ0.1 c) ∧ ρ.2 = ρ0.2 ∧ ∀ q p, q < 8 → p < 8 → ρ.1 37 (8 * q + p) = b01 (F q p)
theorem tk_fl0 : ∃ ρ'', lp (fun z : (Int32 × rf_S) => lq_takeConfig_235 z.1 z.2) (nI 0, ρ) = some (nI 8, ρ'') ∧ MF ρ (fun q p => q == p) ρ'' := by
  have := lp_cnt (f := lq_takeConfig_235) (n := 8) (fun x ρ' => (∀ c, c ≠ 37 → ρ'.1 c = ρ.1 c) ∧ ρ'.2 = ρ.2 ∧ ∀ q p, q < x → p < 8 → ρ'.1 37 (8 * q + p) = b01 (q == p)) ?_ ?_ 8 0 ρ (by omega) (by omega) ⟨fun _ _ => rfl, rfl, fun q _ hq => absurd hq (by omega)⟩
  · exact this
  · rintro x ρ1 hx ⟨h1, h2, h3⟩
    obtain ⟨ρ2, e2, g1, g2, g3⟩ := lp_cnt (f := lq_takeConfig_243i235 (nI x)) (n := 8) (fun y ρ' => (∀ c, c ≠ 37 → ρ'.1 c = ρ.1 c) ∧ ρ'.2 = ρ.2 ∧ ∀ q p, p < 8 → (q < x ∨ (q = x ∧ p < y)) → ρ'.1 37 (8 * q + p) = b01 (q == p)) (by
      rintro y ρ' hy ⟨k1, k2, k3⟩
      have t8 : (8:Int32) * nI x = nI (8 * x) := n_mul 8 x
      have ta : nI (8 * x) + nI y = nI (8 * x + y) := n_add _ _
      have t1 : nI y + (1:Int32) = nI (y + 1) := n_add y 1
      refine ⟨rf_w ρ' 37 (8 * x + y) (b01 (x == y)), ?_, ?_, k2, ?_⟩
      · unfold lq_takeConfig_243i235 bq_takeConfig_269i243
        rw [if_neg (show ¬ (8:Int32) ≤ nI y from fun w => by have := (n_le (a := 8) (b := y) (by omega) (by omega)).mp w; omega), t8, ta, n_ix (show 8 * x + y < 64 by omega) (by omega), n_ix (show 8 * x + y < 64 by omega) (by omega), n_cl (show 8 * x + y < 2147483648 by omega), nar_0, nar_1, vln, vln, vln, vln, t1]
        by_cases c : x = y
        · subst c
          rw [if_pos rfl, show b01 (x == x) = 1 from by simp [b01]]
        · rw [if_neg (fun w => c ((n_eq (by omega) (by omega)).mp w).symm), show b01 (x == y) = 0 from by simp [b01, c]]
      · intro c hc; rw [q_w hc]; exact k1 c hc
      · intro q p hp hq
        rw [g_q]
        by_cases c : 8 * q + p = 8 * x + y
        · rw [if_pos ⟨rfl, c⟩]
          have : q = x ∧ p = y := by omega
          rw [this.1, this.2]
        · rw [if_neg (fun w => c w.2)]
          exact k3 q p hp (by omega)) (by
      rintro ρ' -
      unfold lq_takeConfig_243i235
      rw [if_pos (show (8:Int32) ≤ nI 8 from (n_le (a := 8) (b := 8) (by omega) (by omega)).mpr (by omega))]) 8 0 ρ1 (by omega) (by omega) ⟨h1, h2, fun q p hp hq => h3 q p (by omega) hp⟩
    refine ⟨ρ2, ?_, g1, g2, fun q p hq hp => g3 q p hp (by omega)⟩
    unfold lq_takeConfig_235 bq_takeConfig_243i235
    rw [if_neg (show ¬ (8:Int32) ≤ nI x from fun w => by have := (n_le (a := 8) (b := x) (by omega) (by omega)).mp w; omega), show (0:Int32) = nI 0 from rfl, e2, Option.bind_some]
    unfold eq_takeConfig_243i235
    rw [vln, show nI x + (1:Int32) = nI (x + 1) from n_add x 1]
  · rintro ρ' -
    unfold lq_takeConfig_235
    rw [if_pos (show (8:Int32) ≤ nI 8 from (n_le (a := 8) (b := 8) (by omega) (by omega)).mpr (by omega))]
theorem tk_fl1 {r : Nat} (hn : W.nc ≤ 16) (h60 : ρ.1 0 60 = nI W.nc) (hv : ∀ c, c < W.nc → ρ.1 32 c = nI (W.fr c) ∧ ρ.1 33 c = nI (W.to c) ∧ W.fr c < 8 ∧ W.to c < 8) {x : Int32} {ρ1 : rf_S} (h : MF ρ (fun q p => flR W p r q) ρ1) : ∃ ρ'', lp (fun z : (Int32 × rf_S) => lq_takeConfig_292i284 x z.1 z.2) (nI 0, ρ1) = some (nI W.nc, ρ'') ∧ MF ρ (fun q p => flR W p (r + 1) q) ρ'' := by
  refine lp_cnt (f := lq_takeConfig_292i284 x) (n := W.nc) (fun c ρ' => MF ρ (fun q p => flC W (flR W p r) c q) ρ') ?_ ?_ W.nc 0 ρ1 (by omega) (by omega) h
  · rintro c ρ2 hc h2
    obtain ⟨v1, v2, v3, v4⟩ := hv c hc
    have cc : (nI c).toNatClampNeg = c := n_cl (by omega)
    have ic : ∀ {α : Type} (z : Option α), ix (nI c) 16 z = z := fun z => n_ix (by omega) (by omega)
    obtain ⟨ρ3, e3, g⟩ := lp_cnt (f := lq_takeConfig_303i292 x (nI c)) (n := 8) (fun y ρ' => MF ρ (fun q p => if p < y then flC W (flR W p r) (c + 1) q else flC W (flR W p r) c q) ρ') (by
      rintro y ρ' hy ⟨k1, k2, k3⟩
      have t1 : nI y + (1:Int32) = nI (y + 1) := n_add y 1
      have ta : (8:Int32) * nI (W.to c) + nI y = nI (8 * W.to c + y) := by rw [show (8:Int32) = nI 8 from rfl, n_mul, n_add]
      have tb : (8:Int32) * nI (W.fr c) + nI y = nI (8 * W.fr c + y) := by rw [show (8:Int32) = nI 8 from rfl, n_mul, n_add]
      replace k3 : ∀ q p, q < 8 → p < 8 → ρ'.1 37 (8 * q + p) = b01 (if p < y then flC W (flR W p r) (c + 1) q else flC W (flR W p r) c q) := k3
      have va := k3 (W.to c) y v4 hy
      rw [if_neg (Nat.lt_irrefl _)] at va
      have other : ∀ q p, q < 8 → p < 8 → p ≠ y → (if p < y + 1 then flC W (flR W p r) (c + 1) q else flC W (flR W p r) c q) = (if p < y then flC W (flR W p r) (c + 1) q else flC W (flR W p r) c q) := by
        intro q p _ _ hp
        by_cases w : p < y
        · rw [if_pos w, if_pos (by omega)]
        · rw [if_neg w, if_neg (by omega)]
      have hd : lq_takeConfig_303i292 x (nI c) (nI y) ρ' = if b01 (flC W (flR W y r) c (W.to c)) = 0 then some (.inl (nI (y + 1), ρ')) else some (.inl (nI (y + 1), rf_w ρ' 37 (8 * W.fr c + y) 1)) := by
        unfold lq_takeConfig_303i292 bq_takeConfig_348i303
        rw [if_neg (show ¬ (8:Int32) ≤ nI y from fun w => by have := (n_le (a := 8) (b := y) (by omega) (by omega)).mp w; omega), ic, ic, cc, k1 33 (by decide), k1 32 (by decide), v1, v2, ta, tb, n_ix (show 8 * W.to c + y < 64 by omega) (by omega), n_ix (show 8 * W.fr c + y < 64 by omega) (by omega), n_cl (show 8 * W.to c + y < 2147483648 by omega), n_cl (show 8 * W.fr c + y < 2147483648 by omega), va, nar_1, vln, vln, vln, t1]
      cases z : flC W (flR W y r) c (W.to c) with
      | false =>
        rw [z, if_pos (show b01 false = 0 from rfl)] at hd
        refine ⟨ρ', hd, k1, k2, fun q p hq hp => ?_⟩
        show _ = b01 (if p < y + 1 then flC W (flR W p r) (c + 1) q else flC W (flR W p r) c q)
        rw [k3 q p hq hp]
        by_cases w : p = y
        · subst w
          rw [if_neg (Nat.lt_irrefl _), if_pos (Nat.lt_succ_self _)]
          show _ = b01 (flC W (flR W p r) c q || (flC W (flR W p r) c (W.to c) && (q == W.fr c)))
          rw [z, Bool.false_and, Bool.or_false]
        · rw [other q p hq hp w]
      | true =>
        rw [z, if_neg (show ¬ b01 true = 0 by decide)] at hd
        refine ⟨_, hd, fun c hc => by rw [q_w hc]; exact k1 c hc, k2, fun q p hq hp => ?_⟩
        show _ = b01 (if p < y + 1 then flC W (flR W p r) (c + 1) q else flC W (flR W p r) c q)
        rw [g_q]
        by_cases w : p = y
        · subst w
          rw [if_pos (Nat.lt_succ_self _)]
          show _ = b01 (flC W (flR W p r) c q || (flC W (flR W p r) c (W.to c) && (q == W.fr c)))
          by_cases w2 : q = W.fr c
          · rw [if_pos ⟨rfl, by omega⟩, z, w2]
            simp [b01]
          · rw [if_neg (by omega), z, k3 q p hq hp, if_neg (Nat.lt_irrefl _), show (q == W.fr c) = false from by simp [w2], Bool.and_false, Bool.or_false]
        · rw [if_neg (by omega), k3 q p hq hp, other q p hq hp w]) (by
      rintro ρ' -
      unfold lq_takeConfig_303i292
      rw [if_pos (show (8:Int32) ≤ nI 8 from (n_le (a := 8) (b := 8) (by omega) (by omega)).mpr (by omega))]) 8 0 ρ2 (by omega) (by omega) ⟨h2.1, h2.2.1, fun q p hq hp => by rw [h2.2.2 q p hq hp]; show _ = b01 (if p < 0 then _ else _); rw [if_neg (by omega)]⟩
    refine ⟨ρ3, ?_, g.1, g.2.1, fun q p hq hp => by rw [g.2.2 q p hq hp]; show b01 (if p < 8 then _ else _) = _; rw [if_pos hp]⟩
    unfold lq_takeConfig_292i284 bq_takeConfig_303i292
    rw [h2.1 0 (by decide), h60, if_neg (fun w => by have := (n_le (by omega) (by omega)).mp w; omega), show (0:Int32) = nI 0 from rfl, e3, Option.bind_some]
    unfold eq_takeConfig_303i292
    rw [vln, show nI c + (1:Int32) = nI (c + 1) from n_add c 1]
  · rintro ρ2 h2
    unfold lq_takeConfig_292i284
    rw [h2.1 0 (by decide), h60, if_pos ((n_le (by omega) (by omega)).mpr (Nat.le_refl _))]
theorem tk_flow (hn : W.nc ≤ 16) (h60 : ρ.1 0 60 = nI W.nc) (hv : ∀ c, c < W.nc → ρ.1 32 c = nI (W.fr c) ∧ ρ.1 33 c = nI (W.to c) ∧ W.fr c < 8 ∧ W.to c < 8) : ∃ ρ'', bq_takeConfig_235 (nI 0) ρ = some ρ'' ∧ MF ρ (fun q p => flR W p 8 q) ρ'' := by
  obtain ⟨ρ1, e1, h1⟩ := tk_fl0 (ρ := ρ)
  obtain ⟨ρ2, e2, h2⟩ := lp_cnt (f := lq_takeConfig_284) (n := 8) (fun r ρ' => MF ρ (fun q p => flR W p r q) ρ') (by
    rintro r ρ' hr h
    obtain ⟨ρ3, e3, h3⟩ := tk_fl1 (x := nI r) hn h60 hv h
    refine ⟨ρ3, ?_, h3⟩
    unfold lq_takeConfig_284 bq_takeConfig_292i284
    rw [if_neg (show ¬ (8:Int32) ≤ nI r from fun w => by have := (n_le (a := 8) (b := r) (by omega) (by omega)).mp w; omega), show (0:Int32) = nI 0 from rfl, e3, Option.bind_some]
    unfold eq_takeConfig_292i284
    rw [vln, show nI r + (1:Int32) = nI (r + 1) from n_add r 1]) (by
    rintro ρ' -
    unfold lq_takeConfig_284
    rw [if_pos (show (8:Int32) ≤ nI 8 from (n_le (a := 8) (b := 8) (by omega) (by omega)).mpr (by omega))]) 8 0 ρ1 (by omega) (by omega) h1
  refine ⟨ρ2, ?_, h2⟩
  unfold bq_takeConfig_235
  rw [e1, Option.bind_some]
  unfold eq_takeConfig_235 bq_takeConfig_284
  rw [show (0:Int32) = nI 0 from rfl, e2, Option.bind_some]
  rfl
end Z2_GD
