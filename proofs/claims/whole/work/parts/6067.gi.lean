section Z2_GI
variable {K : Bd} {W W' : Wd} {b : Bool} {k s p : Nat} {σ σ' : cl_S} {ρ ρ' : rf_S}
/-- the reference's machine at its beginning -/
def BgQ (s np : Nat) (bs sz len st : Nat → Nat) (ρ ρ' : rf_S) : Prop := (∀ c j, ¬ bgq s c j → ρ'.1 c j = ρ.1 c j) ∧ (ρ'.2 = ρ.2) ∧ (∀ c, 47 < c → c < 52 → ρ'.1 c s = 0) ∧ (∀ p r, p < 8 → r < 16 → ρ'.1 53 (16 * (8 * s + p) + r) = 0) ∧ (∀ c p, cnr c → p < 8 → ρ'.1 c (8 * s + p) = 0) ∧ (∀ p i, p < np → i < sz p → ρ'.1 52 (8192 * s + bs p + i) = if i < len p then ρ.1 12 (st p + i) else 0) ∧ (∀ c i, c < 16 → i < 16 → ρ'.1 71 (16 * (16 * s + c) + i) = 0) ∧ (∀ c, c < 16 → ρ'.1 72 (16 * s + c) = 0 ∧ ρ'.1 73 (16 * s + c) = -1)
theorem BgQ.o {s np : Nat} {bs sz len st : Nat → Nat} {ρ ρ' : rf_S} (hS : BgQ s np bs sz len st ρ ρ') : ∀ c j, ¬ bgq s c j → ρ'.1 c j = ρ.1 c j := hS.1
theorem BgQ.l {s np : Nat} {bs sz len st : Nat → Nat} {ρ ρ' : rf_S} (hS : BgQ s np bs sz len st ρ ρ') : ρ'.2 = ρ.2 := hS.2.1
theorem BgQ.t {s np : Nat} {bs sz len st : Nat → Nat} {ρ ρ' : rf_S} (hS : BgQ s np bs sz len st ρ ρ') : ∀ c, 47 < c → c < 52 → ρ'.1 c s = 0 := hS.2.2.1
theorem BgQ.rg {s np : Nat} {bs sz len st : Nat → Nat} {ρ ρ' : rf_S} (hS : BgQ s np bs sz len st ρ ρ') : ∀ p r, p < 8 → r < 16 → ρ'.1 53 (16 * (8 * s + p) + r) = 0 := hS.2.2.2.1
theorem BgQ.n {s np : Nat} {bs sz len st : Nat → Nat} {ρ ρ' : rf_S} (hS : BgQ s np bs sz len st ρ ρ') : ∀ c p, cnr c → p < 8 → ρ'.1 c (8 * s + p) = 0 := hS.2.2.2.2.1
theorem BgQ.me {s np : Nat} {bs sz len st : Nat → Nat} {ρ ρ' : rf_S} (hS : BgQ s np bs sz len st ρ ρ') : ∀ p i, p < np → i < sz p → ρ'.1 52 (8192 * s + bs p + i) = if i < len p then ρ.1 12 (st p + i) else 0 := hS.2.2.2.2.2.1
theorem BgQ.sn {s np : Nat} {bs sz len st : Nat → Nat} {ρ ρ' : rf_S} (hS : BgQ s np bs sz len st ρ ρ') : ∀ c i, c < 16 → i < 16 → ρ'.1 71 (16 * (16 * s + c) + i) = 0 := hS.2.2.2.2.2.2.1
theorem BgQ.ch {s np : Nat} {bs sz len st : Nat → Nat} {ρ ρ' : rf_S} (hS : BgQ s np bs sz len st ρ ρ') : ∀ c, c < 16 → ρ'.1 72 (16 * s + c) = 0 ∧ ρ'.1 73 (16 * s + c) = -1 := hS.2.2.2.2.2.2.2
theorem q_begin {np : Nat} {bs sz len st tq : Nat → Nat} (hs : s < 2) (sd : ρ.1 0 79 = nI s) (hn : np ≤ 8) (h55 : ρ.1 0 55 = nI np) (hb : ∀ p, p < np → len p ≤ sz p ∧ bs p + sz p ≤ 8192 ∧ ρ.1 28 p = nI (bs p)) (dj : ∀ p q, p < np → q < np → p ≠ q → bs p + sz p ≤ bs q ∨ bs q + sz q ≤ bs p) (ht : ∀ p, p < np → tq p < 112000 ∧ ρ.1 38 p = nI (tq p) ∧ ρ.1 3 (tq p) = nI (len p) ∧ ρ.1 2 (tq p) = nI (st p) ∧ st p + len p ≤ 690000) : ∃ ρ', fq_begin ρ = some ρ' ∧ BgQ s np bs sz len st ρ ρ' := by
  have i2 : ∀ {α : Type} (z : Option α), ix (nI s) 2 z = z := fun z => n_ix hs (by omega)
  have cs : (nI s).toNatClampNeg = s := n_cl (by omega)
  have e0 : fq_begin ρ = bq_begin_42 (0:Int32) (rf_w (rf_w (rf_w (rf_w ρ 48 s 0) 49 s 0) 50 s 0) 51 s 0) := by
    unfold fq_begin bq_begin_0
    rw [sd, i2, cs, vln, show (rf_w ρ 48 s 0).1 0 79 = nI s from by rw [q_w (by decide)]; exact sd, i2, cs, vln, show (rf_w (rf_w ρ 48 s 0) 49 s 0).1 0 79 = nI s from by rw [q_w (by decide), q_w (by decide)]; exact sd, i2, cs, vln, show (rf_w (rf_w (rf_w ρ 48 s 0) 49 s 0) 50 s 0).1 0 79 = nI s from by rw [q_w (by decide), q_w (by decide), q_w (by decide)]; exact sd, i2, cs, nar_0, vln]
  have w0 : ∀ c j, ¬ (47 < c ∧ c < 52 ∧ j = s) → (rf_w (rf_w (rf_w (rf_w ρ 48 s 0) 49 s 0) 50 s 0) 51 s 0).1 c j = ρ.1 c j := fun c j h => by rw [g_q, if_neg (by omega), g_q, if_neg (by omega), g_q, if_neg (by omega), g_q, if_neg (by omega)]
  have w1 : ∀ c, 47 < c → c < 52 → (rf_w (rf_w (rf_w (rf_w ρ 48 s 0) 49 s 0) 50 s 0) 51 s 0).1 c s = 0 := fun c h1 h2 => by
    have : c = 48 ∨ c = 49 ∨ c = 50 ∨ c = 51 := by omega
    rcases this with rfl | rfl | rfl | rfl <;> simp only [g_q, Nat.reduceEqDiff, and_false, false_and, if_false, true_and, and_true, if_true, and_self]
  have w2 : (rf_w (rf_w (rf_w (rf_w ρ 48 s 0) 49 s 0) 50 s 0) 51 s 0).2 = ρ.2 := rfl
  generalize (rf_w (rf_w (rf_w (rf_w ρ 48 s 0) 49 s 0) 50 s 0) 51 s 0) = τ at e0 w0 w1 w2
  obtain ⟨τ1, g1, a1, l1, z1⟩ := qb_52 (ρ := τ) hs (by rw [w0 0 79 (by omega)]; exact sd)
  obtain ⟨τ2, g2, a2, l2, r2, n2⟩ := qb_73 (ρ := τ1) hs (by rw [a1 0 79 (by omega), w0 0 79 (by omega)]; exact sd)
  have b2 : ∀ c j, c < 48 → τ2.1 c j = ρ.1 c j := fun c j hc => by rw [a2 c j (by omega) (by omega), a1 c j (by omega), w0 c j (by omega)]
  obtain ⟨τ3, g3, a3, l3, m3⟩ := qb_207 (ρ := τ2) (np := np) (bs := bs) (sz := sz) (len := len) (st := st) (tq := tq) hs (by rw [b2 0 79 (by omega)]; exact sd) hn (by rw [b2 0 55 (by omega)]; exact h55) (fun p hp => by rw [b2 28 p (by omega)]; exact hb p hp) dj (fun p hp => by rw [b2 38 p (by omega), b2 3 _ (by omega), b2 2 _ (by omega)]; exact ht p hp) (fun i hi => by rw [a2 52 _ (by omega) (by omega)]; exact z1 i hi)
  obtain ⟨τ4, g4, a4, l4, s4, c4⟩ := qb_292 (ρ := τ3) hs (by rw [a3 0 79 (by omega), b2 0 79 (by omega)]; exact sd)
  refine ⟨τ4, ?_, ⟨fun c j h => ?_, by rw [l4, l3, l2, l1, w2], fun c h1 h2 => ?_, fun p r hp hr => ?_, fun c p hc hp => ?_, fun p i hp hi => ?_, s4, c4⟩⟩
  · rw [e0]
    unfold bq_begin_42
    rw [show lp (fun z : (Int32 × rf_S) => lq_begin_42 z.1 z.2) ((0:Int32), τ) = _ from g1, Option.bind_some]
    unfold eq_begin_42 bq_begin_73
    rw [show lp (fun z : (Int32 × rf_S) => lq_begin_73 z.1 z.2) ((0:Int32), τ1) = _ from g2, Option.bind_some]
    unfold eq_begin_73 bq_begin_207
    rw [show lp (fun z : (Int32 × rf_S) => lq_begin_207 z.1 z.2) ((0:Int32), τ2) = _ from g3, Option.bind_some]
    unfold eq_begin_207
    rw [show τ3.1 0 79 = nI s from by rw [a3 0 79 (by omega), b2 0 79 (by omega)]; exact sd, show (16:Int32) * nI s = nI (16 * s) from n_mul 16 s, vln]
    unfold bq_begin_292
    rw [g4, Option.bind_some]
    rfl
  · have h1 : ¬ (c = 71 ∧ 256 * s ≤ j ∧ j < 256 * s + 256) := fun w => h (Or.inr (Or.inr (Or.inr (Or.inr (Or.inl w)))))
    have h2 : ¬ ((c = 72 ∨ c = 73) ∧ 16 * s ≤ j ∧ j < 16 * s + 16) := fun w => h (Or.inr (Or.inr (Or.inr (Or.inr (Or.inr w)))))
    have h3 : ¬ (c = 52 ∧ 8192 * s ≤ j ∧ j < 8192 * s + 8192) := fun w => h (Or.inr (Or.inl w))
    have h4 : ¬ (c = 53 ∧ 128 * s ≤ j ∧ j < 128 * s + 128) := fun w => h (Or.inr (Or.inr (Or.inl w)))
    have h5 : ¬ (cnr c ∧ 8 * s ≤ j ∧ j < 8 * s + 8) := fun w => h (Or.inr (Or.inr (Or.inr (Or.inl w))))
    have h6 : ¬ (47 < c ∧ c < 52 ∧ j = s) := fun w => h (Or.inl w)
    rw [a4 c j h1 h2, a3 c j h3, a2 c j h4 h5, a1 c j h3, w0 c j h6]
  · rw [a4 c s (by omega) (by omega), a3 c s (by omega), a2 c s (by omega) (by omega), a1 c s (by omega)]; exact w1 c h1 h2
  · rw [a4 53 _ (by omega) (by omega), a3 53 _ (by omega)]; exact r2 p r hp hr
  · rw [a4 c _ (by unfold cnr at hc; omega) (by unfold cnr at hc; omega), a3 c _ (by unfold cnr at hc; omega)]; exact n2 c p hc hp
  · rw [a4 52 _ (by omega) (by omega), m3 p i hp hi, b2 12 _ (by omega)]
/-- the class copies a disk -/
theorem c_cpd {a d : Nat} (h : a + 2 < d ∨ d + 2 < a) : ∃ σ', fc_X3_copyFrom a (some d) σ = some σ' ∧ (∀ e, e ≠ a + 1 → σ'.1 e = σ.1 e) ∧ (∀ j, σ'.1 (a + 1) j = if j < 64 then σ.1 (d + 1) j else σ.1 (a + 1) j) ∧ σ'.2.1 = σ.2.1 ∧ σ'.2.2.2 = σ.2.2.2 ∧ (∀ e, e ≠ a + 2 → σ'.2.2.1 e = σ.2.2.1 e) ∧ (∀ j, σ'.2.2.1 (a + 2) j = if j < 64 then σ.2.2.1 (d + 2) j else σ.2.2.1 (a + 2) j) := by
  obtain ⟨σ', e, h1, h2, h3, h4, h5, h6⟩ := lp_cnt (f := lc_X3_copyFrom_2 a (some d)) (n := 64) (fun i σ' => (∀ e, e ≠ a + 1 → σ'.1 e = σ.1 e) ∧ (∀ j, σ'.1 (a + 1) j = if j < i then σ.1 (d + 1) j else σ.1 (a + 1) j) ∧ σ'.2.1 = σ.2.1 ∧ σ'.2.2.2 = σ.2.2.2 ∧ (∀ e, e ≠ a + 2 → σ'.2.2.1 e = σ.2.2.1 e) ∧ (∀ j, σ'.2.2.1 (a + 2) j = if j < i then σ.2.2.1 (d + 2) j else σ.2.2.1 (a + 2) j)) (by
    rintro i τ hi ⟨k1, k2, k3, k4, k5, k6⟩
    have i64 : ∀ {α : Type} (z : Option α), ix (nI i) 64 z = z := fun z => n_ix (by omega) (by omega)
    have ci : (nI i).toNatClampNeg = i := n_cl (by omega)
    refine ⟨cl_wr (cl_w τ (a + 1) i (σ.1 (d + 1) i)) (a + 2) i (σ.2.2.1 (d + 2) i), ?_, fun e he => ?_, fun j => ?_, k3, k4, fun e he => ?_, fun j => ?_⟩
    · unfold lc_X3_copyFrom_2
      rw [if_neg (show ¬ (64:Int32) ≤ nI i from fun w => by have := (n_le (a := 64) (b := i) (by omega) (by omega)).mp w; omega), nnn, i64, i64, ci, k1 (d + 1) (by omega), vln, i64, vln, show (cl_w τ (a + 1) i (σ.1 (d + 1) i)).2.2.1 (d + 2) i = σ.2.2.1 (d + 2) i from by show τ.2.2.1 (d + 2) i = _; rw [k5 (d + 2) (by omega)], i64, vln, vln, show nI i + (1:Int32) = nI (i + 1) from n_add i 1]
    · rw [r_rI, r_w he]; exact k1 e he
    · rw [r_rI, g_w]
      by_cases c : j = i
      · rw [if_pos ⟨rfl, c⟩, if_pos (by omega), c]
      · rw [if_neg (fun w => c w.2), k2]
        by_cases w : j < i
        · rw [if_pos w, if_pos (by omega)]
        · rw [if_neg w, if_neg (by omega)]
    · rw [r_r he]; exact k5 e he
    · rw [g_r]
      by_cases c : j = i
      · rw [if_pos ⟨rfl, c⟩, if_pos (by omega), c]
      · rw [if_neg (fun w => c w.2)]
        show τ.2.2.1 (a + 2) j = _
        rw [k6]
        by_cases w : j < i
        · rw [if_pos w, if_pos (by omega)]
        · rw [if_neg w, if_neg (by omega)]) (by
    rintro τ -
    unfold lc_X3_copyFrom_2
    rw [if_pos (show (64:Int32) ≤ nI 64 from (n_le (a := 64) (b := 64) (by omega) (by omega)).mpr (by omega))]) 64 0 σ (by omega) (by omega) ⟨fun _ _ => rfl, fun j => by rw [if_neg (by omega)], rfl, rfl, fun _ _ => rfl, fun j => by rw [if_neg (by omega)]⟩
  refine ⟨σ', ?_, h1, h2, h3, h4, h5, h6⟩
  unfold fc_X3_copyFrom bc_X3_copyFrom_0 bc_X3_copyFrom_2
  rw [show lp (fun z : (Int32 × cl_S) => lc_X3_copyFrom_2 a (some d) z.1 z.2) ((0:Int32), σ) = _ from e, Option.bind_some]
  rfl
/-- the reference's end of a boot -/
theorem q_btend : ∃ ρ', bq_boot_154 (0:Int32) ρ = some (ρ'.1 0 55, ρ') ∧ (∀ c, c ≠ 40 → c ≠ 41 → c ≠ 43 → ρ'.1 c = ρ.1 c) ∧ ρ'.2 = ρ.2 ∧ (∀ p, p < 8 → ρ'.1 43 p = 0) ∧ (∀ j, j < 64 → ρ'.1 40 j = ρ.1 74 j ∧ ρ'.1 41 j = ρ.1 75 j) := by
  obtain ⟨ρ1, e1, a1, l1, z1⟩ := lp_cnt (f := lq_boot_154) (n := 8) (fun x ρ' => (∀ c, c ≠ 43 → ρ'.1 c = ρ.1 c) ∧ ρ'.2 = ρ.2 ∧ ∀ p, p < x → ρ'.1 43 p = 0) (by
    rintro x τ hx ⟨k1, k2, k3⟩
    refine ⟨rf_w τ 43 x 0, ?_, fun c hc => by rw [q_w hc]; exact k1 c hc, k2, fun p hp => ?_⟩
    · unfold lq_boot_154
      rw [if_neg (show ¬ (8:Int32) ≤ nI x from fun w => by have := (n_le (a := 8) (b := x) (by omega) (by omega)).mp w; omega), n_ix (show x < 8 by omega) (by omega), n_cl (show x < 2147483648 by omega), vln, vln, show nI x + (1:Int32) = nI (x + 1) from n_add x 1]
    · by_cases c : p = x
      · subst c; exact q_ws
      · rw [q_wk c]; exact k3 p (by omega)) (by
    rintro τ -
    unfold lq_boot_154
    rw [if_pos (show (8:Int32) ≤ nI 8 from (n_le (a := 8) (b := 8) (by omega) (by omega)).mpr (by omega))]) 8 0 ρ (by omega) (by omega) ⟨fun _ _ => rfl, rfl, fun p hp => absurd hp (by omega)⟩
  obtain ⟨ρ2, e2, a2, l2, z2⟩ := lp_cnt (f := lq_boot_175) (n := 64) (fun x ρ' => (∀ c, c ≠ 40 → c ≠ 41 → ρ'.1 c = ρ1.1 c) ∧ ρ'.2 = ρ1.2 ∧ ∀ j, j < x → ρ'.1 40 j = ρ1.1 74 j ∧ ρ'.1 41 j = ρ1.1 75 j) (by
    rintro x τ hx ⟨k1, k2, k3⟩
    have i1 : ∀ {α : Type} (z : Option α), ix (nI x) 128 z = z := fun z => n_ix (by omega) (by omega)
    have i2 : ∀ {α : Type} (z : Option α), ix (nI x) 64 z = z := fun z => n_ix (by omega) (by omega)
    refine ⟨rf_w (rf_w τ 40 x (ρ1.1 74 x)) 41 x (ρ1.1 75 x), ?_, fun c h1 h2 => by rw [q_w h2, q_w h1]; exact k1 c h1 h2, k2, fun p hp => ?_⟩
    · unfold lq_boot_175
      rw [if_neg (show ¬ (64:Int32) ≤ nI x from fun w => by have := (n_le (a := 64) (b := x) (by omega) (by omega)).mp w; omega), i1, i2, n_cl (show x < 2147483648 by omega), k1 74 (by decide) (by decide), vln, i1, i2, q_w (by decide), k1 75 (by decide) (by decide), vln, vln, show nI x + (1:Int32) = nI (x + 1) from n_add x 1]
    · by_cases c : p = x
      · subst c; exact ⟨by rw [q_w (by decide), q_ws], q_ws⟩
      · rw [q_w (by decide), q_wk c, q_wk c, q_w (by decide)]; exact k3 p (by omega)) (by
    rintro τ -
    unfold lq_boot_175
    rw [if_pos (show (64:Int32) ≤ nI 64 from (n_le (a := 64) (b := 64) (by omega) (by omega)).mpr (by omega))]) 64 0 ρ1 (by omega) (by omega) ⟨fun _ _ _ => rfl, rfl, fun p hp => absurd hp (by omega)⟩
  refine ⟨ρ2, ?_, fun c h1 h2 h3 => by rw [a2 c h1 h2, a1 c h3], by rw [l2, l1], fun p hp => by rw [a2 43 (by decide) (by decide)]; exact z1 p hp, fun j hj => by rw [← a1 74 (by decide), ← a1 75 (by decide)]; exact z2 j hj⟩
  unfold bq_boot_154
  rw [show lp (fun z : (Int32 × rf_S) => lq_boot_154 z.1 z.2) ((0:Int32), ρ) = _ from e1, Option.bind_some]
  unfold eq_boot_154 bq_boot_175
  rw [show lp (fun z : (Int32 × rf_S) => lq_boot_175 z.1 z.2) ((0:Int32), ρ1) = _ from e2, Option.bind_some]
  rfl
end Z2_GI
