section Z2_GH
variable {K : Bd} {W W' : Wd} {b : Bool} {k s p : Nat} {σ σ' : cl_S} {ρ ρ' : rf_S}
abbrev cnr (c : Nat) : Prop := c = 54 ∨ c = 55 ∨ c = 56 ∨ c = 57 ∨ c = 58 ∨ c = 59 ∨ c = 61 ∨ c = 64 ∨ c = 66 ∨ c = 68 ∨ c = 69 ∨ c = 70
/-- the places that a beginning writes -/
def bgq (s c j : Nat) : Prop := (47 < c ∧ c < 52 ∧ j = s) ∨ (c = 52 ∧ 8192 * s ≤ j ∧ j < 8192 * s + 8192) ∨ (c = 53 ∧ 128 * s ≤ j ∧ j < 128 * s + 128) ∨ (cnr c ∧ 8 * s ≤ j ∧ j < 8 * s + 8) ∨ (c = 71 ∧ 256 * s ≤ j ∧ j < 256 * s + 256) ∨ ((c = 72 ∨ c = 73) ∧ 16 * s ≤ j ∧ j < 16 * s + 16)
/-- memory is emptied -/
theorem qb_52 (hs : s < 2) (sd : ρ.1 0 79 = nI s) : ∃ ρ', lp (fun z : (Int32 × rf_S) => lq_begin_42 z.1 z.2) (nI 0, ρ) = some (nI 8192, ρ') ∧ (∀ c j, ¬ (c = 52 ∧ 8192 * s ≤ j ∧ j < 8192 * s + 8192) → ρ'.1 c j = ρ.1 c j) ∧ ρ'.2 = ρ.2 ∧ ∀ i, i < 8192 → ρ'.1 52 (8192 * s + i) = 0 := by
  refine lp_cnt (f := lq_begin_42) (n := 8192) (fun x ρ' => (∀ c j, ¬ (c = 52 ∧ 8192 * s ≤ j ∧ j < 8192 * s + 8192) → ρ'.1 c j = ρ.1 c j) ∧ ρ'.2 = ρ.2 ∧ ∀ i, i < x → ρ'.1 52 (8192 * s + i) = 0) ?_ ?_ 8192 0 ρ (by omega) (by omega) ⟨fun _ _ _ => rfl, rfl, fun i hi => absurd hi (by omega)⟩
  · rintro x τ hx ⟨k1, k2, k3⟩
    have t8 : (8192:Int32) * nI s + nI x = nI (8192 * s + x) := by rw [show (8192:Int32) = nI 8192 from rfl, n_mul, n_add]
    refine ⟨rf_w τ 52 (8192 * s + x) 0, ?_, fun c j hj => ?_, k2, fun i hi => ?_⟩
    · unfold lq_begin_42
      rw [if_neg (show ¬ (8192:Int32) ≤ nI x from fun w => by have := (n_le (a := 8192) (b := x) (by omega) (by omega)).mp w; omega), k1 0 79 (by omega), sd, t8, n_ix (show 8192 * s + x < 16384 by omega) (by omega), n_cl (show 8192 * s + x < 2147483648 by omega), vln, vln, show nI x + (1:Int32) = nI (x + 1) from n_add x 1]
    · rw [g_q, if_neg (by omega)]; exact k1 c j hj
    · rw [g_q]
      by_cases c : i = x
      · rw [if_pos ⟨rfl, by omega⟩]
      · rw [if_neg (by omega)]; exact k3 i (by omega)
  · rintro τ -
    unfold lq_begin_42
    rw [if_pos (show (8192:Int32) ≤ nI 8192 from (n_le (a := 8192) (b := 8192) (by omega) (by omega)).mpr (by omega))]
/-- twelve counts -/
theorem q_12 {g : Nat} (c j : Nat) : (rf_w (rf_w (rf_w (rf_w (rf_w (rf_w (rf_w (rf_w (rf_w (rf_w (rf_w (rf_w ρ 54 g 0) 55 g 0) 56 g 0) 57 g 0) 58 g 0) 59 g 0) 61 g 0) 64 g 0) 66 g 0) 68 g 0) 69 g 0) 70 g 0).1 c j = if cnr c ∧ j = g then 0 else ρ.1 c j := by
  by_cases hj : j = g
  · subst hj
    by_cases hc : cnr c
    · rw [if_pos ⟨hc, rfl⟩]
      unfold cnr at hc
      rcases hc with rfl | rfl | rfl | rfl | rfl | rfl | rfl | rfl | rfl | rfl | rfl | rfl <;> simp only [g_q, Nat.reduceEqDiff, and_false, false_and, if_false, true_and, and_true, if_true, and_self]
    · rw [if_neg (fun w => hc w.1)]
      unfold cnr at hc
      rw [q_w (by omega), q_w (by omega), q_w (by omega), q_w (by omega), q_w (by omega), q_w (by omega), q_w (by omega), q_w (by omega), q_w (by omega), q_w (by omega), q_w (by omega), q_w (by omega)]
  · rw [if_neg (fun w => hj w.2)]
    simp only [g_q, hj, and_false, if_false]
theorem qb_73 (hs : s < 2) (sd : ρ.1 0 79 = nI s) : ∃ ρ', lp (fun z : (Int32 × rf_S) => lq_begin_73 z.1 z.2) (nI 0, ρ) = some (nI 8, ρ') ∧ (∀ c j, ¬ (c = 53 ∧ 128 * s ≤ j ∧ j < 128 * s + 128) → ¬ (cnr c ∧ 8 * s ≤ j ∧ j < 8 * s + 8) → ρ'.1 c j = ρ.1 c j) ∧ ρ'.2 = ρ.2 ∧ (∀ p r, p < 8 → r < 16 → ρ'.1 53 (16 * (8 * s + p) + r) = 0) ∧ (∀ c p, cnr c → p < 8 → ρ'.1 c (8 * s + p) = 0) := by
  refine lp_cnt (f := lq_begin_73) (n := 8) (fun x ρ' => (∀ c j, ¬ (c = 53 ∧ 128 * s ≤ j ∧ j < 128 * s + 128) → ¬ (cnr c ∧ 8 * s ≤ j ∧ j < 8 * s + 8) → ρ'.1 c j = ρ.1 c j) ∧ ρ'.2 = ρ.2 ∧ (∀ p r, p < x → r < 16 → ρ'.1 53 (16 * (8 * s + p) + r) = 0) ∧ (∀ c p, cnr c → p < x → ρ'.1 c (8 * s + p) = 0)) ?_ ?_ 8 0 ρ (by omega) (by omega) ⟨fun _ _ _ _ => rfl, rfl, fun i _ hi => absurd hi (by omega), fun _ i _ hi => absurd hi (by omega)⟩
  · rintro x τ hx ⟨k1, k2, k3, k4⟩
    have t8 : (8:Int32) * nI s + nI x = nI (8 * s + x) := by rw [show (8:Int32) = nI 8 from rfl, n_mul, n_add]
    have n079 : ¬ cnr 0 := by unfold cnr; omega
    have n53 : ¬ cnr 53 := by unfold cnr; omega
    obtain ⟨τ1, e1, g1, g2, g3⟩ := lp_cnt (f := lq_begin_91i73 (nI x) (nI (8 * s + x))) (n := 16) (fun y ρ' => (∀ c j, ¬ (c = 53 ∧ 16 * (8 * s + x) ≤ j ∧ j < 16 * (8 * s + x) + 16) → ρ'.1 c j = τ.1 c j) ∧ ρ'.2 = τ.2 ∧ ∀ r, r < y → ρ'.1 53 (16 * (8 * s + x) + r) = 0) (by
      rintro y υ hy ⟨h1, h2, h3⟩
      have ty : (16:Int32) * nI (8 * s + x) + nI y = nI (16 * (8 * s + x) + y) := by rw [show (16:Int32) = nI 16 from rfl, n_mul, n_add]
      refine ⟨rf_w υ 53 (16 * (8 * s + x) + y) 0, ?_, fun c j hj => ?_, h2, fun r hr => ?_⟩
      · unfold lq_begin_91i73
        rw [if_neg (show ¬ (16:Int32) ≤ nI y from fun w => by have := (n_le (a := 16) (b := y) (by omega) (by omega)).mp w; omega), ty, n_ix (show 16 * (8 * s + x) + y < 256 by omega) (by omega), n_cl (show 16 * (8 * s + x) + y < 2147483648 by omega), vln, vln, show nI y + (1:Int32) = nI (y + 1) from n_add y 1]
      · rw [g_q, if_neg (by omega)]; exact h1 c j hj
      · rw [g_q]
        by_cases c : r = y
        · rw [if_pos ⟨rfl, by omega⟩]
        · rw [if_neg (by omega)]; exact h3 r (by omega)) (by
      rintro υ -
      unfold lq_begin_91i73
      rw [if_pos (show (16:Int32) ≤ nI 16 from (n_le (a := 16) (b := 16) (by omega) (by omega)).mpr (by omega))]) 16 0 τ (by omega) (by omega) ⟨fun _ _ _ => rfl, rfl, fun i hi => absurd hi (by omega)⟩
    refine ⟨rf_w (rf_w (rf_w (rf_w (rf_w (rf_w (rf_w (rf_w (rf_w (rf_w (rf_w (rf_w τ1 54 (8 * s + x) 0) 55 (8 * s + x) 0) 56 (8 * s + x) 0) 57 (8 * s + x) 0) 58 (8 * s + x) 0) 59 (8 * s + x) 0) 61 (8 * s + x) 0) 64 (8 * s + x) 0) 66 (8 * s + x) 0) 68 (8 * s + x) 0) 69 (8 * s + x) 0) 70 (8 * s + x) 0, ?_, fun c j h1 h2 => ?_, ?_, fun p r hp hr => ?_, fun c p hc hp => ?_⟩
    rotate_left
    · rw [q_12, if_neg (fun w => h2 ⟨w.1, by omega, by omega⟩), g1 c j (by omega)]; exact k1 c j h1 h2
    · show τ1.2 = _
      rw [g2]; exact k2
    · rw [q_12, if_neg (fun w => n53 w.1)]
      by_cases c : p = x
      · subst c; exact g3 r hr
      · rw [g1 _ _ (by omega)]; exact k3 p r (by omega) hr
    · rw [q_12]
      by_cases e : p = x
      · rw [if_pos ⟨hc, by omega⟩]
      · rw [if_neg (by omega), g1 c _ (fun w => n53 (by rw [← w.1]; exact hc))]; exact k4 c p hc (by omega)
    · unfold lq_begin_73
      rw [if_neg (show ¬ (8:Int32) ≤ nI x from fun w => by have := (n_le (a := 8) (b := x) (by omega) (by omega)).mp w; omega), k1 0 79 (by omega) (fun w => n079 w.1), sd, t8, vln]
      unfold bq_begin_91i73
      rw [show lp (fun z : (Int32 × rf_S) => lq_begin_91i73 (nI x) (nI (8 * s + x)) z.1 z.2) ((0:Int32), τ) = some (nI 16, τ1) from e1, Option.bind_some]
      unfold eq_begin_91i73
      have ig : ∀ {α : Type} (z : Option α), ix (nI (8 * s + x)) 16 z = z := fun z => n_ix (by omega) (by omega)
      simp only [ig, n_cl (show 8 * s + x < 2147483648 by omega), vln, nar_0, show nI x + (1:Int32) = nI (x + 1) from n_add x 1]
  · rintro τ -
    unfold lq_begin_73
    rw [if_pos (show (8:Int32) ≤ nI 8 from (n_le (a := 8) (b := 8) (by omega) (by omega)).mpr (by omega))]
/-- the images are loaded -/
theorem qb_207 {np : Nat} {bs sz len st tq : Nat → Nat} (hs : s < 2) (sd : ρ.1 0 79 = nI s) (hn : np ≤ 8) (h55 : ρ.1 0 55 = nI np) (hb : ∀ p, p < np → len p ≤ sz p ∧ bs p + sz p ≤ 8192 ∧ ρ.1 28 p = nI (bs p)) (dj : ∀ p q, p < np → q < np → p ≠ q → bs p + sz p ≤ bs q ∨ bs q + sz q ≤ bs p) (ht : ∀ p, p < np → tq p < 112000 ∧ ρ.1 38 p = nI (tq p) ∧ ρ.1 3 (tq p) = nI (len p) ∧ ρ.1 2 (tq p) = nI (st p) ∧ st p + len p ≤ 690000) (z : ∀ i, i < 8192 → ρ.1 52 (8192 * s + i) = 0) : ∃ ρ', lp (fun z : (Int32 × rf_S) => lq_begin_207 z.1 z.2) (nI 0, ρ) = some (nI np, ρ') ∧ (∀ c j, ¬ (c = 52 ∧ 8192 * s ≤ j ∧ j < 8192 * s + 8192) → ρ'.1 c j = ρ.1 c j) ∧ ρ'.2 = ρ.2 ∧ ∀ p i, p < np → i < sz p → ρ'.1 52 (8192 * s + bs p + i) = if i < len p then ρ.1 12 (st p + i) else 0 := by
  have main := lp_cnt (f := lq_begin_207) (n := np) (fun x ρ' => (∀ c j, ¬ (c = 52 ∧ 8192 * s ≤ j ∧ j < 8192 * s + 8192) → ρ'.1 c j = ρ.1 c j) ∧ ρ'.2 = ρ.2 ∧ (∀ p i, p < x → i < sz p → ρ'.1 52 (8192 * s + bs p + i) = if i < len p then ρ.1 12 (st p + i) else 0) ∧ (∀ p i, x ≤ p → p < np → i < sz p → ρ'.1 52 (8192 * s + bs p + i) = 0)) ?_ ?_ np 0 ρ (by omega) (by omega) ⟨fun _ _ _ => rfl, rfl, fun i _ hi => absurd hi (by omega), fun p i _ hp hi => by have := hb p hp; rw [Nat.add_assoc]; exact z _ (by omega)⟩
  · obtain ⟨ρ', e, h1, h2, h3, -⟩ := main
    exact ⟨ρ', e, h1, h2, h3⟩
  · rintro x τ hx ⟨k1, k2, k3, k4⟩
    obtain ⟨b1, b2, b3⟩ := hb x hx
    obtain ⟨t1, t2, t3, t4, t5⟩ := ht x hx
    have i8 : ∀ {α : Type} (z : Option α), ix (nI x) 8 z = z := fun z => n_ix (by omega) (by omega)
    have cx : (nI x).toNatClampNeg = x := n_cl (by omega)
    have it : ∀ {α : Type} (z : Option α), ix (nI (tq x)) 112000 z = z := fun z => n_ix t1 (by omega)
    have ct : (nI (tq x)).toNatClampNeg = tq x := n_cl (by omega)
    obtain ⟨τ1, e1, g1, g2, g3⟩ := lp_cnt (f := lq_begin_217i207 (nI x)) (n := len x) (fun y ρ' => (∀ c j, ¬ (c = 52 ∧ 8192 * s + bs x ≤ j ∧ j < 8192 * s + bs x + len x) → ρ'.1 c j = τ.1 c j) ∧ ρ'.2 = τ.2 ∧ (∀ i, i < sz x → ρ'.1 52 (8192 * s + bs x + i) = if i < y then ρ.1 12 (st x + i) else 0)) (by
      rintro y υ hy ⟨h1, h2, h3⟩
      have l38 : υ.1 38 x = nI (tq x) := by rw [h1 38 x (by omega), k1 38 x (by omega)]; exact t2
      have l3 : υ.1 3 (tq x) = nI (len x) := by rw [h1 3 _ (by omega), k1 3 _ (by omega)]; exact t3
      have l2 : υ.1 2 (tq x) = nI (st x) := by rw [h1 2 _ (by omega), k1 2 _ (by omega)]; exact t4
      have l28 : υ.1 28 x = nI (bs x) := by rw [h1 28 _ (by omega), k1 28 _ (by omega)]; exact b3
      have l79 : υ.1 0 79 = nI s := by rw [h1 0 _ (by omega), k1 0 _ (by omega)]; exact sd
      have ty : (8192:Int32) * nI s + nI (bs x) + nI y = nI (8192 * s + bs x + y) := by rw [show (8192:Int32) = nI 8192 from rfl, n_mul, n_add, n_add]
      refine ⟨rf_w υ 52 (8192 * s + bs x + y) (ρ.1 12 (st x + y)), ?_, fun c j hj => ?_, h2, fun i hi => ?_⟩
      · unfold lq_begin_217i207
        rw [i8, i8, cx, l38, it, it, ct, l3, if_neg (fun w => by have := (n_le (by omega) (by omega)).mp w; omega), i8, l2, n_add, n_ix (show st x + y < 690000 by omega) (by omega), n_cl (show st x + y < 2147483648 by omega), l79, l28, ty, n_ix (show 8192 * s + bs x + y < 16384 by omega) (by omega), n_cl (show 8192 * s + bs x + y < 2147483648 by omega), h1 12 _ (by omega), k1 12 _ (by omega), vln, vln, show nI y + (1:Int32) = nI (y + 1) from n_add y 1]
      · rw [g_q, if_neg (by omega)]; exact h1 c j hj
      · rw [g_q]
        by_cases c : i = y
        · rw [if_pos ⟨rfl, by omega⟩, if_pos (by omega), c]
        · rw [if_neg (by omega), h3 i hi]
          by_cases w : i < y
          · rw [if_pos w, if_pos (by omega)]
          · rw [if_neg w, if_neg (by omega)]) (by
      rintro υ ⟨h1, h2, h3⟩
      have l38 : υ.1 38 x = nI (tq x) := by rw [h1 38 x (by omega), k1 38 x (by omega)]; exact t2
      have l3 : υ.1 3 (tq x) = nI (len x) := by rw [h1 3 _ (by omega), k1 3 _ (by omega)]; exact t3
      unfold lq_begin_217i207
      rw [i8, cx, l38, it, ct, l3, if_pos ((n_le (by omega) (by omega)).mpr (Nat.le_refl _))]) (len x) 0 τ (by omega) (by omega) ⟨fun _ _ _ => rfl, rfl, fun i hi => by rw [if_neg (by omega)]; exact k4 x i (by omega) hx hi⟩
    refine ⟨τ1, ?_, fun c j h => by rw [g1 c j (by omega)]; exact k1 c j h, by rw [g2]; exact k2, fun p i hp hi => ?_, fun p i hp hp' hi => ?_⟩
    · unfold lq_begin_207
      rw [k1 0 55 (by omega), h55, if_neg (fun w => by have := (n_le (by omega) (by omega)).mp w; omega)]
      unfold bq_begin_217i207
      rw [show lp (fun z : (Int32 × rf_S) => lq_begin_217i207 (nI x) z.1 z.2) ((0:Int32), τ) = some (nI (len x), τ1) from e1, Option.bind_some]
      unfold eq_begin_217i207
      rw [vln, show nI x + (1:Int32) = nI (x + 1) from n_add x 1]
    · by_cases c : p = x
      · subst c; exact g3 i hi
      · have := dj p x (by omega) hx c
        rw [g1 _ _ (by omega)]; exact k3 p i (by omega) hi
    · have := dj p x hp' hx (by omega)
      rw [g1 _ _ (by omega)]; exact k4 p i (by omega) hp' hi
  · rintro τ ⟨k1, -⟩
    unfold lq_begin_207
    rw [k1 0 55 (by omega), h55, if_pos ((n_le (by omega) (by omega)).mpr (Nat.le_refl _))]
/-- the channels are emptied -/
theorem qb_292 (hs : s < 2) (sd : ρ.1 0 79 = nI s) : ∃ ρ', lp (fun z : (Int32 × rf_S) => lq_begin_292 z.1 z.2) (nI (16 * s), ρ) = some (nI (16 * s + 16), ρ') ∧ (∀ c j, ¬ (c = 71 ∧ 256 * s ≤ j ∧ j < 256 * s + 256) → ¬ ((c = 72 ∨ c = 73) ∧ 16 * s ≤ j ∧ j < 16 * s + 16) → ρ'.1 c j = ρ.1 c j) ∧ ρ'.2 = ρ.2 ∧ (∀ c i, c < 16 → i < 16 → ρ'.1 71 (16 * (16 * s + c) + i) = 0) ∧ (∀ c, c < 16 → ρ'.1 72 (16 * s + c) = 0 ∧ ρ'.1 73 (16 * s + c) = -1) := by
  refine lp_cnt (f := lq_begin_292) (n := 16 * s + 16) (fun x ρ' => (∀ c j, ¬ (c = 71 ∧ 256 * s ≤ j ∧ j < 256 * s + 256) → ¬ ((c = 72 ∨ c = 73) ∧ 16 * s ≤ j ∧ j < 16 * s + 16) → ρ'.1 c j = ρ.1 c j) ∧ ρ'.2 = ρ.2 ∧ (∀ c i, 16 * s + c < x → i < 16 → ρ'.1 71 (16 * (16 * s + c) + i) = 0) ∧ (∀ c, 16 * s + c < x → ρ'.1 72 (16 * s + c) = 0 ∧ ρ'.1 73 (16 * s + c) = -1) ∧ 16 * s ≤ x) ?_ ?_ 16 (16 * s) ρ (by omega) (by omega) ⟨fun _ _ _ _ => rfl, rfl, fun i _ hi => absurd hi (by omega), fun i hi => absurd hi (by omega), Nat.le_refl _⟩ |> fun ⟨ρ', e, h1, h2, h3, h4, _⟩ => ⟨ρ', e, h1, h2, fun c i hc hi => h3 c i (by omega) hi, fun c hc => h4 c (by omega)⟩
  · rintro x τ hx ⟨k1, k2, k3, k4, k5⟩
    have t16 : (16:Int32) * nI s + (16:Int32) = nI (16 * s + 16) := by rw [show (16:Int32) = nI 16 from rfl, n_mul, n_add]
    have ix' : ∀ {α : Type} (z : Option α), ix (nI x) 32 z = z := fun z => n_ix (by omega) (by omega)
    have cx : (nI x).toNatClampNeg = x := n_cl (by omega)
    obtain ⟨τ1, e1, g1, g2, g3⟩ := lp_cnt (f := lq_begin_322i292 (nI x)) (n := 16) (fun y ρ' => (∀ c j, ¬ (c = 71 ∧ 16 * x ≤ j ∧ j < 16 * x + 16) → ρ'.1 c j = (rf_w (rf_w τ 72 x 0) 73 x (-1)).1 c j) ∧ ρ'.2 = τ.2 ∧ (∀ i, i < y → ρ'.1 71 (16 * x + i) = 0)) (by
      rintro y υ hy ⟨h1, h2, h3⟩
      have ty : (16:Int32) * nI x + nI y = nI (16 * x + y) := by rw [show (16:Int32) = nI 16 from rfl, n_mul, n_add]
      refine ⟨rf_w υ 71 (16 * x + y) 0, ?_, fun c j hj => ?_, h2, fun i hi => ?_⟩
      · unfold lq_begin_322i292
        rw [if_neg (show ¬ (16:Int32) ≤ nI y from fun w => by have := (n_le (a := 16) (b := y) (by omega) (by omega)).mp w; omega), ty, n_ix (show 16 * x + y < 512 by omega) (by omega), n_cl (show 16 * x + y < 2147483648 by omega), vln, vln, show nI y + (1:Int32) = nI (y + 1) from n_add y 1]
      · rw [g_q, if_neg (by omega)]; exact h1 c j hj
      · rw [g_q]
        by_cases c : i = y
        · rw [if_pos ⟨rfl, by omega⟩]
        · rw [if_neg (by omega)]; exact h3 i (by omega)) (by
      rintro υ -
      unfold lq_begin_322i292
      rw [if_pos (show (16:Int32) ≤ nI 16 from (n_le (a := 16) (b := 16) (by omega) (by omega)).mpr (by omega))]) 16 0 (rf_w (rf_w τ 72 x 0) 73 x (-1)) (by omega) (by omega) ⟨fun _ _ _ => rfl, rfl, fun i hi => absurd hi (by omega)⟩
    refine ⟨τ1, ?_, fun c j h h' => ?_, by rw [g2]; exact k2, fun c i hc hi => ?_, fun c hc => ?_, by omega⟩
    · unfold lq_begin_292
      rw [k1 0 79 (by omega) (by omega), sd, t16, if_neg (fun w => by have := (n_le (by omega) (by omega)).mp w; omega), ix', nar_0, cx, vln, ix', vln]
      unfold bq_begin_322i292
      rw [show lp (fun z : (Int32 × rf_S) => lq_begin_322i292 (nI x) z.1 z.2) ((0:Int32), rf_w (rf_w τ 72 x 0) 73 x (-1)) = some (nI 16, τ1) from e1, Option.bind_some]
      unfold eq_begin_322i292
      rw [vln, show nI x + (1:Int32) = nI (x + 1) from n_add x 1]
    · rw [g1 c j (by omega), g_q, if_neg (by omega), g_q, if_neg (by omega)]; exact k1 c j h h'
    · by_cases w : 16 * s + c = x
      · rw [w]; exact g3 i hi
      · rw [g1 _ _ (by omega), q_w (by decide), q_w (by decide)]; exact k3 c i (by omega) hi
    · rw [g1 72 _ (by omega), g1 73 _ (by omega)]
      by_cases w : 16 * s + c = x
      · rw [w]; exact ⟨by rw [q_w (by decide), q_ws], q_ws⟩
      · rw [q_w (by decide), q_wk w, q_wk w, q_w (by decide)]; exact k4 c (by omega)
  · rintro τ ⟨k1, -⟩
    have t16 : (16:Int32) * nI s + (16:Int32) = nI (16 * s + 16) := by rw [show (16:Int32) = nI 16 from rfl, n_mul, n_add]
    unfold lq_begin_292
    rw [k1 0 79 (by omega) (by omega), sd, t16, if_pos ((n_le (by omega) (by omega)).mpr (Nat.le_refl _))]
end Z2_GH
