section Z2_D4
variable {K : Bd} {W W' : Wd} {b : Bool} {k s p q : Nat} {σ σ' : cl_S} {ρ ρ' : rf_S} {N : Nat}
/-- the reference's preparing, the first i partitions -/
def Pps (W : Wd) (fl : Nat → Bool) (i : Nat) (ρ ρ' : rf_S) : Prop := (∀ c j, ¬ (c = 55 ∧ 8 ≤ j ∧ j < 16) → ¬ ((c = 74 ∨ c = 75) ∧ 64 ≤ j ∧ j < 128) → ρ'.1 c j = ρ.1 c j) ∧ (ρ'.2 = ρ.2) ∧ (∀ q, q < 8 → ρ'.1 55 (8 + q) = if q < i ∧ fl q = false then 1 else ρ.1 55 (8 + q)) ∧ (∀ j, j < 64 → Emp W fl i j → ρ'.1 74 (64 + j) = 0 ∧ ρ'.1 75 (64 + j) = -1) ∧ (∀ j, j < 64 → ¬ Emp W fl i j → ρ'.1 74 (64 + j) = ρ.1 74 (64 + j) ∧ ρ'.1 75 (64 + j) = ρ.1 75 (64 + j))
theorem Pps.o {W : Wd} {fl : Nat → Bool} {i : Nat} {ρ ρ' : rf_S} (hS : Pps W fl i ρ ρ') : ∀ c j, ¬ (c = 55 ∧ 8 ≤ j ∧ j < 16) → ¬ ((c = 74 ∨ c = 75) ∧ 64 ≤ j ∧ j < 128) → ρ'.1 c j = ρ.1 c j := hS.1
theorem Pps.l {W : Wd} {fl : Nat → Bool} {i : Nat} {ρ ρ' : rf_S} (hS : Pps W fl i ρ ρ') : ρ'.2 = ρ.2 := hS.2.1
theorem Pps.h {W : Wd} {fl : Nat → Bool} {i : Nat} {ρ ρ' : rf_S} (hS : Pps W fl i ρ ρ') : ∀ q, q < 8 → ρ'.1 55 (8 + q) = if q < i ∧ fl q = false then 1 else ρ.1 55 (8 + q) := hS.2.2.1
theorem Pps.d1 {W : Wd} {fl : Nat → Bool} {i : Nat} {ρ ρ' : rf_S} (hS : Pps W fl i ρ ρ') : ∀ j, j < 64 → Emp W fl i j → ρ'.1 74 (64 + j) = 0 ∧ ρ'.1 75 (64 + j) = -1 := hS.2.2.2.1
theorem Pps.d0 {W : Wd} {fl : Nat → Bool} {i : Nat} {ρ ρ' : rf_S} (hS : Pps W fl i ρ ρ') : ∀ j, j < 64 → ¬ Emp W fl i j → ρ'.1 74 (64 + j) = ρ.1 74 (64 + j) ∧ ρ'.1 75 (64 + j) = ρ.1 75 (64 + j) := hS.2.2.2.2
theorem Pps.refl {fl : Nat → Bool} : Pps W fl 0 ρ ρ := ⟨fun _ _ _ _ => rfl, rfl, fun q hq => by rw [if_neg (by omega)], fun j _ ⟨q, hq, _⟩ => absurd hq (by omega), fun j _ _ => ⟨rfl, rfl⟩⟩
theorem q_area {x1 : Int32} {ad ar : Nat} (hq : q < 8) (h31 : ρ.1 31 q = nI ad) (h30 : ρ.1 30 q = nI ar) (hb : ad + ar ≤ 32) : ∃ ρ', bq_prepare_94i50 x1 (nI q) (nI (2 * ad)) ρ = some (.inl (nI (q + 1), ρ')) ∧ (∀ c j, ¬ ((c = 74 ∨ c = 75) ∧ 64 ≤ j ∧ j < 128) → ρ'.1 c j = ρ.1 c j) ∧ ρ'.2 = ρ.2 ∧ ∀ j, j < 64 → (ρ'.1 74 (64 + j) = if 2 * ad ≤ j ∧ j < 2 * (ad + ar) then 0 else ρ.1 74 (64 + j)) ∧ (ρ'.1 75 (64 + j) = if 2 * ad ≤ j ∧ j < 2 * (ad + ar) then -1 else ρ.1 75 (64 + j)) := by
  have iq : ∀ {α : Type} (w : Option α), ix (nI q) 8 w = w := fun w => n_ix hq (by omega)
  have nq : (nI q).toNatClampNeg = q := n_cl (by omega)
  obtain ⟨ρ2, f2, ⟨a0, a1, a2, a3⟩⟩ := lp_cnt (S := rf_S) (f := fun x3 ρ => lq_prepare_94i50 x1 (nI q) x3 ρ) (n := 2 * (ad + ar)) (fun i τ => 2 * ad ≤ i ∧ (∀ c j, ¬ ((c = 74 ∨ c = 75) ∧ 64 ≤ j ∧ j < 128) → τ.1 c j = ρ.1 c j) ∧ τ.2 = ρ.2 ∧ ∀ j, j < 64 → (τ.1 74 (64 + j) = if 2 * ad ≤ j ∧ j < i then 0 else ρ.1 74 (64 + j)) ∧ (τ.1 75 (64 + j) = if 2 * ad ≤ j ∧ j < i then -1 else ρ.1 75 (64 + j))) (fun i τ hi ⟨a0, a1, a2, a3⟩ => by
    refine ⟨rf_w (rf_w τ 74 (64 + i) (0:Int32)) 75 (64 + i) (-1:Int32), ?_, by omega, fun c j h => ?_, a2, fun j hj => ?_⟩
    · show lq_prepare_94i50 x1 (nI q) (nI i) τ = _
      unfold lq_prepare_94i50
      rw [iq, iq, nq, a1 31 q (by omega), a1 30 q (by omega), h31, h30, n_add, show (2:Int32) * nI (ad + ar) = nI (2 * (ad + ar)) from n_mul 2 _, if_neg (fun w => by have := (n_le (by omega) (by omega)).mp w; omega), show (64:Int32) + nI i = nI (64 + i) from n_add 64 i, n_ix (show 64 + i < 128 by omega) (by omega), vl_eq, n_ix (show 64 + i < 128 by omega) (by omega), vl_eq, vl_eq, n_cl (show 64 + i < 2147483648 by omega), show nI i + (1:Int32) = nI (i + 1) from n_add i 1]
    · rw [g_q, if_neg (fun w => h ⟨Or.inr w.1, by omega⟩), g_q, if_neg (fun w => h ⟨Or.inl w.1, by omega⟩)]; exact a1 c j h
    · obtain ⟨b1, b2⟩ := a3 j hj
      rw [q_w (show 74 ≠ 75 by decide)]
      by_cases c : j = i
      · rw [c, q_ws, q_ws, if_pos (by omega), if_pos (by omega)]; exact ⟨rfl, rfl⟩
      · rw [q_wk (by omega), q_wk (by omega), q_w (show 75 ≠ 74 by decide), b1, b2]
        by_cases c2 : 2 * ad ≤ j ∧ j < i
        · rw [if_pos c2, if_pos c2, if_pos (by omega), if_pos (by omega)]; exact ⟨rfl, rfl⟩
        · rw [if_neg c2, if_neg c2, if_neg (by omega), if_neg (by omega)]; exact ⟨rfl, rfl⟩) (fun τ ⟨a0, a1, a2, a3⟩ => by
    show lq_prepare_94i50 x1 (nI q) (nI (2 * (ad + ar))) τ = _
    unfold lq_prepare_94i50
    rw [iq, iq, nq, a1 31 q (by omega), a1 30 q (by omega), h31, h30, n_add, show (2:Int32) * nI (ad + ar) = nI (2 * (ad + ar)) from n_mul 2 _, if_pos (Int32.le_refl _)]) (2 * ar) (2 * ad) ρ (by omega) (by omega) ⟨Nat.le_refl _, fun _ _ _ => rfl, rfl, fun j hj => by rw [if_neg (by omega), if_neg (by omega)]; exact ⟨rfl, rfl⟩⟩
  refine ⟨ρ2, ?_, a1, a2, a3⟩
  unfold bq_prepare_94i50
  rw [show lp (fun z : (Int32 × rf_S) => lq_prepare_94i50 x1 (nI q) z.1 z.2) (nI (2 * ad), ρ) = _ from f2, Option.bind_some]
  unfold eq_prepare_94i50 bq_prepare_139i50
  rw [vl_eq, show nI q + (1:Int32) = nI (q + 1) from n_add q 1]
theorem q_ppone {fl : Nat → Bool} {i : Nat} {τ : rf_S} (np8 : W.np ≤ 8) (hp : p < 8) (h55 : ρ.1 0 55 = nI W.np) (hfl : ∀ q, q < 8 → ρ.1 37 (8 * q + p) = if fl q then 1 else 0) (ha : ∀ q, q < W.np → ρ.1 31 q = nI (W.ad q) ∧ ρ.1 30 q = nI (W.ar q) ∧ W.ad q + W.ar q ≤ 32) (hi : i < W.np) (H : Pps W fl i ρ τ) : ∃ τ', lq_prepare_50 (nI p) (nI i) τ = some (.inl (nI (i + 1), τ')) ∧ Pps W fl (i + 1) ρ τ' := by
  have i8 : i < 8 := by omega
  unfold lq_prepare_50
  rw [H.o 0 55 (by omega) (by omega), h55, if_neg (fun w => by have := (n_le (by omega) (by omega)).mp w; omega), show (8:Int32) * nI i + nI p = nI (8 * i + p) by rw [show (8:Int32) = nI 8 from rfl, n_mul, n_add], n_ix (show 8 * i + p < 64 by omega) (by omega), n_cl (show 8 * i + p < 2147483648 by omega), H.o 37 _ (by omega) (by omega), hfl i i8]
  cases hf : fl i with
  | true =>
    rw [if_neg (show ¬ (if (true : Bool) = true then (1:Int32) else 0) = 0 by decide)]
    unfold bq_prepare_139i50
    rw [vl_eq, show nI i + (1:Int32) = nI (i + 1) from n_add i 1]
    have em : ∀ j, Emp W fl (i + 1) j ↔ Emp W fl i j := by
      intro j
      refine ⟨?_, ?_⟩
      · rintro ⟨q, a, b, c⟩
        refine ⟨q, ?_, b, c⟩
        by_cases e : q = i
        · rw [e, hf] at b; cases b
        · omega
      · rintro ⟨q, a, b, c⟩; exact ⟨q, by omega, b, c⟩
    refine ⟨τ, rfl, H.o, H.l, fun q hq => ?_, fun j hj w => H.d1 j hj ((em j).mp w), fun j hj w => H.d0 j hj (fun v => w ((em j).mpr v))⟩
    rw [H.h q hq]
    by_cases c : q < i ∧ fl q = false
    · rw [if_pos c, if_pos ⟨by omega, c.2⟩]
    · rw [if_neg c, if_neg (fun w => by
        by_cases e : q = i
        · rw [e, hf] at w; cases w.2
        · exact c ⟨by omega, w.2⟩)]
  | false =>
    obtain ⟨a1, a2, a3⟩ := ha i hi
    rw [if_pos (show (if (false : Bool) = true then (1:Int32) else 0) = 0 from rfl), show (8:Int32) + nI i = nI (8 + i) from n_add 8 i, n_ix (show 8 + i < 16 by omega) (by omega), vl_eq, n_ix i8 (by omega), vl_eq, n_cl (show 8 + i < 2147483648 by omega), n_cl (show i < 2147483648 by omega), q_w (show 31 ≠ 55 by decide), H.o 31 i (by omega) (by omega), a1, show (2:Int32) * nI (W.ad i) = nI (2 * W.ad i) from n_mul 2 _]
    obtain ⟨τ', e', o', l', d'⟩ := q_area (ρ := rf_w τ 55 (8 + i) (vp_nar .boolean (1:Int32))) (x1 := nI p) (q := i) (ad := W.ad i) (ar := W.ar i) i8 (by rw [q_w (by decide), H.o 31 i (by omega) (by omega)]; exact a1) (by rw [q_w (by decide), H.o 30 i (by omega) (by omega)]; exact a2) a3
    have em : ∀ j, Emp W fl (i + 1) j ↔ (Emp W fl i j ∨ (2 * W.ad i ≤ j ∧ j < 2 * (W.ad i + W.ar i))) := by
      intro j
      refine ⟨?_, ?_⟩
      · rintro ⟨q, a, b, c⟩
        by_cases e : q = i
        · right; rw [← e]; exact c
        · left; exact ⟨q, by omega, b, c⟩
      · rintro (⟨q, a, b, c⟩ | c)
        · exact ⟨q, by omega, b, c⟩
        · exact ⟨i, by omega, hf, c⟩
    refine ⟨τ', e', fun c j h1 h2 => ?_, by rw [l']; exact H.l, fun q hq => ?_, fun j hj w => ?_, fun j hj w => ?_⟩
    · rw [o' c j h2, g_q, if_neg (fun w => h1 (by omega))]; exact H.o c j h1 h2
    · rw [o' 55 _ (by omega), g_q]
      by_cases e : q = i
      · rw [if_pos ⟨rfl, by omega⟩, if_pos ⟨by omega, by rw [e]; exact hf⟩]; rfl
      · rw [if_neg (by omega), H.h q hq]
        by_cases c : q < i ∧ fl q = false
        · rw [if_pos c, if_pos ⟨by omega, c.2⟩]
        · rw [if_neg c, if_neg (fun w => c ⟨by omega, w.2⟩)]
    · obtain ⟨b1, b2⟩ := d' j hj
      rw [b1, b2, q_w (show 74 ≠ 55 by decide), q_w (show 75 ≠ 55 by decide)]
      by_cases c : 2 * W.ad i ≤ j ∧ j < 2 * (W.ad i + W.ar i)
      · rw [if_pos c, if_pos c]; exact ⟨rfl, rfl⟩
      · rw [if_neg c, if_neg c]; exact H.d1 j hj (((em j).mp w).resolve_right c)
    · obtain ⟨b1, b2⟩ := d' j hj
      have c : ¬ (2 * W.ad i ≤ j ∧ j < 2 * (W.ad i + W.ar i)) := fun v => w ((em j).mpr (Or.inr v))
      rw [b1, b2, q_w (show 74 ≠ 55 by decide), q_w (show 75 ≠ 55 by decide), if_neg c, if_neg c]
      exact H.d0 j hj (fun v => w ((em j).mpr (Or.inl v)))
/-- the reference prepares: after begin -/
theorem q_prep {fl : Nat → Bool} (np8 : W.np ≤ 8) (hp : p < 8) (h55 : ρ.1 0 55 = nI W.np) (hfl : ∀ q, q < 8 → ρ.1 37 (8 * q + p) = if fl q then 1 else 0) (ha : ∀ q, q < W.np → ρ.1 31 q = nI (W.ad q) ∧ ρ.1 30 q = nI (W.ar q) ∧ W.ad q + W.ar q ≤ 32) : ∃ ρ1 ρ', bq_prepare_6 (nI p) (0:Int32) ρ = some ρ' ∧ Pps W fl W.np ρ1 ρ' ∧ (∀ c j, ¬ ((c = 74 ∨ c = 75) ∧ 64 ≤ j ∧ j < 128) → ρ1.1 c j = ρ.1 c j) ∧ ρ1.2 = ρ.2 ∧ ∀ j, j < 64 → ρ1.1 74 (64 + j) = ρ.1 40 j ∧ ρ1.1 75 (64 + j) = ρ.1 41 j := by
  obtain ⟨ρ1, f1, ⟨a1, a2, a3⟩⟩ := lp_cnt (S := rf_S) (f := fun x2 ρ => lq_prepare_6 (nI p) x2 ρ) (n := 64) (fun i τ => (∀ c j, ¬ ((c = 74 ∨ c = 75) ∧ 64 ≤ j ∧ j < 128) → τ.1 c j = ρ.1 c j) ∧ τ.2 = ρ.2 ∧ ∀ j, j < i → τ.1 74 (64 + j) = ρ.1 40 j ∧ τ.1 75 (64 + j) = ρ.1 41 j) (fun i τ hi ⟨a1, a2, a3⟩ => by
    refine ⟨rf_w (rf_w τ 74 (64 + i) (ρ.1 40 i)) 75 (64 + i) (ρ.1 41 i), ?_, fun c j h => ?_, a2, fun j hj => ?_⟩
    · show lq_prepare_6 (nI p) (nI i) τ = _
      unfold lq_prepare_6
      rw [if_neg (show ¬ (64:Int32) ≤ nI i from fun w => by have := (n_le (a := 64) (b := i) (by omega) (by omega)).mp w; omega), n_ix hi (by omega), show (64:Int32) + nI i = nI (64 + i) from n_add 64 i, n_ix (show 64 + i < 128 by omega) (by omega), vl_eq, n_ix hi (by omega), n_ix (show 64 + i < 128 by omega) (by omega), vl_eq, vl_eq, n_cl (show 64 + i < 2147483648 by omega), n_cl (show i < 2147483648 by omega), q_w (show 41 ≠ 74 by decide), a1 40 i (by omega), a1 41 i (by omega), show nI i + (1:Int32) = nI (i + 1) from n_add i 1]
    · rw [g_q, if_neg (fun w => h ⟨Or.inr w.1, by omega⟩), g_q, if_neg (fun w => h ⟨Or.inl w.1, by omega⟩)]; exact a1 c j h
    · rw [q_w (show 74 ≠ 75 by decide)]
      by_cases c : j = i
      · rw [c, q_ws, q_ws]; exact ⟨rfl, rfl⟩
      · rw [q_wk (by omega), q_wk (by omega), q_w (show 75 ≠ 74 by decide)]; exact a3 j (by omega)) (fun τ _ => by
    show lq_prepare_6 (nI p) (nI 64) τ = _
    unfold lq_prepare_6
    rw [if_pos (show (64:Int32) ≤ nI 64 from Int32.le_refl _)]) 64 0 ρ (by omega) (by omega) ⟨fun _ _ _ => rfl, rfl, fun j hj => absurd hj (by omega)⟩
  obtain ⟨ρ2, f2, H⟩ := lp_cnt (S := rf_S) (f := fun x2 ρ => lq_prepare_50 (nI p) x2 ρ) (n := W.np) (fun i τ => Pps W fl i ρ1 τ) (fun i τ hi H => q_ppone np8 hp (by rw [a1 0 55 (by omega)]; exact h55) (fun q hq => by rw [a1 37 _ (by omega)]; exact hfl q hq) (fun q hq => by rw [a1 31 _ (by omega), a1 30 _ (by omega)]; exact ha q hq) hi H) (fun τ H => by
    show lq_prepare_50 (nI p) (nI W.np) τ = _
    unfold lq_prepare_50
    rw [H.o 0 55 (by omega) (by omega), a1 0 55 (by omega), h55, if_pos (Int32.le_refl _)]) W.np 0 ρ1 (by omega) (by omega) Pps.refl
  refine ⟨ρ1, ρ2, ?_, H, a1, a2, a3⟩
  unfold bq_prepare_6
  rw [show lp (fun z : (Int32 × rf_S) => lq_prepare_6 (nI p) z.1 z.2) ((0:Int32), ρ) = _ from f1, Option.bind_some]
  unfold eq_prepare_6 bq_prepare_50
  rw [show lp (fun z : (Int32 × rf_S) => lq_prepare_50 (nI p) z.1 z.2) ((0:Int32), ρ1) = _ from f2, Option.bind_some]
  rfl
end Z2_D4
