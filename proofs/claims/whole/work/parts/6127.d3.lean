section Z2_D3
variable {K : Bd} {W W' : Wd} {b : Bool} {k s p q : Nat} {σ σ' : cl_S} {ρ ρ' : rf_S} {N : Nat}
/-- block j is emptied for one of the first i partitions -/
def Emp (W : Wd) (fl : Nat → Bool) (i j : Nat) : Prop := ∃ q, q < i ∧ fl q = false ∧ 2 * W.ad q ≤ j ∧ j < 2 * (W.ad q + W.ar q)
/-- the first i partitions are loaded as they were -/
def Lds (W : Wd) (fl : Nat → Bool) (w len sh : Nat → Nat) (i : Nat) (σ σ' : cl_S) : Prop := (∀ d, (∀ q, q < i → d ≠ 218 + 12 * q ∧ d ≠ 219 + 12 * q ∧ d ≠ 220 + 12 * q) → d ≠ 181 → σ'.1 d = σ.1 d) ∧ (∀ q, q < i → ∀ j, σ'.1 (220 + 12 * q) j = if j < len q then σ.1 (w q) j else σ.1 (220 + 12 * q) j) ∧ (∀ q, q < i → ∀ j, σ'.1 (218 + 12 * q) j = if j = 12 then nI (sh q) else σ.1 (218 + 12 * q) j) ∧ (∀ q, q < i → ∀ j, σ'.1 (219 + 12 * q) j = if j = 7 ∧ fl q = false then 1 else σ.1 (219 + 12 * q) j) ∧ (∀ j, Emp W fl i j → σ'.1 181 j = 0 ∧ σ'.2.2.1 182 j = some 33) ∧ (∀ j, ¬ Emp W fl i j → σ'.1 181 j = σ.1 181 j ∧ σ'.2.2.1 182 j = σ.2.2.1 182 j) ∧ (σ'.2.1 = σ.2.1) ∧ (∀ d, (∀ q, q < i → d ≠ 218 + 12 * q ∧ d ≠ 226 + 12 * q) → d ≠ 182 → σ'.2.2.1 d = σ.2.2.1 d) ∧ (∀ q, q < i → ∀ j, σ'.2.2.1 (218 + 12 * q) j = if j = 15 ∨ j = 16 ∨ j = 17 then σ.2.2.1 (83 + 12 * q) j else σ.2.2.1 (218 + 12 * q) j) ∧ (∀ q, q < i → ∀ j, σ'.2.2.1 (226 + 12 * q) j = if j < sh q then σ.2.2.1 (91 + 12 * q) j else σ.2.2.1 (226 + 12 * q) j) ∧ (σ'.2.2.2 = σ.2.2.2)
theorem Lds.I {W : Wd} {fl : Nat → Bool} {w len sh : Nat → Nat} {i : Nat} {σ σ' : cl_S} (hS : Lds W fl w len sh i σ σ') : ∀ d, (∀ q, q < i → d ≠ 218 + 12 * q ∧ d ≠ 219 + 12 * q ∧ d ≠ 220 + 12 * q) → d ≠ 181 → σ'.1 d = σ.1 d := hS.1
theorem Lds.me {W : Wd} {fl : Nat → Bool} {w len sh : Nat → Nat} {i : Nat} {σ σ' : cl_S} (hS : Lds W fl w len sh i σ σ') : ∀ q, q < i → ∀ j, σ'.1 (220 + 12 * q) j = if j < len q then σ.1 (w q) j else σ.1 (220 + 12 * q) j := hS.2.1
theorem Lds.pa {W : Wd} {fl : Nat → Bool} {w len sh : Nat → Nat} {i : Nat} {σ σ' : cl_S} (hS : Lds W fl w len sh i σ σ') : ∀ q, q < i → ∀ j, σ'.1 (218 + 12 * q) j = if j = 12 then nI (sh q) else σ.1 (218 + 12 * q) j := hS.2.2.1
theorem Lds.co {W : Wd} {fl : Nat → Bool} {w len sh : Nat → Nat} {i : Nat} {σ σ' : cl_S} (hS : Lds W fl w len sh i σ σ') : ∀ q, q < i → ∀ j, σ'.1 (219 + 12 * q) j = if j = 7 ∧ fl q = false then 1 else σ.1 (219 + 12 * q) j := hS.2.2.2.1
theorem Lds.d1 {W : Wd} {fl : Nat → Bool} {w len sh : Nat → Nat} {i : Nat} {σ σ' : cl_S} (hS : Lds W fl w len sh i σ σ') : ∀ j, Emp W fl i j → σ'.1 181 j = 0 ∧ σ'.2.2.1 182 j = some 33 := hS.2.2.2.2.1
theorem Lds.d0 {W : Wd} {fl : Nat → Bool} {w len sh : Nat → Nat} {i : Nat} {σ σ' : cl_S} (hS : Lds W fl w len sh i σ σ') : ∀ j, ¬ Emp W fl i j → σ'.1 181 j = σ.1 181 j ∧ σ'.2.2.1 182 j = σ.2.2.1 182 j := hS.2.2.2.2.2.1
theorem Lds.L {W : Wd} {fl : Nat → Bool} {w len sh : Nat → Nat} {i : Nat} {σ σ' : cl_S} (hS : Lds W fl w len sh i σ σ') : σ'.2.1 = σ.2.1 := hS.2.2.2.2.2.2.1
theorem Lds.R {W : Wd} {fl : Nat → Bool} {w len sh : Nat → Nat} {i : Nat} {σ σ' : cl_S} (hS : Lds W fl w len sh i σ σ') : ∀ d, (∀ q, q < i → d ≠ 218 + 12 * q ∧ d ≠ 226 + 12 * q) → d ≠ 182 → σ'.2.2.1 d = σ.2.2.1 d := hS.2.2.2.2.2.2.2.1
theorem Lds.rp {W : Wd} {fl : Nat → Bool} {w len sh : Nat → Nat} {i : Nat} {σ σ' : cl_S} (hS : Lds W fl w len sh i σ σ') : ∀ q, q < i → ∀ j, σ'.2.2.1 (218 + 12 * q) j = if j = 15 ∨ j = 16 ∨ j = 17 then σ.2.2.1 (83 + 12 * q) j else σ.2.2.1 (218 + 12 * q) j := hS.2.2.2.2.2.2.2.2.1
theorem Lds.sc {W : Wd} {fl : Nat → Bool} {w len sh : Nat → Nat} {i : Nat} {σ σ' : cl_S} (hS : Lds W fl w len sh i σ σ') : ∀ q, q < i → ∀ j, σ'.2.2.1 (226 + 12 * q) j = if j < sh q then σ.2.2.1 (91 + 12 * q) j else σ.2.2.1 (226 + 12 * q) j := hS.2.2.2.2.2.2.2.2.2.1
theorem Lds.T {W : Wd} {fl : Nat → Bool} {w len sh : Nat → Nat} {i : Nat} {σ σ' : cl_S} (hS : Lds W fl w len sh i σ σ') : σ'.2.2.2 = σ.2.2.2 := hS.2.2.2.2.2.2.2.2.2.2
theorem Lds.refl {fl : Nat → Bool} {w len sh : Nat → Nat} : Lds W fl w len sh 0 σ σ := ⟨fun _ _ _ => rfl, fun q hq => absurd hq (by omega), fun q hq => absurd hq (by omega), fun q hq => absurd hq (by omega), fun j ⟨q, hq, _⟩ => absurd hq (by omega), fun j _ => ⟨rfl, rfl⟩, rfl, fun _ _ _ => rfl, fun q hq => absurd hq (by omega), fun q hq => absurd hq (by omega), rfl⟩
/-- what is known of the partitions that are loaded again -/
def Ldw (W : Wd) (im w len sh : Nat → Nat) (σ : cl_S) (q : Nat) : Prop := σ.2.2.1 (83 + 12 * q) 15 = some (im q) ∧ ((30 < im q ∧ im q < 38) ∨ 324 < im q) ∧ σ.2.2.1 (im q) 6 = some (w q) ∧ 324 < w q ∧ (σ.2.2.2.1 (w q)).2 = len q ∧ len q ≤ 2048 ∧ sh q ≤ 100 ∧ σ.1 (83 + 12 * q) 12 = nI (sh q) ∧ W.ad q + W.ar q ≤ 32 ∧ σ.1 (W.cf + 3) q = nI (W.ar q) ∧ σ.1 (W.cf + 4) q = nI (W.ad q)
theorem c_ldone {fl : Nat → Bool} {im w len sh : Nat → Nat} {mk i : Nat} {τ : cl_S} (hcf : W.cf = 48 ∨ W.cf = 314) (hmk : BitF mk fl) (np8 : W.np ≤ 8) (h3 : σ.2.2.1 179 3 = some W.cf) (h1 : σ.2.2.1 179 1 = some 180) (hn : σ.1 W.cf 0 = nI W.np) (pp : ∀ s q, s < 2 → q < 8 → σ.2.2.1 (59 + 135 * s) q = some (83 + 135 * s + 12 * q)) (D : ∀ q, q < W.np → Ldw W im w len sh σ q) (hi : i < W.np) (H : Lds W fl w len sh i σ τ) : ∃ τ', lc_X5_repeat_19 179 (some 47) (nI mk) (nI i) τ = some (.inl (nI (i + 1), τ')) ∧ Lds W fl w len sh (i + 1) σ τ' := by
  obtain ⟨d1, d2, d3, d4, d5, d6, d7, d8, d9, d10, d11⟩ := D i hi
  have i8 : i < 8 := by omega
  have r3 : τ.2.2.1 179 3 = some W.cf := by rw [H.R 179 (fun q hq => by omega) (by decide)]; exact h3
  have r1 : τ.2.2.1 179 1 = some 180 := by rw [H.R 179 (fun q hq => by omega) (by decide)]; exact h1
  have r83 : ∀ j, τ.2.2.1 (83 + 12 * i) j = σ.2.2.1 (83 + 12 * i) j := fun j => by rw [H.R _ (fun q hq => by omega) (by omega)]
  have r91 : ∀ j, τ.2.2.1 (91 + 12 * i) j = σ.2.2.1 (91 + 12 * i) j := fun j => by rw [H.R _ (fun q hq => by omega) (by omega)]
  obtain ⟨τ1, e1, L1⟩ := c_loadAs (σ := τ) (q := i) (im := im i) (w := w i) (len := len i) (sh := sh i) i8 (by rw [r83]; exact d1) (by omega) (by rw [H.R _ (fun q hq => by omega) (by omega)]; exact d3) d4 (by rw [H.T]; exact d5) d6 d7 (by rw [H.I _ (fun q hq => by omega) (by omega)]; exact d8)
  have md1 : 179 + 12 + cl_md 179 = 194 := by decide
  have md0 : 47 + 12 + cl_md 47 = 59 := by decide
  have p1 : τ.2.2.1 194 i = some (218 + 12 * i) := by rw [H.R 194 (fun q hq => by omega) (by decide)]; exact (pp 1 i (by omega) i8).trans (congrArg some (by omega))
  have p0 : τ.2.2.1 59 i = some (83 + 12 * i) := by rw [H.R 59 (fun q hq => by omega) (by decide)]; exact (pp 0 i (by omega) i8).trans (congrArg some (by omega))
  have st : ∀ z, (if ((nI mk >>> (nI i &&& 31)) &&& (1:Int32)) = 0 then ix (nI i) 8 (vl (τ1.2.2.1 194 i) (fun r_62 => nn r_62 (fun a_65 => vl (cl_w τ1 (a_65 + 1) 7 (1:Int32)) (fun σ_69 => bd1 (fc_X5_emptyArea 179 (nI i) σ_69) (fun σ_73 => bc_X5_repeat_77i19 179 (some 47) (nI mk) (nI i) σ_73))))) else bc_X5_repeat_77i19 179 (some 47) (nI mk) (nI i) τ1) = z → lc_X5_repeat_19 179 (some 47) (nI mk) (nI i) τ = z := by
    intro z hz
    unfold lc_X5_repeat_19
    rw [vl_eq, r3]
    simp only [nn_eq]
    rw [H.I W.cf (fun q hq => by omega) (by omega), hn, if_neg (fun w => by have := (n_le (by omega) (by omega)).mp w; omega), n_ix i8 (by omega), md1, n_cl (show i < 2147483648 by omega), p1, vl_eq, n_ix i8 (by omega), md0, p0, vl_eq]
    simp only [nn_eq]
    rw [e1, bd1_eq, ← hz]
  have bit : (nI mk >>> (nI i &&& 31)) &&& (1:Int32) = if fl i then 1 else 0 := by rw [i_bit0 mk hmk.1 i i8, hmk.2 i i8]
  have t77 : ∀ τ' : cl_S, bc_X5_repeat_77i19 179 (some 47) (nI mk) (nI i) τ' = some (.inl (nI (i + 1), τ')) := fun τ' => by
    unfold bc_X5_repeat_77i19
    rw [vl_eq, show nI i + (1:Int32) = nI (i + 1) from n_add i 1]
  cases hf : fl i with
  | true =>
    refine ⟨τ1, st _ ?_, ?_⟩
    · rw [bit, hf, if_neg (by decide), t77]
    have em : ∀ j, Emp W fl (i + 1) j ↔ Emp W fl i j := by
      intro j
      refine ⟨?_, ?_⟩
      · rintro ⟨q, a, b, c⟩
        refine ⟨q, ?_, b, c⟩
        by_cases e : q = i
        · rw [e, hf] at b; cases b
        · omega
      · rintro ⟨q, a, b, c⟩; exact ⟨q, by omega, b, c⟩
    refine ⟨fun d hd h181 => ?_, fun q hq j => ?_, fun q hq j => ?_, fun q hq j => ?_, fun j hj => ?_, fun j hj => ?_, by rw [L1.L]; exact H.L, fun d hd h182 => ?_, fun q hq j => ?_, fun q hq j => ?_, by rw [L1.T]; exact H.T⟩
    · have := hd i (by omega)
      rw [show τ1.1 d = τ.1 d from funext fun j => L1.I d j (by omega) (by omega)]
      exact H.I d (fun q hq => hd q (by omega)) h181
    · by_cases e : q = i
      · subst e
        rw [L1.me, H.I _ (fun q hq => by omega) (by omega), H.I _ (fun q hq => by omega) (by omega)]
      · rw [L1.I _ _ (by omega) (by omega)]; exact H.me q (by omega) j
    · by_cases e : q = i
      · subst e
        by_cases c : j = 12
        · rw [if_pos c, c, L1.h]
        · rw [if_neg c, L1.I _ _ (by omega) (fun w => c w.2), H.I _ (fun q hq => by omega) (by omega)]
      · rw [L1.I _ _ (by omega) (by omega)]; exact H.pa q (by omega) j
    · by_cases e : q = i
      · subst e
        rw [L1.I _ _ (by omega) (by omega), H.I _ (fun q hq => by omega) (by omega), if_neg (fun w => by rw [hf] at w; cases w.2)]
      · rw [L1.I _ _ (by omega) (by omega)]; exact H.co q (by omega) j
    · rw [L1.I _ _ (by omega) (by omega), L1.R _ _ (by omega) (by omega)]; exact H.d1 j ((em j).mp hj)
    · rw [L1.I _ _ (by omega) (by omega), L1.R _ _ (by omega) (by omega)]; exact H.d0 j (fun w => hj ((em j).mpr w))
    · have := hd i (by omega)
      rw [show τ1.2.2.1 d = τ.2.2.1 d from funext fun j => L1.R d j (by omega) (by omega)]
      exact H.R d (fun q hq => hd q (by omega)) h182
    · by_cases e : q = i
      · subst e
        by_cases c : j = 15 ∨ j = 16 ∨ j = 17
        · rw [if_pos c, L1.t j c, r83]
        · rw [if_neg c, L1.R _ _ (fun w => c w.2) (by omega), H.R _ (fun q hq => by omega) (by omega)]
      · rw [L1.R _ _ (by omega) (by omega)]; exact H.rp q (by omega) j
    · by_cases e : q = i
      · subst e
        rw [L1.sc, r91, H.R (226 + 12 * q) (fun q' hq' => by omega) (by omega)]
      · rw [L1.R _ _ (by omega) (by omega)]; exact H.sc q (by omega) j
  | false =>
    obtain ⟨τ3, e3, a1, a2, a3, a4, a5, a6⟩ := c_emptyArea (σ := cl_w τ1 (219 + 12 * i) 7 (1:Int32)) (q := i) (cf := W.cf) (ad := W.ad i) (ar := W.ar i) i8 hcf (by rw [r_wL, L1.R _ _ (by omega) (by omega)]; exact r3) (by rw [r_wL, L1.R _ _ (by omega) (by omega)]; exact r1) (by rw [r_w (by omega), L1.I _ _ (by omega) (by omega), H.I _ (fun q hq => by omega) (by omega)]; exact d10) (by rw [r_w (by omega), L1.I _ _ (by omega) (by omega), H.I _ (fun q hq => by omega) (by omega)]; exact d11) d9
    refine ⟨τ3, st _ ?_, ?_⟩
    · rw [bit, hf, if_pos (show (if (false : Bool) = true then (1:Int32) else 0) = 0 from rfl), n_ix i8 (by omega), vl_eq, L1.R 194 i (by omega) (by omega), p1]
      simp only [nn_eq]
      rw [vl_eq, show 218 + 12 * i + 1 = 219 + 12 * i by omega, e3, bd1_eq, t77]
    have em : ∀ j, Emp W fl (i + 1) j ↔ (Emp W fl i j ∨ (2 * W.ad i ≤ j ∧ j < 2 * (W.ad i + W.ar i))) := by
      intro j
      refine ⟨?_, ?_⟩
      · rintro ⟨q, a, b, c⟩
        by_cases e : q = i
        · right; rw [← e]; exact c
        · left; exact ⟨q, by omega, b, c⟩
      · rintro (⟨q, a, b, c⟩ | c)
        · exact ⟨q, by omega, b, c⟩
        · exact ⟨i, by omega, hf, c⟩
    have b181 : ∀ j, (cl_w τ1 (219 + 12 * i) 7 (1:Int32)).1 181 j = τ.1 181 j := fun j => by rw [r_w (by omega), L1.I _ _ (by omega) (by omega)]
    have b182 : ∀ j, (cl_w τ1 (219 + 12 * i) 7 (1:Int32)).2.2.1 182 j = τ.2.2.1 182 j := fun j => by rw [r_wL, L1.R _ _ (by omega) (by omega)]
    refine ⟨fun d hd h181 => ?_, fun q hq j => ?_, fun q hq j => ?_, fun q hq j => ?_, fun j hj => ?_, fun j hj => ?_, by rw [a3, r_wL, L1.L]; exact H.L, fun d hd h182 => ?_, fun q hq j => ?_, fun q hq j => ?_, by rw [a6, r_wL, L1.T]; exact H.T⟩
    · have := hd i (by omega)
      rw [a1 d h181, r_w (by omega), show τ1.1 d = τ.1 d from funext fun j => L1.I d j (by omega) (by omega)]
      exact H.I d (fun q hq => hd q (by omega)) h181
    · rw [a1 _ (by omega), r_w (by omega)]
      by_cases e : q = i
      · subst e
        rw [L1.me, H.I _ (fun q hq => by omega) (by omega), H.I _ (fun q hq => by omega) (by omega)]
      · rw [L1.I _ _ (by omega) (by omega)]; exact H.me q (by omega) j
    · rw [a1 _ (by omega), r_w (by omega)]
      by_cases e : q = i
      · subst e
        by_cases c : j = 12
        · rw [if_pos c, c, L1.h]
        · rw [if_neg c, L1.I _ _ (by omega) (fun w => c w.2), H.I _ (fun q hq => by omega) (by omega)]
      · rw [L1.I _ _ (by omega) (by omega)]; exact H.pa q (by omega) j
    · rw [a1 _ (by omega)]
      by_cases e : q = i
      · subst e
        by_cases c : j = 7
        · rw [c, r_ws, if_pos ⟨rfl, hf⟩]
        · rw [r_wk c, L1.I _ _ (by omega) (by omega), H.I _ (fun q hq => by omega) (by omega), if_neg (fun w => c w.1)]
      · rw [r_w (by omega), L1.I _ _ (by omega) (by omega)]; exact H.co q (by omega) j
    · rw [a2, a5, b181, b182]
      by_cases c : 2 * W.ad i ≤ j ∧ j < 2 * (W.ad i + W.ar i)
      · rw [if_pos c, if_pos c]; exact ⟨rfl, rfl⟩
      · rw [if_neg c, if_neg c]; exact H.d1 j (((em j).mp hj).resolve_right c)
    · have c : ¬ (2 * W.ad i ≤ j ∧ j < 2 * (W.ad i + W.ar i)) := fun w => hj ((em j).mpr (Or.inr w))
      rw [a2, a5, b181, b182, if_neg c, if_neg c]; exact H.d0 j (fun w => hj ((em j).mpr (Or.inl w)))
    · have := hd i (by omega)
      rw [a4 d h182, r_wL, show τ1.2.2.1 d = τ.2.2.1 d from funext fun j => L1.R d j (by omega) (by omega)]
      exact H.R d (fun q hq => hd q (by omega)) h182
    · rw [a4 _ (by omega), r_wL]
      by_cases e : q = i
      · subst e
        by_cases c : j = 15 ∨ j = 16 ∨ j = 17
        · rw [if_pos c, L1.t j c, r83]
        · rw [if_neg c, L1.R _ _ (fun w => c w.2) (by omega), H.R _ (fun q hq => by omega) (by omega)]
      · rw [L1.R _ _ (by omega) (by omega)]; exact H.rp q (by omega) j
    · rw [a4 _ (by omega), r_wL]
      by_cases e : q = i
      · subst e
        rw [L1.sc, r91, H.R (226 + 12 * q) (fun q' hq' => by omega) (by omega)]
      · rw [L1.R _ _ (by omega) (by omega)]; exact H.sc q (by omega) j
theorem c_ldall {fl : Nat → Bool} {im w len sh : Nat → Nat} {mk : Nat} (hcf : W.cf = 48 ∨ W.cf = 314) (hmk : BitF mk fl) (np8 : W.np ≤ 8) (h3 : σ.2.2.1 179 3 = some W.cf) (h1 : σ.2.2.1 179 1 = some 180) (hn : σ.1 W.cf 0 = nI W.np) (pp : ∀ s q, s < 2 → q < 8 → σ.2.2.1 (59 + 135 * s) q = some (83 + 135 * s + 12 * q)) (D : ∀ q, q < W.np → Ldw W im w len sh σ q) : ∃ σ', bc_X5_repeat_19 179 (some 47) (nI mk) (0:Int32) σ = bc_X5_repeat_91 179 (some 47) (nI mk) (0:Int32) (cl_w σ' 179 8 (1:Int32)) ∧ Lds W fl w len sh W.np σ σ' := by
  obtain ⟨σ', e, H⟩ := lp_cnt (S := cl_S) (f := fun x4 σ => lc_X5_repeat_19 179 (some 47) (nI mk) x4 σ) (n := W.np) (fun i τ => Lds W fl w len sh i σ τ) (fun i τ hi H => c_ldone hcf hmk np8 h3 h1 hn pp D hi H) (fun τ H => by
    show lc_X5_repeat_19 179 (some 47) (nI mk) (nI W.np) τ = _
    unfold lc_X5_repeat_19
    rw [vl_eq, H.R 179 (fun q hq => by omega) (by decide), h3]
    simp only [nn_eq]
    rw [H.I W.cf (fun q hq => by omega) (by omega), hn, if_pos (Int32.le_refl _)]) W.np 0 σ (by omega) (by omega) Lds.refl
  refine ⟨σ', ?_, H⟩
  unfold bc_X5_repeat_19
  rw [show lp (fun z : (Int32 × cl_S) => lc_X5_repeat_19 179 (some 47) (nI mk) z.1 z.2) ((0:Int32), σ) = _ from e, Option.bind_some]
  unfold ec_X5_repeat_19
  rw [vl_eq]
end Z2_D3
