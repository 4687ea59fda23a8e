section Z2_D7
variable {K : Bd} {W W' : Wd} {b : Bool} {k s p q : Nat} {σ σ' : cl_S} {ρ ρ' : rf_S} {N : Nat}
/-- the class, about to run a boot again -/
def CBg (W : Wd) (fl : Nat → Bool) (w len sh : Nat → Nat) (σ σ' : cl_S) : Prop := (∀ d, (d < 179 ∨ 181 < d) → (d < 196 ∨ 212 < d) → (d < 218 ∨ 314 ≤ d) → σ'.1 d = σ.1 d) ∧ (∀ d, (d < 179 ∨ (182 < d ∧ d ≠ 213 ∧ (d < 218 ∨ 314 ≤ d))) → σ'.2.2.1 d = σ.2.2.1 d) ∧ (∀ j, σ'.1 179 j = if j = 8 then 1 else if (8 < j ∧ j < 14) ∨ j = 15 then 0 else σ.1 179 j) ∧ (∀ j, σ'.2.2.1 179 j = if j = 3 then some W.cf else σ.2.2.1 179 j) ∧ (∀ q, q < W.np → ∀ j, σ'.1 (218 + 12 * q) j = if j = 12 then nI (sh q) else if j = 6 ∨ j = 8 ∨ j = 10 ∨ j = 12 ∨ j = 13 ∨ j = 14 then 0 else σ.1 (218 + 12 * q) j) ∧ (∀ q, q < W.np → σ'.1 (219 + 12 * q) 2 = nI (W.sz q) ∧ ∀ j, 2 < j → j < 9 → σ'.1 (219 + 12 * q) j = if j = 7 ∧ fl q = false then 1 else 0) ∧ (∀ q, q < W.np → ∀ j, j < 2048 → σ'.1 (220 + 12 * q) j = if j < len q then σ.1 (w q) j else 0) ∧ (∀ q, q < W.np → ∀ j, j < 16 → σ'.1 (221 + 12 * q) j = 0) ∧ (∀ q, q < W.np → ∀ j, σ'.1 (227 + 12 * q) j = if j = 5 then 0 else σ.1 (227 + 12 * q) j) ∧ (∀ q, q < W.np → ∀ j, j < 256 → σ'.1 (229 + 12 * q) j = 0) ∧ (∀ q i, q < 8 → W.np ≤ q → i < 12 → σ'.1 (218 + 12 * q + i) = σ.1 (218 + 12 * q + i)) ∧ (∀ c j, c < 16 → j < 16 → σ'.1 (196 + c) j = 0) ∧ (∀ c, c < 16 → σ'.1 212 c = 0) ∧ (∀ c, c < 16 → σ'.2.2.1 213 c = σ.2.2.1 31 4) ∧ (∀ q, q < W.np → ∀ j, j = 15 ∨ j = 16 ∨ j = 17 → σ'.2.2.1 (218 + 12 * q) j = σ.2.2.1 (83 + 12 * q) j) ∧ (∀ q, q < W.np → ∀ j, j < sh q → σ'.2.2.1 (226 + 12 * q) j = σ.2.2.1 (91 + 12 * q) j) ∧ (∀ j, Emp W fl W.np j → σ'.1 181 j = 0 ∧ σ'.2.2.1 182 j = some 33) ∧ (∀ j, j < 64 → ¬ Emp W fl W.np j → σ'.1 181 j = σ.1 45 j ∧ σ'.2.2.1 182 j = σ.2.2.1 46 j) ∧ (σ'.2.1 = σ.2.1) ∧ (σ'.2.2.2 = σ.2.2.2)
theorem CBg.I {W : Wd} {fl : Nat → Bool} {w len sh : Nat → Nat} {σ σ' : cl_S} (hS : CBg W fl w len sh σ σ') : ∀ d, (d < 179 ∨ 181 < d) → (d < 196 ∨ 212 < d) → (d < 218 ∨ 314 ≤ d) → σ'.1 d = σ.1 d := hS.1
theorem CBg.R {W : Wd} {fl : Nat → Bool} {w len sh : Nat → Nat} {σ σ' : cl_S} (hS : CBg W fl w len sh σ σ') : ∀ d, (d < 179 ∨ (182 < d ∧ d ≠ 213 ∧ (d < 218 ∨ 314 ≤ d))) → σ'.2.2.1 d = σ.2.2.1 d := hS.2.1
theorem CBg.m {W : Wd} {fl : Nat → Bool} {w len sh : Nat → Nat} {σ σ' : cl_S} (hS : CBg W fl w len sh σ σ') : ∀ j, σ'.1 179 j = if j = 8 then 1 else if (8 < j ∧ j < 14) ∨ j = 15 then 0 else σ.1 179 j := hS.2.2.1
theorem CBg.rm {W : Wd} {fl : Nat → Bool} {w len sh : Nat → Nat} {σ σ' : cl_S} (hS : CBg W fl w len sh σ σ') : ∀ j, σ'.2.2.1 179 j = if j = 3 then some W.cf else σ.2.2.1 179 j := hS.2.2.2.1
theorem CBg.r218 {W : Wd} {fl : Nat → Bool} {w len sh : Nat → Nat} {σ σ' : cl_S} (hS : CBg W fl w len sh σ σ') : ∀ q, q < W.np → ∀ j, σ'.1 (218 + 12 * q) j = if j = 12 then nI (sh q) else if j = 6 ∨ j = 8 ∨ j = 10 ∨ j = 12 ∨ j = 13 ∨ j = 14 then 0 else σ.1 (218 + 12 * q) j := hS.2.2.2.2.1
theorem CBg.r219 {W : Wd} {fl : Nat → Bool} {w len sh : Nat → Nat} {σ σ' : cl_S} (hS : CBg W fl w len sh σ σ') : ∀ q, q < W.np → σ'.1 (219 + 12 * q) 2 = nI (W.sz q) ∧ ∀ j, 2 < j → j < 9 → σ'.1 (219 + 12 * q) j = if j = 7 ∧ fl q = false then 1 else 0 := hS.2.2.2.2.2.1
theorem CBg.r220 {W : Wd} {fl : Nat → Bool} {w len sh : Nat → Nat} {σ σ' : cl_S} (hS : CBg W fl w len sh σ σ') : ∀ q, q < W.np → ∀ j, j < 2048 → σ'.1 (220 + 12 * q) j = if j < len q then σ.1 (w q) j else 0 := hS.2.2.2.2.2.2.1
theorem CBg.r221 {W : Wd} {fl : Nat → Bool} {w len sh : Nat → Nat} {σ σ' : cl_S} (hS : CBg W fl w len sh σ σ') : ∀ q, q < W.np → ∀ j, j < 16 → σ'.1 (221 + 12 * q) j = 0 := hS.2.2.2.2.2.2.2.1
theorem CBg.r227 {W : Wd} {fl : Nat → Bool} {w len sh : Nat → Nat} {σ σ' : cl_S} (hS : CBg W fl w len sh σ σ') : ∀ q, q < W.np → ∀ j, σ'.1 (227 + 12 * q) j = if j = 5 then 0 else σ.1 (227 + 12 * q) j := hS.2.2.2.2.2.2.2.2.1
theorem CBg.r229 {W : Wd} {fl : Nat → Bool} {w len sh : Nat → Nat} {σ σ' : cl_S} (hS : CBg W fl w len sh σ σ') : ∀ q, q < W.np → ∀ j, j < 256 → σ'.1 (229 + 12 * q) j = 0 := hS.2.2.2.2.2.2.2.2.2.1
theorem CBg.po {W : Wd} {fl : Nat → Bool} {w len sh : Nat → Nat} {σ σ' : cl_S} (hS : CBg W fl w len sh σ σ') : ∀ q i, q < 8 → W.np ≤ q → i < 12 → σ'.1 (218 + 12 * q + i) = σ.1 (218 + 12 * q + i) := hS.2.2.2.2.2.2.2.2.2.2.1
theorem CBg.sn {W : Wd} {fl : Nat → Bool} {w len sh : Nat → Nat} {σ σ' : cl_S} (hS : CBg W fl w len sh σ σ') : ∀ c j, c < 16 → j < 16 → σ'.1 (196 + c) j = 0 := hS.2.2.2.2.2.2.2.2.2.2.2.1
theorem CBg.ur {W : Wd} {fl : Nat → Bool} {w len sh : Nat → Nat} {σ σ' : cl_S} (hS : CBg W fl w len sh σ σ') : ∀ c, c < 16 → σ'.1 212 c = 0 := hS.2.2.2.2.2.2.2.2.2.2.2.2.1
theorem CBg.st {W : Wd} {fl : Nat → Bool} {w len sh : Nat → Nat} {σ σ' : cl_S} (hS : CBg W fl w len sh σ σ') : ∀ c, c < 16 → σ'.2.2.1 213 c = σ.2.2.1 31 4 := hS.2.2.2.2.2.2.2.2.2.2.2.2.2.1
theorem CBg.rp {W : Wd} {fl : Nat → Bool} {w len sh : Nat → Nat} {σ σ' : cl_S} (hS : CBg W fl w len sh σ σ') : ∀ q, q < W.np → ∀ j, j = 15 ∨ j = 16 ∨ j = 17 → σ'.2.2.1 (218 + 12 * q) j = σ.2.2.1 (83 + 12 * q) j := hS.2.2.2.2.2.2.2.2.2.2.2.2.2.2.1
theorem CBg.sc {W : Wd} {fl : Nat → Bool} {w len sh : Nat → Nat} {σ σ' : cl_S} (hS : CBg W fl w len sh σ σ') : ∀ q, q < W.np → ∀ j, j < sh q → σ'.2.2.1 (226 + 12 * q) j = σ.2.2.1 (91 + 12 * q) j := hS.2.2.2.2.2.2.2.2.2.2.2.2.2.2.2.1
theorem CBg.d1 {W : Wd} {fl : Nat → Bool} {w len sh : Nat → Nat} {σ σ' : cl_S} (hS : CBg W fl w len sh σ σ') : ∀ j, Emp W fl W.np j → σ'.1 181 j = 0 ∧ σ'.2.2.1 182 j = some 33 := hS.2.2.2.2.2.2.2.2.2.2.2.2.2.2.2.2.1
theorem CBg.d0 {W : Wd} {fl : Nat → Bool} {w len sh : Nat → Nat} {σ σ' : cl_S} (hS : CBg W fl w len sh σ σ') : ∀ j, j < 64 → ¬ Emp W fl W.np j → σ'.1 181 j = σ.1 45 j ∧ σ'.2.2.1 182 j = σ.2.2.1 46 j := hS.2.2.2.2.2.2.2.2.2.2.2.2.2.2.2.2.2.1
theorem CBg.L {W : Wd} {fl : Nat → Bool} {w len sh : Nat → Nat} {σ σ' : cl_S} (hS : CBg W fl w len sh σ σ') : σ'.2.1 = σ.2.1 := hS.2.2.2.2.2.2.2.2.2.2.2.2.2.2.2.2.2.2.1
theorem CBg.T {W : Wd} {fl : Nat → Bool} {w len sh : Nat → Nat} {σ σ' : cl_S} (hS : CBg W fl w len sh σ σ') : σ'.2.2.2 = σ.2.2.2 := hS.2.2.2.2.2.2.2.2.2.2.2.2.2.2.2.2.2.2.2
theorem c_again {fl : Nat → Bool} {im w len sh : Nat → Nat} {mk : Nat} (S : Stc σ) (C : CfgR W σ ρ) (h47 : σ.2.2.1 47 3 = some W.cf) (hmk : BitF mk fl) (D : ∀ q, q < W.np → Ldw W im w len sh σ q) : ∃ σ', fc_X5_repeat 179 (some 47) (some 44) (nI mk) σ = bc_X5_repeat_91 179 (some 47) (nI mk) (0:Int32) σ' ∧ CBg W fl w len sh σ σ' := by
  have hcf := C.cf
  have np8 := C.np.1
  obtain ⟨σ1, e1, B⟩ := c_begin (s := 1) (cf := W.cf) (np := W.np) (sz := W.sz) S (by omega) hcf np8 C.np.2.1 (fun p hp => (C.pa p hp).2.1)
  have d1 : σ1.2.2.1 179 1 = some 180 := by
    have := B.rm 1
    rw [if_neg (by decide)] at this
    exact this.trans (S.dp 1 (by omega))
  obtain ⟨σ2, e2, p1, p2, p3, p4, p5, p6⟩ := c_cpd (σ := σ1) (a := 180) (d := 44) (by omega)
  have o1 : ∀ d, d ≠ 179 → (d < 196 ∨ 212 < d) → (d < 218 ∨ 314 ≤ d) → σ1.1 d = σ.1 d := fun d a b c => B.o d a (by omega) (by omega)
  have r1 : ∀ d, d ≠ 179 → d ≠ 213 → σ1.2.2.1 d = σ.2.2.1 d := fun d a b => B.r d a b
  have D2 : ∀ q, q < W.np → Ldw W im w len sh σ2 q := fun q hq => by
    obtain ⟨a1, a2, a3, a4, a5, a6, a7, a8, a9, a10, a11⟩ := D q hq
    refine ⟨by rw [p5 _ (by omega), r1 _ (by omega) (by omega)]; exact a1, a2, by rw [p5 _ (by omega), r1 _ (by omega) (by omega)]; exact a3, a4, by rw [p4, B.T]; exact a5, a6, a7, by rw [p1 _ (by omega), o1 _ (by omega) (by omega) (by omega)]; exact a8, a9, by rw [p1 _ (by omega), o1 _ (by omega) (by omega) (by omega)]; exact a10, by rw [p1 _ (by omega), o1 _ (by omega) (by omega) (by omega)]; exact a11⟩
  obtain ⟨σ3, e3, H⟩ := c_ldall (σ := σ2) (W := W) (fl := fl) (im := im) (w := w) (len := len) (sh := sh) (mk := mk) hcf hmk np8 (by
      rw [p5 179 (by decide)]
      have := B.rm 3
      rw [if_pos rfl] at this
      exact this) (by rw [p5 179 (by decide)]; exact d1) (by rw [p1 _ (by omega), o1 _ (by omega) (by omega) (by omega)]; exact C.np.2.1) (fun s q hs hq => by rw [p5 _ (by omega), r1 _ (by omega) (by omega)]; exact S.pp s q hs hq) D2
  refine ⟨cl_w σ3 179 8 (1:Int32), ?_, ?_⟩
  · unfold fc_X5_repeat bc_X5_repeat_0
    rw [nnn, h47, vln, show fc_X5_begin 179 (some W.cf) σ = some σ1 from e1, bd1n, d1, vln, nnn, e2, bd1n]
    exact e3
  have s1 : ∀ d, d ≠ 181 → d ≠ 179 → (∀ q, q < W.np → d ≠ 218 + 12 * q ∧ d ≠ 219 + 12 * q ∧ d ≠ 220 + 12 * q) → (cl_w σ3 179 8 (1:Int32)).1 d = σ1.1 d := fun d a b c => by rw [r_w b, H.I d c a, p1 d a]
  have t1 : ∀ q, q < W.np → Prs 1 q (nI (W.sz q)) σ σ1 := fun q hq => B.pa q hq
  refine ⟨?_, ?_, ?_, ?_, ?_, ?_, ?_, ?_, ?_, ?_, ?_, ?_, ?_, ?_, ?_, ?_, ?_, ?_, ?_, ?_⟩
  · intro d a1 a2 a3
    by_cases c : d = 181
    · omega
    by_cases c2 : d = 179
    · omega
    rw [s1 d c c2 (fun q hq => by omega), o1 d c2 a2 a3]
  · intro d a
    rw [r_wL, H.R d (fun q hq => by omega) (by omega), p5 d (by omega), r1 d (by omega) (by omega)]
  · intro j
    by_cases c : j = 8
    · rw [if_pos c, c, r_ws]
    · rw [if_neg c, r_wk c, H.I 179 (fun q hq => by omega) (by decide), p1 179 (by decide)]
      exact B.m j
  · intro j
    rw [r_wL, H.R 179 (fun q hq => by omega) (by decide), p5 179 (by decide)]
    exact B.rm j
  · intro q hq j
    rw [r_w (by omega), H.pa q hq j]
    by_cases c : j = 12
    · rw [if_pos c, if_pos c]
    · rw [if_neg c, if_neg c, p1 _ (by omega)]
      have := (t1 q hq).r83 j
      rw [show 83 + 135 * 1 + 12 * q = 218 + 12 * q by omega] at this
      exact this
  · intro q hq
    obtain ⟨a1, a2⟩ := (t1 q hq).r84
    rw [show 84 + 135 * 1 + 12 * q = 219 + 12 * q by omega] at a1 a2
    refine ⟨by rw [r_w (by omega), H.co q hq, if_neg (by omega), p1 _ (by omega)]; exact a1, fun j h1 h2 => ?_⟩
    rw [r_w (by omega), H.co q hq, p1 _ (by omega), a2 j h1 h2]
  · intro q hq j hj
    rw [r_w (by omega), H.me q hq j]
    have := (t1 q hq).r85 j hj
    rw [show 85 + 135 * 1 + 12 * q = 220 + 12 * q by omega] at this
    have w4 := (D q hq).2.2.2.1
    rw [p1 _ (by omega), p1 _ (by omega), this, o1 (w q) (by omega) (by omega) (by omega)]
  · intro q hq j hj
    have := (t1 q hq).r86 j hj
    rw [show 86 + 135 * 1 + 12 * q = 221 + 12 * q by omega] at this
    rw [s1 _ (by omega) (by omega) (fun q' _ => by omega)]; exact this
  · intro q hq j
    have := (t1 q hq).r92 j
    rw [show 92 + 135 * 1 + 12 * q = 227 + 12 * q by omega] at this
    rw [s1 _ (by omega) (by omega) (fun q' _ => by omega)]; exact this
  · intro q hq j hj
    have := (t1 q hq).r94 j hj
    rw [show 94 + 135 * 1 + 12 * q = 229 + 12 * q by omega] at this
    rw [s1 _ (by omega) (by omega) (fun q' _ => by omega)]; exact this
  · intro q i hq hn hi
    have := B.po q i hq (Or.inl hn) hi
    rw [show 83 + 135 * 1 + 12 * q + i = 218 + 12 * q + i by omega] at this
    rw [s1 _ (by omega) (by omega) (fun q' _ => by omega)]; exact this
  · intro c j hc hj
    have := B.sn c j hc hj
    rw [show 61 + 135 * 1 + c = 196 + c by omega] at this
    rw [s1 _ (by omega) (by omega) (fun q' _ => by omega)]; exact this
  · intro c hc
    have := B.ur c hc
    rw [show 77 + 135 * 1 = 212 by omega] at this
    rw [s1 _ (by omega) (by omega) (fun q' _ => by omega)]; exact this
  · intro c hc
    have := B.rt c hc
    rw [show 78 + 135 * 1 = 213 by omega] at this
    rw [r_wL, H.R 213 (fun q _ => by omega) (by omega), p5 213 (by omega)]; exact this
  · intro q hq j hj
    rw [r_wL, H.rp q hq j, if_pos hj, p5 _ (by omega), r1 _ (by omega) (by omega)]
  · intro q hq j hj
    rw [r_wL, H.sc q hq j, if_pos hj, p5 _ (by omega), r1 _ (by omega) (by omega)]
  · intro j hj
    rw [r_wL, r_w (by decide)]; exact H.d1 j hj
  · intro j hj hn
    obtain ⟨a1, a2⟩ := H.d0 j hn
    have b1 := p2 j
    have b2 := p6 j
    rw [if_pos hj] at b1 b2
    rw [r_wL, r_w (by decide), a1, a2, show σ2.1 181 j = σ1.1 45 j from b1, show σ2.2.2.1 182 j = σ1.2.2.1 46 j from b2, o1 45 (by decide) (by omega) (by omega), r1 46 (by decide) (by decide)]
    exact ⟨rfl, rfl⟩
  · rw [r_wL, H.L, p3, B.L]
  · rw [r_wL, H.T, p4, B.T]
end Z2_D7
