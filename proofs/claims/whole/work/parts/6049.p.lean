section Z2_P
variable {K : Bd} {W W' : Wd} {b : Bool} {k s p : Nat} {σ σ' : cl_S} {ρ ρ' : rf_S}
/-! LAYER 2: flows -/
theorem i_bit0 : ∀ m, m < 256 → ∀ q, q < 8 → (nI m >>> (nI q &&& 31)) &&& (1:Int32) = if m.testBit q then 1 else 0 := by decide +kernel
theorem i_or0 : ∀ m, m < 256 → ∀ a, a < 8 → nI m ||| ((1:Int32) <<< (nI a &&& 31)) = nI (m ||| 2 ^ a) := by decide +kernel
theorem i_sh0 : ∀ a, a < 8 → (1:Int32) <<< (nI a &&& 31) = nI (2 ^ a) := by decide
def BitF (m : Nat) (F : Nat → Bool) : Prop := m < 256 ∧ ∀ q, q < 8 → m.testBit q = F q
theorem BitF.or {m : Nat} {F : Nat → Bool} (h : BitF m F) {a : Nat} (ha : a < 8) : BitF (m ||| 2 ^ a) (fun q => F q || (q == a)) := by
  refine ⟨?_, fun q hq => ?_⟩
  · have h2 : 2 ^ a < 2 ^ 8 := Nat.pow_lt_pow_right (by omega) ha
    exact Nat.or_lt_two_pow (n := 8) h.1 h2
  · rw [Nat.testBit_or, h.2 q hq, Nat.testBit_two_pow]
    congr 1
    by_cases c : q = a
    · subst c; simp
    · simp [c, Ne.symm c]
theorem BitF.cg {m : Nat} {F G : Nat → Bool} (h : BitF m F) (e : ∀ q, q < 8 → F q = G q) : BitF m G := ⟨h.1, fun q hq => (h.2 q hq).trans (e q hq)⟩
theorem flC_step {F : Nat → Bool} {c : Nat} (q : Nat) : flC W F (c + 1) q = (flC W F c q || (flC W F c (W.to c) && (q == W.fr c))) := rfl
theorem c_flC (C : CfgR W σ ρ) (x3 : Int32) {F : Nat → Bool} : ∀ u c m, W.nc - c = u → c ≤ W.nc → BitF m (flC W F c) → ∃ m', lp (fun z : (Int32 × Int32 × cl_S) => lc_X1_flowingTo_17i6 W.cf x3 z.1 z.2.1 z.2.2) (nI m, nI c, σ) = some (nI m', nI W.nc, σ) ∧ BitF m' (flC W F W.nc) := by
  obtain ⟨nc16, n5, -⟩ := C.nc
  have np8 := C.np.1
  intro u
  induction u with
  | zero =>
    intro c m hu hc hB
    have : c = W.nc := by omega
    subst this
    have eb : lc_X1_flowingTo_17i6 W.cf x3 (nI m) (nI W.nc) σ = some (.inr (nI m, nI W.nc, σ)) := by
      unfold lc_X1_flowingTo_17i6
      rw [n5, if_pos ((n_le (by omega) (by omega)).mpr (Nat.le_refl _))]
    exact ⟨m, lp_end eb, hB⟩
  | succ u ih =>
    intro c m hu hc hB
    obtain ⟨⟨f1, f2, -⟩, d1, -, d3, -⟩ := C.ch c (by omega)
    have ht := hB.2 (W.to c) (by omega)
    have bit := i_bit0 m hB.1 (W.to c) (by omega)
    have eb : ∃ m', lc_X1_flowingTo_17i6 W.cf x3 (nI m) (nI c) σ = some (.inl (nI m', nI (c + 1), σ)) ∧ BitF m' (flC W F (c + 1)) := by
      unfold lc_X1_flowingTo_17i6 bc_X1_flowingTo_53i17
      rw [n5, if_neg (fun q => by have := (n_le (by omega) (by omega)).mp q; omega), n_ix (show c < 16 by omega) (by omega), n_cl (show c < 2147483648 by omega), d3, bit, ht]
      cases e : flC W F c (W.to c) with
      | true =>
        rw [if_pos (by decide), n_ix (show c < 16 by omega) (by omega), d1, i_or0 m hB.1 _ (by omega), vln, vln, show nI c + (1:Int32) = nI (c + 1) from n_add c 1]
        exact ⟨_, rfl, (hB.or (by omega)).cg (fun q _ => by rw [flC_step, e, Bool.true_and])⟩
      | false =>
        rw [if_neg (by decide), vln, show nI c + (1:Int32) = nI (c + 1) from n_add c 1]
        exact ⟨_, rfl, hB.cg (fun q _ => by rw [flC_step, e, Bool.false_and, Bool.or_false])⟩
    obtain ⟨m', e1, hB'⟩ := eb
    obtain ⟨m2, f1, f2⟩ := ih (c + 1) m' (by omega) (by omega) hB'
    exact ⟨m2, by rw [lp_next e1]; exact f1, f2⟩
theorem c_flR (C : CfgR W σ ρ) (p : Nat) : ∀ u r m, W.np - r = u → r ≤ W.np → BitF m (flR W p r) → ∃ m', lp (fun z : (Int32 × Int32 × cl_S) => lc_X1_flowingTo_6 W.cf z.1 z.2.1 z.2.2) (nI m, nI r, σ) = some (nI m', nI W.np, σ) ∧ BitF m' (flR W p W.np) := by
  obtain ⟨np8, n0, -⟩ := C.np
  intro u
  induction u with
  | zero =>
    intro r m hu hc hB
    have : r = W.np := by omega
    subst this
    have eb : lc_X1_flowingTo_6 W.cf (nI m) (nI W.np) σ = some (.inr (nI m, nI W.np, σ)) := by
      unfold lc_X1_flowingTo_6
      rw [n0, if_pos ((n_le (by omega) (by omega)).mpr (Nat.le_refl _))]
    exact ⟨m, lp_end eb, hB⟩
  | succ u ih =>
    intro r m hu hc hB
    obtain ⟨m', e1, hB'⟩ := c_flC C (nI r) (F := flR W p r) W.nc 0 m (by omega) (by omega) hB
    have eb : lc_X1_flowingTo_6 W.cf (nI m) (nI r) σ = some (.inl (nI m', nI (r + 1), σ)) := by
      unfold lc_X1_flowingTo_6 bc_X1_flowingTo_17i6
      have e1' : lp (fun z : (Int32 × Int32 × cl_S) => lc_X1_flowingTo_17i6 W.cf (nI r) z.1 z.2.1 z.2.2) (nI m, (0:Int32), σ) = _ := e1
      rw [n0, if_neg (fun q => by have := (n_le (by omega) (by omega)).mp q; omega), e1']
      show ec_X1_flowingTo_17i6 W.cf (nI r) (nI m') (nI W.nc) σ = _
      unfold ec_X1_flowingTo_17i6
      rw [vln, show nI r + (1:Int32) = nI (r + 1) from n_add r 1]
    obtain ⟨m2, f1, f2⟩ := ih (r + 1) m' (by omega) (by omega) hB'
    exact ⟨m2, by rw [lp_next eb]; exact f1, f2⟩
/-- rounds that change nothing change nothing more -/
theorem flC_mono {F : Nat → Bool} (c q : Nat) (h : F q = true) : flC W F c q = true := by
  induction c with
  | zero => exact h
  | succ c ih => rw [flC_step, ih]; rfl
theorem flR_stab {p r : Nat} (h : flR W p (r + 1) = flR W p r) : ∀ d, flR W p (r + d) = flR W p r := by
  intro d
  induction d with
  | zero => rfl
  | succ d ih =>
    show flC W (flR W p (r + d)) W.nc = _
    rw [ih]; exact h
def cbt (F : Nat → Bool) : Nat → Nat
  | 0 => 0
  | n + 1 => cbt F n + (if F n then 1 else 0)
theorem cbt_le (F : Nat → Bool) (n : Nat) : cbt F n ≤ n := by
  induction n with
  | zero => exact Nat.le_refl _
  | succ n ih => unfold cbt; split <;> omega
theorem cbt_mono {F G : Nat → Bool} (n : Nat) (h : ∀ q, F q = true → G q = true) : cbt F n ≤ cbt G n := by
  induction n with
  | zero => exact Nat.le_refl _
  | succ n ih =>
    unfold cbt
    by_cases c : F n = true
    · rw [if_pos c, if_pos (h n c)]; omega
    · rw [if_neg c]; omega
theorem cbt_lt {F G : Nat → Bool} (n q : Nat) (hq : q < n) (h : ∀ q, F q = true → G q = true) (h1 : F q = false) (h2 : G q = true) : cbt F n + 1 ≤ cbt G n := by
  induction n with
  | zero => omega
  | succ n ih =>
    unfold cbt
    by_cases c : q = n
    · subst c
      rw [h1, h2]
      have := cbt_mono q h
      simp only [if_true]
      show cbt F q + 0 + 1 ≤ _
      omega
    · have := ih (by omega)
      by_cases c : F n = true
      · rw [if_pos c, if_pos (h n c)]; omega
      · rw [if_neg c]; omega
theorem flC_in (C : CfgR W σ ρ) {F : Nat → Bool} (hF : ∀ q, F q = true → q < W.np) : ∀ c, c ≤ W.nc → ∀ q, flC W F c q = true → q < W.np := by
  intro c
  induction c with
  | zero => intro _ q h; exact hF q h
  | succ c ih =>
    intro hc q h
    rw [flC_step] at h
    rcases Bool.or_eq_true_iff.mp h with h | h
    · exact ih (by omega) q h
    · have := (Bool.and_eq_true_iff.mp h).2
      rw [beq_iff_eq] at this
      rw [this]; exact (C.ch c (by omega)).1.1
theorem flR_in (C : CfgR W σ ρ) {p : Nat} (hp : p < W.np) : ∀ r q, flR W p r q = true → q < W.np := by
  intro r
  induction r with
  | zero => intro q h; have : (q == p) = true := h; rw [beq_iff_eq] at this; omega
  | succ r ih => intro q h; exact flC_in C ih W.nc (Nat.le_refl _) q h
theorem flR_np (C : CfgR W σ ρ) {p : Nat} (hp : p < W.np) : flR W p W.np = flR W p 8 := by
  have np8 := C.np.1
  have key : ∀ r, (∃ r', r' < r ∧ flR W p (r' + 1) = flR W p r') ∨ r + 1 ≤ cbt (flR W p r) W.np := by
    intro r
    induction r with
    | zero =>
      right
      have h0 : flR W p 0 p = true := by show (p == p) = true; exact beq_self_eq_true p
      have := cbt_lt (F := fun _ => false) (G := flR W p 0) W.np p hp (fun q h => by cases h) rfl h0
      omega
    | succ r ih =>
      rcases ih with ⟨r', h1, h2⟩ | ih
      · exact Or.inl ⟨r', by omega, h2⟩
      · by_cases c : flR W p (r + 1) = flR W p r
        · exact Or.inl ⟨r, by omega, c⟩
        · right
          have : ∃ q, flR W p (r + 1) q ≠ flR W p r q := by
            apply Classical.byContradiction
            intro w
            exact c (funext fun q => Classical.byContradiction fun z => w ⟨q, z⟩)
          obtain ⟨q, hq⟩ := this
          have mono : ∀ q, flR W p r q = true → flR W p (r + 1) q = true := fun q h => flC_mono W.nc q h
          have e1 : flR W p r q = false := by
            cases e : flR W p r q with
            | false => rfl
            | true => exact absurd (by rw [e, mono q e]) hq
          have e2 : flR W p (r + 1) q = true := by
            cases e : flR W p (r + 1) q with
            | true => rfl
            | false => exact absurd (by rw [e, e1]) hq
          have := cbt_lt (F := flR W p r) (G := flR W p (r + 1)) W.np q (flR_in C hp (r + 1) q e2) mono e1 e2
          omega
  rcases key W.np with ⟨r', h1, h2⟩ | h
  · have s1 := flR_stab h2 (W.np - r')
    have s2 := flR_stab h2 (8 - r')
    rw [show r' + (W.np - r') = W.np by omega] at s1
    rw [show r' + (8 - r') = 8 by omega] at s2
    rw [s1, s2]
  · have := cbt_le (flR W p W.np) W.np
    omega
/-- who flows to p, in the class -/
theorem c_flow (C : CfgR W σ ρ) {p : Nat} (hp : p < W.np) : ∃ m, fc_X1_flowingTo W.cf (nI p) σ = some (nI m, σ) ∧ BitF m (flR W p 8) := by
  have np8 := C.np.1
  have h0 : BitF (2 ^ p) (flR W p 0) := by
    refine ⟨(Nat.pow_lt_pow_right (a := 2) (by omega) (show p < 8 by omega) : 2 ^ p < 2 ^ 8), fun q hq => ?_⟩
    rw [Nat.testBit_two_pow]
    show decide (p = q) = (q == p)
    by_cases c : q = p
    · subst c; simp
    · simp [c, Ne.symm c]
  obtain ⟨m, e1, hB⟩ := c_flR C p W.np 0 (2 ^ p) (by omega) (by omega) h0
  refine ⟨m, ?_, by rw [← flR_np C hp]; exact hB⟩
  unfold fc_X1_flowingTo bc_X1_flowingTo_0 bc_X1_flowingTo_6
  rw [i_sh0 p (by omega), vln]
  have e1' : lp (fun z : (Int32 × Int32 × cl_S) => lc_X1_flowingTo_6 W.cf z.1 z.2.1 z.2.2) (nI (2 ^ p), (0:Int32), σ) = _ := e1
  rw [e1']
  rfl
theorem call_flows (h : RC k σ ρ) (hk : k < 64) (x y : Int32) : CO k (fc_X11_flows 0 x y σ) (fq_flows x y ρ) := by
  obtain ⟨W, R⟩ := id h
  unfold fc_X11_flows bc_X11_flows_0 fq_flows bq_flows_0
  rcases R.isP x with ⟨q, hq, q8, rfl, e1, e2, e3⟩ | ⟨e1, e2⟩
  rotate_left
  · rw [e1, bd2n, if_pos rfl]
    rcases e2 with e2 | ⟨e2, e3⟩
    · rw [if_pos e2]; exact CO.same h hk _
    · rw [if_neg e2, if_pos (Int32.not_lt.mp e3)]; exact CO.same h hk _
  rw [e1, bd2n, if_neg (by decide), if_neg e2, if_neg (Int32.not_le.mpr e3)]
  rcases R.isP y with ⟨p, hp, p8, rfl, f1, f2, f3⟩ | ⟨f1, f2⟩
  rotate_left
  · rw [f1, bd2n, if_pos rfl]
    rcases f2 with f2 | ⟨f2, f3⟩
    · rw [if_pos f2]; exact CO.same h hk _
    · rw [if_neg f2, if_neg f3]; exact CO.same h hk _
  rw [f1, bd2n, if_neg (by decide), if_neg f2, if_pos f3]
  obtain ⟨m, g1, g2⟩ := c_flow R.cf hp
  rw [vln, show σ.2.2.1 47 3 = some W.cf from R.m0.cp, nnn, g1, bd2n, i_bit0 m g2.1 q q8, g2.2 q q8, show (8:Int32) * nI q + nI p = nI (8 * q + p) from by rw [show (8:Int32) = nI 8 from rfl, n_mul, n_add], n_ix (show 8 * q + p < 64 by omega) (by omega), n_cl (by omega), R.cf.fl q p q8 p8 (by omega)]
  cases flR W p 8 q with
  | true => exact CO.same h hk _
  | false => exact CO.same h hk _
end Z2_P
