section Z2_GN
variable {K : Bd} {W W' : Wd} {b : Bool} {k s p : Nat} {σ σ' : cl_S} {ρ ρ' : rf_S}
variable {X Y Z : Nat → Prop} {ts ts' ts'' : List Nat} {tm tm' tm'' : Nat → Nat} {N N' N'' n0 : Nat}
theorem Msp.wk {X' Y' Z' : Nat → Prop} {e g c d r : Nat} (h : Msp X Y Z n0 σ ρ ts tm N σ' ρ' ts' tm' N' e g c d r) (hX : ∀ b, X b → X' b) (hY : ∀ b, Y b → Y' b) (hZ : ∀ j, Z j → Z' j) : Msp X' Y' Z' n0 σ ρ ts tm N σ' ρ' ts' tm' N' e g c d r := ⟨h.nn, h.ne, h.ll, h.mt, h.F.wk hX hY (Nat.le_refl _) (Nat.le_refl _), h.q, fun c j a b => h.qz c j a (fun q => b (hZ j q)), h.l, h.f, h.e, h.T⟩
/-- the measuring so far -/
def MsI (i n0 : Nat) (len : Nat → Nat) (σ : cl_S) (ρ : rf_S) (ts : List Nat) (tm : Nat → Nat) (N : Nat) (σ' : cl_S) (ρ' : rf_S) (ts' : List Nat) (tm' : Nat → Nat) (N' : Nat) : Prop := (Msp (fun b => ∃ q, q < i ∧ b = 85 + 12 * q) (fun b => ∃ q, q < i ∧ b = 83 + 12 * q) (fun j => j < i) n0 σ ρ ts tm N σ' ρ' ts' tm' N' (6 * i) (7 * i) i (asum len i) (asum len i)) ∧ (∀ q, q < i → ∃ f, Mpt q (len q) f σ' ρ' ts' tm' N' ∧ ∀ j, σ'.1 (85 + 12 * q) j = if j < len q then f j else σ.1 (85 + 12 * q) j)
theorem MsI.S {i n0 : Nat} {len : Nat → Nat} {σ : cl_S} {ρ : rf_S} {ts : List Nat} {tm : Nat → Nat} {N : Nat} {σ' : cl_S} {ρ' : rf_S} {ts' : List Nat} {tm' : Nat → Nat} {N' : Nat} (hS : MsI i n0 len σ ρ ts tm N σ' ρ' ts' tm' N') : Msp (fun b => ∃ q, q < i ∧ b = 85 + 12 * q) (fun b => ∃ q, q < i ∧ b = 83 + 12 * q) (fun j => j < i) n0 σ ρ ts tm N σ' ρ' ts' tm' N' (6 * i) (7 * i) i (asum len i) (asum len i) := hS.1
theorem MsI.M {i n0 : Nat} {len : Nat → Nat} {σ : cl_S} {ρ : rf_S} {ts : List Nat} {tm : Nat → Nat} {N : Nat} {σ' : cl_S} {ρ' : rf_S} {ts' : List Nat} {tm' : Nat → Nat} {N' : Nat} (hS : MsI i n0 len σ ρ ts tm N σ' ρ' ts' tm' N') : ∀ q, q < i → ∃ f, Mpt q (len q) f σ' ρ' ts' tm' N' ∧ ∀ j, σ'.1 (85 + 12 * q) j = if j < len q then f j else σ.1 (85 + 12 * q) j := hS.2
theorem ms_all {tb cf np E : Nat} {len : Nat → Nat} (T : TermR n0 σ ρ ts tm N) (hn0 : 112000 ≤ n0 ∧ n0 < 1000000) (htb : tb < N) (hcf : cf = 48 ∨ cf = 314) (cp : σ.2.2.1 47 3 = some cf) (c0 : σ.1 cf 0 = nI np) (h55 : ρ.1 0 55 = nI np) (hnp : np ≤ 8) (pp : ∀ p, p < 8 → σ.2.2.1 59 p = some (83 + 12 * p)) (kp : ∀ p, p < 10 → σ.2.2.1 19 p = some (20 + p) ∧ σ.2.2.2.1 (20 + p) = (1, 2048)) (hn : ∀ p, p < 8 → len p ≤ 2048 ∧ σ.1 30 p = nI (len p) ∧ ρ.1 27 p = nI (len p) ∧ ∀ j, j < len p → σ.1 (20 + p) j = ρ.1 26 (2048 * p + j)) (h18 : ρ.1 0 18 = nI E) (hE : E + asum len np ≤ 690000) (R : Rm σ N (6 * np) (8 * np) (112 * np + asum len np)) :
    ∃ σ' ρ' ts' tm' N', bc_X11_startBoot_171 0 (some (tm tb)) (0:Int32) σ = some (cl_w σ' 47 8 (1:Int32)) ∧ bq_measureAll_63 (nI tb) (0:Int32) ρ = some ρ' ∧ MsI np n0 len σ ρ ts tm N σ' ρ' ts' tm' N' := by
  have main : ∀ m i (σ' : cl_S) (ρ' : rf_S) (ts' : List Nat) (tm' : Nat → Nat) (N' : Nat), np - i = m → i ≤ np → MsI i n0 len σ ρ ts tm N σ' ρ' ts' tm' N' → ∃ σ'' ρ'' ts'' tm'' N'', lp (fun z : (Int32 × cl_S) => lc_X11_startBoot_171 0 (some (tm tb)) z.1 z.2) (nI i, σ') = some (nI np, σ'') ∧ lp (fun z : (Int32 × rf_S) => lq_measureAll_63 (nI tb) z.1 z.2) (nI i, ρ') = some (nI np, ρ'') ∧ MsI np n0 len σ ρ ts tm N σ'' ρ'' ts'' tm'' N'' := by
    intro m
    induction m with
    | zero =>
      intro i σ' ρ' ts' tm' N' hm hi I
      have : i = np := by omega
      subst this
      have cp' : σ'.2.2.1 47 3 = some cf := by rw [I.S.F.R 47 (fun ⟨q, _, h⟩ => by omega) (by omega) (by omega)]; exact cp
      have c0' : σ'.1 cf 0 = nI i := by rw [I.S.F.I cf (fun ⟨q, _, h⟩ => by omega) (by omega) (by omega)]; exact c0
      have h55' : ρ'.1 0 55 = nI i := by rw [I.S.f 55 (by decide) (by decide) (by decide) (by decide) (by decide) (by decide) (by decide)]; exact h55
      have e1 : lc_X11_startBoot_171 0 (some (tm tb)) (nI i) σ' = some (.inr (nI i, σ')) := by
        unfold lc_X11_startBoot_171
        rw [vln, cp', nnn, c0', if_pos ((n_le (by omega) (by omega)).mpr (Nat.le_refl _))]
      have e2 : lq_measureAll_63 (nI tb) (nI i) ρ' = some (.inr (nI i, ρ')) := by
        unfold lq_measureAll_63
        rw [h55', if_pos ((n_le (by omega) (by omega)).mpr (Nat.le_refl _))]
      exact ⟨σ', ρ', ts', tm', N', lp_end (s := (nI i, σ')) e1, lp_end (s := (nI i, ρ')) e2, I⟩
    | succ m ih =>
      intro i σ' ρ' ts' tm' N' hm hi I
      have S := I.S
      have hin : i < np := by omega
      have am := asum_mono (ar := len) (show i + 1 ≤ np by omega)
      have am' : asum len (i + 1) = asum len i + len i := rfl
      have tp := T.C.top
      have nX : ∀ d, d < 83 ∨ 178 < d → ¬ (∃ q, q < i ∧ d = 85 + 12 * q) := fun d hd ⟨q, h1, h2⟩ => by omega
      have nY : ∀ d, d < 83 ∨ 178 < d → ¬ (∃ q, q < i ∧ d = 83 + 12 * q) := fun d hd ⟨q, h1, h2⟩ => by omega
      obtain ⟨E', e18, hE'⟩ := S.e E h18
      have Ri := Rm.go (e0 := 6 * i) (g := 7 * i) (c := i) (d := asum len i) (e1 := 6) (c1 := 8) (d1 := 112 + len i) ⟨by have := R.n; omega, by have := R.c; omega, by have := R.d; omega⟩ S
      obtain ⟨l1, l2, l3, l4⟩ := hn i (by omega)
      have I30 : σ'.1 30 = σ.1 30 := S.F.I 30 (nX 30 (by omega)) (by omega) (by omega)
      have I20 : σ'.1 (20 + i) = σ.1 (20 + i) := S.F.I _ (nX _ (by omega)) (by omega) (by omega)
      obtain ⟨σ2, ρ2, ts2, tm2, N2, f, a1, b1, S2, M2, v2⟩ := ms_one (p := i) (tb := tb) (cf := cf) (np := np) (n := len i) S.T hn0 (Nat.lt_of_lt_of_le htb S.nn) (by rw [S.F.R 47 (nY 47 (by omega)) (by omega) (by omega)]; exact cp) (by rw [S.F.I cf (nX cf (by omega)) (by omega) (by omega)]; exact c0) (by rw [S.f 55 (by decide) (by decide) (by decide) (by decide) (by decide) (by decide) (by decide)]; exact h55) hin hnp (by rw [S.F.R 59 (nY 59 (by omega)) (by omega) (by omega)]; exact pp i (by omega)) (by rw [S.F.R 19 (nY 19 (by omega)) (by omega) (by omega), S.F.T _ (by omega)]; exact kp i (by omega)) l1 (by rw [I30]; exact l2) (by rw [S.q 27 (by omega) (by omega) (by omega)]; exact l3) (fun j hj => by rw [I20, S.q 26 (by omega) (by omega) (by omega)]; exact l4 j hj) e18 (by omega) Ri
      rw [S.mt tb htb] at a1
      have hI2 : MsI (i + 1) n0 len σ ρ ts tm N σ2 ρ2 ts2 tm2 N2 := by
        refine ⟨?_, fun q hq => ?_⟩
        · have A := S.wk (X' := fun b => ∃ q, q < i + 1 ∧ b = 85 + 12 * q) (Y' := fun b => ∃ q, q < i + 1 ∧ b = 83 + 12 * q) (Z' := fun j => j < i + 1) (fun b ⟨q, h1, h2⟩ => ⟨q, by omega, h2⟩) (fun b ⟨q, h1, h2⟩ => ⟨q, by omega, h2⟩) (fun j h => by omega)
          have B := S2.wk (X' := fun b => ∃ q, q < i + 1 ∧ b = 85 + 12 * q) (Y' := fun b => ∃ q, q < i + 1 ∧ b = 83 + 12 * q) (Z' := fun j => j < i + 1) (fun b h => ⟨i, by omega, h⟩) (fun b h => ⟨i, by omega, h⟩) (fun j h => by omega)
          exact A.trans B
        · by_cases c : q = i
          · subst c
            refine ⟨f, M2, fun j => ?_⟩
            rw [v2 j]
            by_cases w : j < len q
            · rw [if_pos w, if_pos w]
            · rw [if_neg w, if_neg w, S.F.I _ (fun ⟨r, h1, h2⟩ => by omega) (by omega) (by omega)]
          · obtain ⟨g, g1, g2⟩ := I.M q (by omega)
            refine ⟨g, g1.go (by omega) S.T.L S2 (fun h => by omega) c, fun j => ?_⟩
            rw [S2.F.I _ (fun h => by omega) (by omega) (by omega)]
            exact g2 j
      obtain ⟨σ3, ρ3, ts3, tm3, N3, f1, f2, f3⟩ := ih (i + 1) σ2 ρ2 ts2 tm2 N2 (by omega) (by omega) hI2
      exact ⟨σ3, ρ3, ts3, tm3, N3, by rw [lp_next (s := (nI i, σ')) a1]; exact f1, by rw [lp_next (s := (nI i, ρ')) b1]; exact f2, f3⟩
  have I0 : MsI 0 n0 len σ ρ ts tm N σ ρ ts tm N := ⟨Msp.refl T, fun q hq => absurd hq (by omega)⟩
  obtain ⟨σ', ρ', ts', tm', N', f1, f2, f3⟩ := main np 0 σ ρ ts tm N (by omega) (by omega) I0
  refine ⟨σ', ρ', ts', tm', N', ?_, ?_, f3⟩
  · unfold bc_X11_startBoot_171
    rw [show lp (fun z : (Int32 × cl_S) => lc_X11_startBoot_171 0 (some (tm tb)) z.1 z.2) ((0:Int32), σ) = _ from f1, Option.bind_some]
    unfold ec_X11_startBoot_171
    rw [vln]
  · unfold bq_measureAll_63
    rw [show lp (fun z : (Int32 × rf_S) => lq_measureAll_63 (nI tb) z.1 z.2) ((0:Int32), ρ) = _ from f2, Option.bind_some]
    rfl
end Z2_GN
