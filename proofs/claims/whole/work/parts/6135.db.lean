section Z2_DB
variable {K : Bd} {W W' : Wd} {b : Bool} {k s p q : Nat} {σ σ' : cl_S} {ρ ρ' : rf_S} {N : Nat}
theorem lp_same {S X : Type} {body : S → Option (S ⊕ X)} {s s' : S} (h : body s = body s') : lp body s = lp body s' := by
  have key : ∀ x, lp body s = some x ↔ lp body s' = some x := by
    intro x
    rw [lp_iff, lp_iff]
    refine ⟨?_, ?_⟩
    · rintro ⟨n, hn⟩
      cases n with
      | zero => cases hn
      | succ n => rw [lp_it, h] at hn; exact ⟨n + 1, by rw [lp_it]; exact hn⟩
    · rintro ⟨n, hn⟩
      cases n with
      | zero => cases hn
      | succ n => rw [lp_it, ← h] at hn; exact ⟨n + 1, by rw [lp_it]; exact hn⟩
  cases h1 : lp body s with
  | some x => exact ((key x).mp h1).symm
  | none =>
    cases h2 : lp body s' with
    | none => rfl
    | some x => exact absurd ((key x).mpr h2) (by rw [h1]; exact fun q => by cases q)
theorem fz_eq (h : Fz W ρ) (h' : Fz W' ρ') (hl : W'.ln = W.ln) : (∀ c j, 37 < c → c < 77 → j < 100000 → ¬ S1 c j → ρ'.1 c j = ρ.1 c j) ∧ ρ'.1 0 110 = ρ.1 0 110 ∧ ρ'.1 0 78 = ρ.1 0 78 := by
  refine ⟨fun c j h1 h2 h3 h4 => ?_, ?_, ?_⟩
  · rw [h'.1 c j h1 h2 h3 h4, h.1 c j h1 h2 h3 h4, hl]
  · rw [h'.2.1, h.2.1, hl]
  · rw [h'.2.2, h.2.2, hl]
theorem nS1 {c j : Nat} (h : c < 48 ∨ 75 < c ∨ (c < 52 ∧ j = 0)) : ¬ S1 c j := fun w => by
  unfold S1 at w
  rcases w with w | w | w | w | w | w | w | w | w | w <;> omega
/-- a tick of the reference, where no input waits -/
theorem q_tk1 {x1 x2 x3 : Int32} {i t n T0 : Nat} {r : Int32} (e0 : ρ.1 48 0 = nI T0) (ht : t < T0) (hT : T0 ≤ 60000) (en : ρ.1 0 78 = nI n) (hn : n < 500) (hi : i ≤ n) (hj : i < n → ∃ u, ρ.1 44 i = nI u ∧ t < u ∧ u ≤ 60000) (et : fq_tick ρ = some (r, ρ')) : lq_purge_53 x1 x2 x3 (nI i) (nI t) ρ = some (.inl (nI i, nI (t + 1), ρ')) := by
  have ie : lp (fun z : (Int32 × rf_S) => lq_purge_64i53 x1 x2 x3 (nI t) z.1 z.2) (nI i, ρ) = some (nI i, ρ) := by
    refine lp_end ?_
    show lq_purge_64i53 x1 x2 x3 (nI t) (nI i) ρ = _
    unfold lq_purge_64i53
    rw [en]
    by_cases c : i < n
    · obtain ⟨u, e1, e2, e3⟩ := hj c
      rw [if_neg (fun w => by have := (n_le (by omega) (by omega)).mp w; omega), n_ix (show i < 500 by omega) (by omega), n_cl (show i < 2147483648 by omega), e1, if_neg (fun w => by have := (n_eq (by omega) (by omega)).mp w; omega)]
    · rw [if_pos ((n_le (by omega) (by omega)).mpr (by omega))]
  unfold lq_purge_53
  rw [show ix (0:Int32) 2 _ = _ from n_ix (a := 0) (n := 2) (by omega) (by omega), show (0:Int32).toNatClampNeg = 0 from rfl, e0, if_neg (fun w => by have := (n_le (by omega) (by omega)).mp w; omega)]
  unfold bq_purge_64i53
  rw [ie, Option.bind_some]
  show bq_purge_117i53 x1 x2 x3 (nI i) (nI t) ρ = _
  unfold bq_purge_117i53
  rw [et, bd2n, vln, show nI t + (1:Int32) = nI (t + 1) from n_add t 1]
/-- ticks on both sides, where no input waits -/
theorem tks {x1 x2 x3 : Int32} (v : KV K) (h : Tk K W true k 1 σ ρ) {i t n T0 : Nat} (e48 : ρ.1 48 1 = nI t) (e0 : ρ.1 48 0 = nI T0) (hT : T0 ≤ 60000) (en : ρ.1 0 78 = nI n) (hn : n < 500) (hi : i ≤ n) : ∀ m, t + m ≤ T0 → (i < n → ∃ u, ρ.1 44 i = nI u ∧ t + m ≤ u ∧ u ≤ 60000) → ∃ W' σ' ρ', tkN false m ρ = some (m, ρ') ∧ fc_X5_runTicks 179 (nI m) σ = some (nI m, σ') ∧ W.le W' ∧ Tk K W' true k 1 σ' ρ' ∧ ρ'.1 48 1 = nI (t + m) ∧ lp (fun z : (Int32 × Int32 × rf_S) => lq_purge_53 x1 x2 x3 z.1 z.2.1 z.2.2) (nI i, nI t, ρ) = lp (fun z : (Int32 × Int32 × rf_S) => lq_purge_53 x1 x2 x3 z.1 z.2.1 z.2.2) (nI i, nI (t + m), ρ') := by
  have run : ∀ m, t + m ≤ T0 → ∃ W' σ' ρ', tkN false m ρ = some (m, ρ') ∧ fc_X5_runTicks 179 (nI m) σ = some (nI m, σ') ∧ W.le W' ∧ Tk K W' true k 1 σ' ρ' ∧ ρ'.1 48 1 = nI (t + m) := fun m hm => by
    obtain ⟨d, σ', ρ', f1, f2, f3, f4⟩ := run_n (g := false) v (fun e => absurd e (by decide)) h (n := m) (t := t) e48 (by omega)
    rcases f4 with ⟨rfl, W', g1, g2, g3⟩ | ⟨-, W', g1, g2⟩
    · exact ⟨W', σ', ρ', f2, f1, g1, g2, g3⟩
    · exact absurd g2.1 (by omega)
  intro m
  induction m with
  | zero =>
    intro hm _
    obtain ⟨W', σ', ρ', a1, a2, a3, a4, a5⟩ := run 0 hm
    refine ⟨W', σ', ρ', a1, a2, a3, a4, a5, ?_⟩
    have : some (0, ρ) = some (0, ρ') := a1
    have e := (Prod.mk.inj (Option.some.inj this)).2
    rw [e, Nat.add_zero]
  | succ m ih =>
    intro hm hu
    obtain ⟨Wm, σm, ρm, a1, a2, a3, a4, a5, a6⟩ := ih (by omega) (fun c => by
      obtain ⟨u, u1, u2, u3⟩ := hu c
      exact ⟨u, u1, by omega, u3⟩)
    obtain ⟨W', σ', ρ', b1, b2, b3, b4, b5⟩ := run (m + 1) hm
    refine ⟨W', σ', ρ', b1, b2, b3, b4, b5, ?_⟩
    have add := tkN_add (g := false) (n := 1) a1
    rw [b1, tkN_succ, if_neg (fun w => absurd w.1 (by decide))] at add
    obtain ⟨z1, z2, z3⟩ := fz_eq (h.R.fz rfl) (a4.R.fz rfl) a3.ln
    cases ht : fq_tick ρm with
    | none =>
      rw [ht] at add
      exact absurd add (fun w => by cases w)
    | some z =>
      obtain ⟨r, ρ1⟩ := z
      rw [ht, bd2n] at add
      have er : ρ1 = ρ' := by
        by_cases c : r = 0
        · rw [if_pos c, bd2n] at add
          have := (Prod.mk.inj (Option.some.inj add)).1
          omega
        · rw [if_neg c] at add
          exact ((Prod.mk.inj (Option.some.inj add)).2).symm
      rw [er] at ht
      rw [a6]
      have q1 := q_tk1 (x1 := x1) (x2 := x2) (x3 := x3) (ρ := ρm) (ρ' := ρ') (i := i) (t := t + m) (n := n) (T0 := T0) (by rw [z1 48 0 (by omega) (by omega) (by omega) (nS1 (by omega))]; exact e0) (by omega) hT (by rw [z3]; exact en) hn hi (fun c => by
        obtain ⟨u, u1, u2, u3⟩ := hu c
        exact ⟨u, by rw [z1 44 i (by omega) (by omega) (by omega) (nS1 (by omega))]; exact u1, by omega, u3⟩) ht
      exact lp_next (body := fun z : (Int32 × Int32 × rf_S) => lq_purge_53 x1 x2 x3 z.1 z.2.1 z.2.2) q1
end Z2_DB
