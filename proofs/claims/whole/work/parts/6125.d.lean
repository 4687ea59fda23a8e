section Z2_D
variable {K : Bd} {W W' : Wd} {b : Bool} {k s p : Nat} {σ σ' : cl_S} {ρ ρ' : rf_S} {N : Nat}
/-! LAYER 2: PURGE -/
/-- the latest term is forgotten -/
theorem q_fg1 {m : Nat} (Q : RSt0 ρ (m + 1)) (hk : ρ.1 1 m ≠ nI 1) (hN : N ≤ m) : ∃ h, lq_forget_0 (nI N) ρ = some (.inl (rf_w (rf_w ρ 0 12 (nI m)) 11 h (ρ.1 5 m))) ∧ RSt0 (rf_w (rf_w ρ 0 12 (nI m)) 11 h (ρ.1 5 m)) m := by
  obtain ⟨h, hh, eh⟩ := hQ_lt (ρ.1 1 m) (ρ.1 2 m) (ρ.1 3 m) (ρ.1 4 m)
  have hm := Q.n.2
  have ixm : ∀ {α : Type} (w : Option α), ix (nI m) 112000 w = w := fun w => n_ix (by omega) (by omega)
  have ncm : (nI m).toNatClampNeg = m := n_cl (by omega)
  have g1 : ∀ c, c ≠ 0 → c ≠ 11 → (rf_w (rf_w ρ 0 12 (nI m)) 11 h (ρ.1 5 m)).1 c = ρ.1 c := fun c a b => by rw [q_w b, q_w a]
  have g0 : ∀ j, j ≠ 12 → (rf_w (rf_w ρ 0 12 (nI m)) 11 h (ρ.1 5 m)).1 0 j = ρ.1 0 j := fun j a => by rw [q_w (by decide), q_wk a]
  refine ⟨h, ?_, ⟨by rw [q_w (by decide), q_ws], by omega⟩, ?_, ?_, ?_⟩
  · unfold lq_forget_0
    rw [Q.n.1, if_neg (fun q => by have := (n_le (by omega) (by omega)).mp q; omega), show nI (m + 1) - (1:Int32) = nI m from n_sub (a := m + 1) (b := 1) (by omega), vl_eq, q_ws, ixm, ixm, ixm, ixm, ncm, q_hash, bd2_eq, q_ws, ixm, ncm, q_w (show 1 ≠ 0 by decide), q_w (show 2 ≠ 0 by decide), q_w (show 3 ≠ 0 by decide), q_w (show 4 ≠ 0 by decide), q_w (show 5 ≠ 0 by decide), eh, n_ix hh (by omega), vl_eq, n_cl (show h < 2147483648 by omega)]
  · obtain ⟨E, e1, e2, e3⟩ := Q.e
    refine ⟨E, by rw [g0 18 (by decide)]; exact e1, e2, fun t ht => ?_⟩
    rw [g1 1 (by decide) (by decide), g1 2 (by decide) (by decide), g1 3 (by decide) (by decide), g1 4 (by decide) (by decide)]
    exact e3 t (by omega)
  · intro t u ht hu
    unfold kyQ
    rw [g1 1 (by decide) (by decide), g1 2 (by decide) (by decide), g1 3 (by decide) (by decide), g1 4 (by decide) (by decide)]
    exact Q.uq t u (by omega) (by omega)
  · intro i hi
    obtain ⟨l, Hl, ml, pl⟩ := Q.ch i hi
    have rb : ∀ t, rbk (rf_w (rf_w ρ 0 12 (nI m)) 11 h (ρ.1 5 m)) t i ↔ rbk ρ t i := by
      intro t
      unfold rbk
      rw [g1 1 (by decide) (by decide), g1 2 (by decide) (by decide), g1 3 (by decide) (by decide), g1 4 (by decide) (by decide), g1 12 (by decide) (by decide)]
    have rm : rbk ρ m i ↔ i = h := by
      unfold rbk
      refine ⟨?_, ?_⟩
      · rintro (⟨-, q⟩ | ⟨q, -⟩)
        · rw [eh] at q; exact ((n_eq (by omega) (by omega)).mp q).symm
        · exact absurd q hk
      · intro q; rw [q]; exact Or.inl ⟨hk, eh⟩
    rw [g1 5 (by decide) (by decide)]
    by_cases c : i = h
    · subst c
      rw [q_ws]
      have mem : m ∈ l := (ml m).mpr ⟨by omega, rm.mpr rfl⟩
      cases l with
      | nil => exact absurd mem List.not_mem_nil
      | cons a l' =>
        obtain ⟨ea, Hl'⟩ := Hl
        have pc := List.pairwise_cons.mp pl
        have am : a = m := by
          rcases List.mem_cons.mp mem with q | q
          · exact q.symm
          · have h1 := pc.1 m q
            have h2 := ((ml a).mp List.mem_cons_self).1
            omega
        subst am
        refine ⟨l', Hl', fun t => ?_, pc.2⟩
        rw [rb]
        refine ⟨?_, ?_⟩
        · intro q
          have := pc.1 t q
          exact ⟨this, ((ml t).mp (List.mem_cons_of_mem _ q)).2⟩
        · rintro ⟨q1, q2⟩
          rcases List.mem_cons.mp ((ml t).mpr ⟨by omega, q2⟩) with q | q
          · omega
          · exact q
    · rw [q_wk c, q_w (by decide)]
      refine ⟨l, Hl, fun t => ?_, pl⟩
      rw [rb, ml]
      refine ⟨?_, ?_⟩
      · rintro ⟨q1, q2⟩
        refine ⟨?_, q2⟩
        have : t ≠ m := fun q => c (rm.mp (q ▸ q2))
        omega
      · rintro ⟨q1, q2⟩; exact ⟨by omega, q2⟩
/-- forgetting -/
theorem q_forget : ∀ d (ρ : rf_S), RSt0 ρ (N + d) → (∀ t, N ≤ t → t < N + d → ρ.1 1 t ≠ nI 1) → ∃ ρ', fq_forget (nI N) ρ = some ρ' ∧ (∀ c, c ≠ 0 → c ≠ 11 → ρ'.1 c = ρ.1 c) ∧ (∀ j, j ≠ 12 → ρ'.1 0 j = ρ.1 0 j) ∧ ρ'.2 = ρ.2 ∧ RSt0 ρ' N := by
  have main : ∀ d (ρ : rf_S), RSt0 ρ (N + d) → (∀ t, N ≤ t → t < N + d → ρ.1 1 t ≠ nI 1) → ∃ ρ', lp (fun z : rf_S => lq_forget_0 (nI N) z) ρ = some ρ' ∧ (∀ c, c ≠ 0 → c ≠ 11 → ρ'.1 c = ρ.1 c) ∧ (∀ j, j ≠ 12 → ρ'.1 0 j = ρ.1 0 j) ∧ ρ'.2 = ρ.2 ∧ RSt0 ρ' N := by
    intro d
    induction d with
    | zero =>
      intro ρ Q hk
      refine ⟨ρ, lp_end ?_, fun _ _ _ => rfl, fun _ _ => rfl, rfl, Q⟩
      show lq_forget_0 (nI N) ρ = _
      unfold lq_forget_0
      rw [Q.n.1, Nat.add_zero, if_pos (Int32.le_refl _)]
    | succ d ih =>
      intro ρ Q hk
      obtain ⟨h, e, Q'⟩ := q_fg1 (m := N + d) (N := N) Q (hk _ (by omega) (by omega)) (by omega)
      obtain ⟨ρ', e', o', f', l', Q2⟩ := ih _ Q' (fun t h1 h2 => by rw [q_w (by decide), q_w (by decide)]; exact hk t h1 (by omega))
      refine ⟨ρ', by rw [lp_next e]; exact e', fun c a b => by rw [o' c a b, q_w b, q_w a], fun j a => by rw [f' j a, q_w (by decide), q_wk a], by rw [l']; rfl, Q2⟩
  intro d ρ Q hk
  obtain ⟨ρ', e, r⟩ := main d ρ Q hk
  refine ⟨ρ', ?_, r⟩
  unfold fq_forget bq_forget_0
  rw [e, Option.bind_some]
  rfl
theorem cb_z {f : Nat → Int32} {N : Nat} : ∀ d, (∀ t, N ≤ t → t < N + d → f t = 0) → cb f (N + d) = cb f N := by
  intro d
  induction d with
  | zero => intro _; rfl
  | succ d ih =>
    intro h
    rw [show N + (d + 1) = (N + d) + 1 by omega]
    show cb f (N + d) + (if f (N + d) = 0 then 0 else 1) = _
    rw [ih (fun t a b => h t a (by omega)), if_pos (h _ (by omega) (by omega)), Nat.add_zero]
/-- the terms after a boot that was run again: the reference has forgotten, the class keeps more -/
theorem TermR.back {n0 n1 N0 N1 S : Nat} {ts : List Nat} {tm : Nat → Nat} (T : TermR n0 σ ρ ts tm N1) (hN : N0 ≤ N1) (hn : nbd n0 = N0) (hb : 1000000 ≤ n0) (hS : n0 / 1000000 - 1 = S) (hS2 : S ≤ N0) (h4 : 3 < N0) (h1 : 112000 ≤ n1 ∧ n1 < 1000000) (Q0 : RSt0 ρ' N0) (o : ∀ c, c ≠ 0 → c ≠ 11 → ρ'.1 c = ρ.1 c) (f : ∀ j, j ≠ 12 → j ≠ 13 → j ≠ 15 → j ≠ 79 → ρ'.1 0 j = ρ.1 0 j) (f13 : ρ'.1 0 13 = nI S) (f15 : (N0 = N1 ∧ ρ'.1 0 15 = ρ.1 0 15) ∨ ρ'.1 0 15 = -1) : TermR n1 σ ρ' ts tm N0 := by
  obtain ⟨C, Q, L, ⟨k4, k5, k6, k7, k8, k9, k10⟩, J1, J2, J3⟩ := T
  have o' : ∀ c, c ≠ 0 → c ≠ 11 → ∀ j, ρ'.1 c j = ρ.1 c j := fun c a b j => by rw [o c a b]
  refine ⟨C, ⟨Q0, S, f13, hS2, fun t ht e => ?_⟩, ?_, ⟨h4, k5, k6, k7, by rw [f 19 (by decide) (by decide) (by decide) (by decide)]; exact k8, by rw [f 20 (by decide) (by decide) (by decide) (by decide)]; exact k9, by rw [f 21 (by decide) (by decide) (by decide) (by decide)]; exact k10⟩, J1, ?_, ?_⟩
  · rw [o' 1 (by decide) (by decide)] at e
    rw [o' 2 (by decide) (by decide), ← hS]
    exact (J3.2 hb).2 t (by rw [hn]; exact ht) e
  · refine ⟨fun t ht => L.inm t (by omega), fun t u ht hu => L.inj t u (by omega) (by omega), ?_, ?_, ?_, ?_, ?_, ?_, ?_, ?_, ?_⟩
    · intro t ht; rw [o' 1 (by decide) (by decide)]; exact L.kd t (by omega)
    · intro t ht; rw [o' 1 (by decide) (by decide), o' 2 (by decide) (by decide)]; exact L.nu t (by omega)
    · intro t k a ht h2 h10 e1 e2 ha
      rw [o' 1 (by decide) (by decide)] at e1; rw [o' 2 (by decide) (by decide)] at e2
      exact L.pa t k a (by omega) h2 h10 e1 e2 (by omega)
    · intro t k a ht h2 h10 n4 n6 e1 e2 ha
      rw [o' 1 (by decide) (by decide)] at e1; rw [o' 3 (by decide) (by decide)] at e2
      exact L.pb t k a (by omega) h2 h10 n4 n6 e1 e2 (by omega)
    · intro t a ht e1 e2 ha
      rw [o' 1 (by decide) (by decide)] at e1; rw [o' 4 (by decide) (by decide)] at e2
      exact L.pc t a (by omega) e1 e2 (by omega)
    · intro t oo l ht e1 e2 e3 a1 a2
      rw [o' 1 (by decide) (by decide)] at e1; rw [o' 2 (by decide) (by decide)] at e2; rw [o' 3 (by decide) (by decide)] at e3
      rw [o 12 (by decide) (by decide)]
      exact L.rw t oo l (by omega) e1 e2 e3 a1 a2
    · intro a ha e
      obtain ⟨t, ht, et⟩ := L.rall a ha e
      refine ⟨t, ?_, et⟩
      apply Classical.byContradiction
      intro q
      have := (J3.1 t (by rw [hn]; omega) ht).1
      rw [← L.kd t ht, et] at this
      exact this e
    · intro t ht; rw [o' 6 (by decide) (by decide)]; exact L.told t (by omega)
    · intro a ha hno
      by_cases q : ∃ t, t < N1 ∧ tm t = a
      · obtain ⟨t, ht, et⟩ := q
        have t0 : N0 ≤ t := by
          apply Classical.byContradiction
          intro w
          exact hno t (by omega) et
        rw [← et, (L.told t ht).1]
        exact (J3.1 t (by rw [hn]; exact t0) ht).2
      · exact L.tex a ha (fun t ht et => q ⟨t, ht, et⟩)
  · obtain ⟨bc, b1, b2, b3, b4, b5⟩ := J2
    have ecb : cb (ρ.1 6) N1 = cb (ρ.1 6) N0 := by
      have := cb_z (f := ρ.1 6) (N := N0) (N1 - N0) (fun t a b => (J3.1 t (by rw [hn]; exact a) (by omega)).2)
      rw [show N0 + (N1 - N0) = N1 by omega] at this
      exact this
    refine ⟨bc, by rw [f 14 (by decide) (by decide) (by decide) (by decide)]; exact b1, by rw [o 6 (by decide) (by decide), ← ecb]; exact b2, ?_, by rw [f 16 (by decide) (by decide) (by decide) (by decide)]; exact b4, ?_⟩
    · rcases f15 with ⟨rfl, e⟩ | e
      · rw [e]; exact b3
      · exact Or.inl e
    · rcases f15 with ⟨rfl, e⟩ | e
      · rw [e, f 16 (by decide) (by decide) (by decide) (by decide), grQ_eq (fun c hc => o c (by omega) (by omega)), o 7 (by decide) (by decide)]; exact b5
      · intro q
        have := Q0.n.2
        rw [e] at q; exact absurd q.symm (n_m1 (by omega))
  · refine ⟨fun t a b => ?_, fun w => by omega⟩
    rw [nbd_s h1] at a
    have := Q0.n.2
    omega
end Z2_D
