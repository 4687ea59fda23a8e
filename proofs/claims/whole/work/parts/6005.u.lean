section Z2_U
/-! LAYER 2: the terms of both -/
def TL (σ : cl_S) (ρ : rf_S) (ts : List Nat) (tm : Nat → Nat) (N : Nat) : Prop := (∀ t, t < N → tm t ∈ ts) ∧ (∀ t u, t < N → u < N → tm t = tm u → t = u) ∧ (∀ t, t < N → σ.1 (tm t) 0 = ρ.1 1 t) ∧ (∀ t, t < N → ρ.1 1 t = nI 0 → σ.1 (tm t) 1 = ρ.1 2 t) ∧ (∀ t k a, t < N → 2 < k → k < 10 → ρ.1 1 t = nI k → ρ.1 2 t = nI a → a < N → σ.2.2.1 (tm t) 3 = some (tm a)) ∧ (∀ t k a, t < N → 2 < k → k < 10 → k ≠ 4 → k ≠ 6 → ρ.1 1 t = nI k → ρ.1 3 t = nI a → a < N → σ.2.2.1 (tm t) 4 = some (tm a)) ∧ (∀ t a, t < N → ρ.1 1 t = nI 8 → ρ.1 4 t = nI a → a < N → σ.2.2.1 (tm t) 5 = some (tm a)) ∧ (∀ t o l, t < N → ρ.1 1 t = nI 1 → ρ.1 2 t = nI o → ρ.1 3 t = nI l → o < 2147483648 → l < 2147483648 → wdL σ (tm t) l (fun j => ρ.1 12 (o + j))) ∧ (∀ a ∈ ts, σ.1 a 0 = nI 1 → ∃ t, t < N ∧ tm t = a) ∧ (∀ t, t < N → σ.1 (tm t) 9 = ρ.1 6 t ∧ (ρ.1 6 t = 0 ∨ ρ.1 6 t = 1)) ∧ (∀ a ∈ ts, (∀ t, t < N → tm t ≠ a) → σ.1 a 9 = 0)
theorem TL.inm {σ : cl_S} {ρ : rf_S} {ts : List Nat} {tm : Nat → Nat} {N : Nat} (hS : TL σ ρ ts tm N) : ∀ t, t < N → tm t ∈ ts := hS.1
theorem TL.inj {σ : cl_S} {ρ : rf_S} {ts : List Nat} {tm : Nat → Nat} {N : Nat} (hS : TL σ ρ ts tm N) : ∀ t u, t < N → u < N → tm t = tm u → t = u := hS.2.1
theorem TL.kd {σ : cl_S} {ρ : rf_S} {ts : List Nat} {tm : Nat → Nat} {N : Nat} (hS : TL σ ρ ts tm N) : ∀ t, t < N → σ.1 (tm t) 0 = ρ.1 1 t := hS.2.2.1
theorem TL.nu {σ : cl_S} {ρ : rf_S} {ts : List Nat} {tm : Nat → Nat} {N : Nat} (hS : TL σ ρ ts tm N) : ∀ t, t < N → ρ.1 1 t = nI 0 → σ.1 (tm t) 1 = ρ.1 2 t := hS.2.2.2.1
theorem TL.pa {σ : cl_S} {ρ : rf_S} {ts : List Nat} {tm : Nat → Nat} {N : Nat} (hS : TL σ ρ ts tm N) : ∀ t k a, t < N → 2 < k → k < 10 → ρ.1 1 t = nI k → ρ.1 2 t = nI a → a < N → σ.2.2.1 (tm t) 3 = some (tm a) := hS.2.2.2.2.1
theorem TL.pb {σ : cl_S} {ρ : rf_S} {ts : List Nat} {tm : Nat → Nat} {N : Nat} (hS : TL σ ρ ts tm N) : ∀ t k a, t < N → 2 < k → k < 10 → k ≠ 4 → k ≠ 6 → ρ.1 1 t = nI k → ρ.1 3 t = nI a → a < N → σ.2.2.1 (tm t) 4 = some (tm a) := hS.2.2.2.2.2.1
theorem TL.pc {σ : cl_S} {ρ : rf_S} {ts : List Nat} {tm : Nat → Nat} {N : Nat} (hS : TL σ ρ ts tm N) : ∀ t a, t < N → ρ.1 1 t = nI 8 → ρ.1 4 t = nI a → a < N → σ.2.2.1 (tm t) 5 = some (tm a) := hS.2.2.2.2.2.2.1
theorem TL.rw {σ : cl_S} {ρ : rf_S} {ts : List Nat} {tm : Nat → Nat} {N : Nat} (hS : TL σ ρ ts tm N) : ∀ t o l, t < N → ρ.1 1 t = nI 1 → ρ.1 2 t = nI o → ρ.1 3 t = nI l → o < 2147483648 → l < 2147483648 → wdL σ (tm t) l (fun j => ρ.1 12 (o + j)) := hS.2.2.2.2.2.2.2.1
theorem TL.rall {σ : cl_S} {ρ : rf_S} {ts : List Nat} {tm : Nat → Nat} {N : Nat} (hS : TL σ ρ ts tm N) : ∀ a ∈ ts, σ.1 a 0 = nI 1 → ∃ t, t < N ∧ tm t = a := hS.2.2.2.2.2.2.2.2.1
theorem TL.told {σ : cl_S} {ρ : rf_S} {ts : List Nat} {tm : Nat → Nat} {N : Nat} (hS : TL σ ρ ts tm N) : ∀ t, t < N → σ.1 (tm t) 9 = ρ.1 6 t ∧ (ρ.1 6 t = 0 ∨ ρ.1 6 t = 1) := hS.2.2.2.2.2.2.2.2.2.1
theorem TL.tex {σ : cl_S} {ρ : rf_S} {ts : List Nat} {tm : Nat → Nat} {N : Nat} (hS : TL σ ρ ts tm N) : ∀ a ∈ ts, (∀ t, t < N → tm t ≠ a) → σ.1 a 9 = 0 := hS.2.2.2.2.2.2.2.2.2.2
def TermR (n0 : Nat) (σ : cl_S) (ρ : rf_S) (ts : List Nat) (tm : Nat → Nat) (N : Nat) : Prop := (CSt σ ts) ∧ (RSt ρ N) ∧ (TL σ ρ ts tm N) ∧ (3 < N ∧ tm 0 = 34 ∧ tm 2 = 36 ∧ tm 3 = 37 ∧ ρ.1 0 19 = nI 0 ∧ ρ.1 0 20 = nI 2 ∧ ρ.1 0 21 = nI 3) ∧ (JC σ ts ∧ JQ ρ N ∧ Xn n0 ρ N)
theorem TermR.C {n0 : Nat} {σ : cl_S} {ρ : rf_S} {ts : List Nat} {tm : Nat → Nat} {N : Nat} (hS : TermR n0 σ ρ ts tm N) : CSt σ ts := hS.1
theorem TermR.Q {n0 : Nat} {σ : cl_S} {ρ : rf_S} {ts : List Nat} {tm : Nat → Nat} {N : Nat} (hS : TermR n0 σ ρ ts tm N) : RSt ρ N := hS.2.1
theorem TermR.L {n0 : Nat} {σ : cl_S} {ρ : rf_S} {ts : List Nat} {tm : Nat → Nat} {N : Nat} (hS : TermR n0 σ ρ ts tm N) : TL σ ρ ts tm N := hS.2.2.1
theorem TermR.k0 {n0 : Nat} {σ : cl_S} {ρ : rf_S} {ts : List Nat} {tm : Nat → Nat} {N : Nat} (hS : TermR n0 σ ρ ts tm N) : 3 < N ∧ tm 0 = 34 ∧ tm 2 = 36 ∧ tm 3 = 37 ∧ ρ.1 0 19 = nI 0 ∧ ρ.1 0 20 = nI 2 ∧ ρ.1 0 21 = nI 3 := hS.2.2.2.1
theorem TermR.J {n0 : Nat} {σ : cl_S} {ρ : rf_S} {ts : List Nat} {tm : Nat → Nat} {N : Nat} (hS : TermR n0 σ ρ ts tm N) : JC σ ts ∧ JQ ρ N ∧ Xn n0 ρ N := hS.2.2.2.2
/-- what the term's parts are on both sides -/
def argR (tm : Nat → Nat) (N k : Nat) (n : Int32) (x y z : Nat) (a b c : Int32) : Prop :=
  if k = 0 then n = a ∧ x = 33 ∧ y = 33 ∧ z = 33 ∧ b = 0 ∧ c = 0 else n = 0 ∧ (∃ t, t < N ∧ a = nI t ∧ x = tm t) ∧ (if k = 4 ∨ k = 6 then y = 33 ∧ b = 0 else ∃ t, t < N ∧ b = nI t ∧ y = tm t) ∧ (if k = 8 then ∃ t, t < N ∧ c = nI t ∧ z = tm t else z = 33 ∧ c = 0)
theorem argR.shp {σ : cl_S} {ρ : rf_S} {ts : List Nat} {tm : Nat → Nat} {N k : Nat} {n : Int32} {x y z : Nat} {a b c : Int32} (L : TL σ ρ ts tm N) (h : argR tm N k n x y z a b c) (k1 : k ≠ 1) (k2 : k ≠ 2) : shp (inT ts) isN k (some x) (some y) (some z) ∧ (2 < k → n = 0) := by
  unfold argR at h
  unfold Pilot.CPartHouseLaw_law_r5643_e0db28.shp
  by_cases c0 : k = 0
  · rw [if_pos c0] at h
    obtain ⟨-, rfl, rfl, rfl, -⟩ := h
    rw [if_pos (by omega)]
    exact ⟨⟨rfl, rfl, rfl⟩, fun q => by omega⟩
  · rw [if_neg c0] at h
    obtain ⟨hn, ⟨t, ht, -, rfl⟩, h2, h3⟩ := h
    rw [if_neg (by omega)]
    refine ⟨?_, fun _ => hn⟩
    by_cases c4 : k = 4 ∨ k = 6
    · rw [if_pos c4] at h2 ⊢
      rw [if_neg (by omega)] at h3
      exact ⟨⟨_, rfl, L.inm t ht⟩, by rw [h2.1]; rfl, by rw [h3.1]; rfl⟩
    · rw [if_neg c4] at h2 ⊢
      obtain ⟨t2, ht2, -, rfl⟩ := h2
      by_cases c8 : k = 8
      · rw [if_pos c8] at h3 ⊢
        obtain ⟨t3, ht3, -, rfl⟩ := h3
        exact ⟨⟨_, rfl, L.inm t ht⟩, ⟨_, rfl, L.inm t2 ht2⟩, ⟨_, rfl, L.inm t3 ht3⟩⟩
      · rw [if_neg c8] at h3 ⊢
        exact ⟨⟨_, rfl, L.inm t ht⟩, ⟨_, rfl, L.inm t2 ht2⟩, by rw [h3.1]; rfl⟩
theorem argR.rsh {tm : Nat → Nat} {N k : Nat} {n : Int32} {x y z : Nat} {a b c : Int32} (h : argR tm N k n x y z a b c) (k1 : k ≠ 1) (k2 : k ≠ 2) (E : Nat) : rsh E N k a b c := by
  unfold argR at h
  unfold Pilot.CPartHouseLaw_law_r5643_e0db28.rsh
  by_cases c0 : k = 0
  · rw [if_pos c0] at h ⊢
    exact h.2.2.2.2
  · rw [if_neg c0] at h
    obtain ⟨hn, ⟨t, ht, e1, -⟩, h2, h3⟩ := h
    rw [if_neg c0, if_neg k1, if_neg k2]
    refine ⟨⟨t, e1, ht⟩, ?_, ?_⟩
    · by_cases c4 : k = 4 ∨ k = 6
      · rw [if_pos c4] at h2 ⊢; exact h2.2
      · rw [if_neg c4] at h2 ⊢; obtain ⟨t, ht, e, -⟩ := h2; exact ⟨t, e, ht⟩
    · by_cases c8 : k = 8
      · rw [if_pos c8] at h3 ⊢; obtain ⟨t, ht, e, -⟩ := h3; exact ⟨t, e, ht⟩
      · rw [if_neg c8] at h3 ⊢; exact h3.2
/-- the two keys say the same -/
theorem t_key {σ : cl_S} {ρ : rf_S} {ts : List Nat} {tm : Nat → Nat} {N k : Nat} {n : Int32} {x y z : Nat} {a b c : Int32} (C : CSt0 σ ts) (Q : RSt0 ρ N) (L : TL σ ρ ts tm N) (hk : k < 10) (k1 : k ≠ 1) (k2 : k ≠ 2) (h : argR tm N k n x y z a b c) {t : Nat} (ht : t < N) : kyQ ρ t (nI k) a b c ↔ kyI σ (tm t) (nI k) n (some x) (some y) (some z) := by
  have hN := Q.n.2
  obtain ⟨E, -, -, hE⟩ := Q.e
  obtain ⟨kt, hkt, ekt, hrt⟩ := hE t ht
  obtain ⟨kc, hkc, ekc, hsc, hnc⟩ := C.kd (tm t) (L.inm t ht)
  have ek : kc = kt := by
    rw [L.kd t ht, ekt] at ekc
    exact ((n_eq (by omega) (by omega)).mp ekc).symm
  subst ek
  by_cases q : kc = k
  · subst q
    unfold argR at h
    unfold kyQ kyI
    rw [ekt, ekc]
    unfold shp at hsc
    unfold Pilot.CPartHouseLaw_law_r5643_e0db28.rsh at hrt
    by_cases c0 : kc = 0
    · subst c0
      rw [if_pos rfl] at h
      obtain ⟨rfl, rfl, rfl, rfl, rfl, rfl⟩ := h
      rw [if_pos (by omega)] at hsc
      rw [if_pos rfl] at hrt
      rw [L.nu t ht ekt]
      exact ⟨fun q => ⟨rfl, q.2.1, hsc.1, hsc.2.1, hsc.2.2⟩, fun q => ⟨rfl, q.2.1, hrt.1, hrt.2⟩⟩
    · rw [if_neg c0] at h
      rw [if_neg (by omega)] at hsc
      rw [if_neg c0, if_neg k1, if_neg k2] at hrt
      obtain ⟨hn, ⟨u1, hu1, rfl, rfl⟩, h2, h3⟩ := h
      obtain ⟨⟨v1, ev1, hv1⟩, r2, r3⟩ := hrt
      have p1 := L.pa t kc v1 ht (by omega) hkc ekt ev1 (by omega)
      have i1 : (ρ.1 2 t = nI u1 ↔ σ.2.2.1 (tm t) 3 = some (tm u1)) := by
        rw [p1, ev1, n_eq (by omega) (by omega)]
        exact ⟨fun q => by rw [q], fun q => L.inj v1 u1 (by omega) hu1 (Option.some.inj q)⟩
      have i0 : σ.1 (tm t) 1 = n := by rw [hn]; exact hnc (by omega)
      by_cases c4 : kc = 4 ∨ kc = 6
      · rw [if_pos c4] at h2 hsc r2
        obtain ⟨rfl, rfl⟩ := h2
        rw [if_neg (by omega)] at h3 r3
        obtain ⟨rfl, rfl⟩ := h3
        exact ⟨fun q => ⟨rfl, i0, i1.mp q.2.1, hsc.2.1, hsc.2.2⟩, fun q => ⟨rfl, i1.mpr q.2.2.1, r2, r3⟩⟩
      · rw [if_neg c4] at h2 hsc r2
        obtain ⟨u2, hu2, rfl, rfl⟩ := h2
        obtain ⟨v2, ev2, hv2⟩ := r2
        have p2 := L.pb t kc v2 ht (by omega) hkc (by omega) (by omega) ekt ev2 (by omega)
        have i2 : (ρ.1 3 t = nI u2 ↔ σ.2.2.1 (tm t) 4 = some (tm u2)) := by
          rw [p2, ev2, n_eq (by omega) (by omega)]
          exact ⟨fun q => by rw [q], fun q => L.inj v2 u2 (by omega) hu2 (Option.some.inj q)⟩
        by_cases c8 : kc = 8
        · rw [if_pos c8] at h3 hsc r3
          obtain ⟨u3, hu3, rfl, rfl⟩ := h3
          obtain ⟨v3, ev3, hv3⟩ := r3
          have p3 := L.pc t v3 ht (by rw [ekt, c8]) ev3 (by omega)
          have i3 : (ρ.1 4 t = nI u3 ↔ σ.2.2.1 (tm t) 5 = some (tm u3)) := by
            rw [p3, ev3, n_eq (by omega) (by omega)]
            exact ⟨fun q => by rw [q], fun q => L.inj v3 u3 (by omega) hu3 (Option.some.inj q)⟩
          exact ⟨fun q => ⟨rfl, i0, i1.mp q.2.1, i2.mp q.2.2.1, i3.mp q.2.2.2⟩, fun q => ⟨rfl, i1.mpr q.2.2.1, i2.mpr q.2.2.2.1, i3.mpr q.2.2.2.2⟩⟩
        · rw [if_neg c8] at h3 hsc r3
          obtain ⟨rfl, rfl⟩ := h3
          exact ⟨fun q => ⟨rfl, i0, i1.mp q.2.1, i2.mp q.2.2.1, hsc.2.2⟩, fun q => ⟨rfl, i1.mpr q.2.2.1, i2.mpr q.2.2.2.1, r3⟩⟩
  · refine ⟨?_, ?_⟩
    · intro q'; exact absurd ((n_eq (by omega) (by omega)).mp (ekt.symm.trans q'.1)) q
    · intro q'; exact absurd ((n_eq (by omega) (by omega)).mp (ekc.symm.trans q'.1)) q
theorem t_find {σ : cl_S} {ρ : rf_S} {ts : List Nat} {tm : Nat → Nat} {N k : Nat} {n : Int32} {x y z : Nat} {a b c : Int32} (C : CSt0 σ ts) (Q : RSt0 ρ N) (L : TL σ ρ ts tm N) (hk : k < 10) (k1 : k ≠ 1) (k2 : k ≠ 2) (h : argR tm N k n x y z a b c) :
    (∃ t, t < N ∧ kyQ ρ t (nI k) a b c ∧ fc_X10_find 31 (nI k) n (some x) (some y) (some z) σ = some (some (tm t), σ) ∧ fq_peek (nI k) a b c ρ = some (nI t, ρ)) ∨
    (∃ v, v < 0 ∧ fq_peek (nI k) a b c ρ = some (v, ρ) ∧ (∀ t, t < N → ¬ kyQ ρ t (nI k) a b c) ∧
      ((∃ e ∈ ts, (∀ t, t < N → tm t ≠ e) ∧ kyI σ e (nI k) n (some x) (some y) (some z) ∧ fc_X10_find 31 (nI k) n (some x) (some y) (some z) σ = some (some e, σ)) ∨
       ((∀ e ∈ ts, ¬ kyI σ e (nI k) n (some x) (some y) (some z)) ∧ fc_X10_find 31 (nI k) n (some x) (some y) (some z) σ = some (some 33, σ)))) := by
  have hk1 : nI k ≠ nI 1 := fun q => k1 ((n_eq (by omega) (by omega)).mp q)
  rcases q_peek Q (nI k) a b c hk1 with ⟨t, ht, hq, e⟩ | ⟨hq, v, hv, e⟩
  · refine Or.inl ⟨t, ht, hq, ?_, e⟩
    have hc := (t_key C Q L hk k1 k2 h ht).mp hq
    rcases c_find C (nI k) n x y z with ⟨d, hd, hkd, ed⟩ | ⟨hno, ed⟩
    · have : d = tm t := C.uq d hd (tm t) (L.inm t ht) (by rw [hkd.1]; exact hk1) ⟨hkd.1.trans hc.1.symm, hkd.2.1.trans hc.2.1.symm, hkd.2.2.1.trans hc.2.2.1.symm, hkd.2.2.2.1.trans hc.2.2.2.1.symm, hkd.2.2.2.2.trans hc.2.2.2.2.symm⟩
      rw [← this]; exact ed
    · exact absurd hc (hno _ (L.inm t ht))
  · refine Or.inr ⟨v, hv, e, hq, ?_⟩
    rcases c_find C (nI k) n x y z with ⟨d, hd, hkd, ed⟩ | ⟨hno, ed⟩
    · refine Or.inl ⟨d, hd, fun t ht q => ?_, hkd, ed⟩
      subst q
      exact hq t ht ((t_key C Q L hk k1 k2 h ht).mpr hkd)
    · exact Or.inr ⟨hno, ed⟩
end Z2_U
