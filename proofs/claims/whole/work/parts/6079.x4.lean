section Z2_X4
variable {σ σ' : cl_S} {ρ ρ' : rf_S}
variable {n T s : Nat} {h st : Nat → Nat} {L : Option Nat} {f : Nat → Int32} {i a : Nat} {D : Int32 → Prop}
/-- the reference's search -/
def QS (n : Nat) (ρ : rf_S) (T : Nat) (h : Nat → Nat) (L : Option Nat) : Prop := (ρ.1 0 113 = nI T) ∧ (ρ.1 0 114 = L.elim 1000000 nI) ∧ (∀ l, L = some l → l < 1000000) ∧ (∀ k, k < T → ρ.1 78 k = nI (h k)) ∧ (∀ k, k < T → ρ.1 77 (h k) = 1) ∧ (∀ i, i < 2048 → (∀ k, k < T → h k ≠ i) → ρ.1 77 i = 0) ∧ (∀ k, k < T → h k < n) ∧ (∀ a b, a < T → b < T → h a = h b → a = b)
theorem QS.n3 {n : Nat} {ρ : rf_S} {T : Nat} {h : Nat → Nat} {L : Option Nat} (hS : QS n ρ T h L) : ρ.1 0 113 = nI T := hS.1
theorem QS.l4 {n : Nat} {ρ : rf_S} {T : Nat} {h : Nat → Nat} {L : Option Nat} (hS : QS n ρ T h L) : ρ.1 0 114 = L.elim 1000000 nI := hS.2.1
theorem QS.lb {n : Nat} {ρ : rf_S} {T : Nat} {h : Nat → Nat} {L : Option Nat} (hS : QS n ρ T h L) : ∀ l, L = some l → l < 1000000 := hS.2.2.1
theorem QS.stk {n : Nat} {ρ : rf_S} {T : Nat} {h : Nat → Nat} {L : Option Nat} (hS : QS n ρ T h L) : ∀ k, k < T → ρ.1 78 k = nI (h k) := hS.2.2.2.1
theorem QS.m1 {n : Nat} {ρ : rf_S} {T : Nat} {h : Nat → Nat} {L : Option Nat} (hS : QS n ρ T h L) : ∀ k, k < T → ρ.1 77 (h k) = 1 := hS.2.2.2.2.1
theorem QS.m0 {n : Nat} {ρ : rf_S} {T : Nat} {h : Nat → Nat} {L : Option Nat} (hS : QS n ρ T h L) : ∀ i, i < 2048 → (∀ k, k < T → h k ≠ i) → ρ.1 77 i = 0 := hS.2.2.2.2.2.1
theorem QS.hn {n : Nat} {ρ : rf_S} {T : Nat} {h : Nat → Nat} {L : Option Nat} (hS : QS n ρ T h L) : ∀ k, k < T → h k < n := hS.2.2.2.2.2.2.1
theorem QS.inj {n : Nat} {ρ : rf_S} {T : Nat} {h : Nat → Nat} {L : Option Nat} (hS : QS n ρ T h L) : ∀ a b, a < T → b < T → h a = h b → a = b := hS.2.2.2.2.2.2.2
def Pof (a T : Nat) (h : Nat → Nat) (j : Nat) : Prop := ∃ k, a ≤ k ∧ k < T ∧ h k = j
def Fq3 (ρ ρ' : rf_S) : Prop := (∀ c, c ≠ 0 → c ≠ 77 → c ≠ 78 → ρ'.1 c = ρ.1 c) ∧ (∀ j, j ≠ 113 → j ≠ 114 → ρ'.1 0 j = ρ.1 0 j) ∧ ρ'.2 = ρ.2
theorem Fq3.trans {ρ'' : rf_S} (a : Fq3 ρ ρ') (b : Fq3 ρ' ρ'') : Fq3 ρ ρ'' := ⟨fun d h1 h2 h3 => (b.1 d h1 h2 h3).trans (a.1 d h1 h2 h3), fun j h1 h2 => (b.2.1 j h1 h2).trans (a.2.1 j h1 h2), b.2.2.trans a.2.2⟩
theorem QS.reach (C : QS n ρ T h L) (hn : n ≤ 2048) (ha : a ≤ T) (x : Int32) (hx : x.toNatClampNeg < 1000000) : ∃ ρ' T' h' L', fq_reach x (nI n) ρ = some ρ' ∧ QS n ρ' T' h' L' ∧ Fq3 ρ ρ' ∧ T ≤ T' ∧ RS n x (Mof T h) (Pof a T h) L (Mof T' h') (Pof a T' h') L' ∧ (∀ k, k < T → h' k = h k) := by
  unfold fq_reach bq_reach_0
  have out : outx n x → ∃ ρ' T' h' L', bq_reach_9 x ρ = some ρ' ∧ QS n ρ' T' h' L' ∧ Fq3 ρ ρ' ∧ T ≤ T' ∧ RS n x (Mof T h) (Pof a T h) L (Mof T' h') (Pof a T' h') L' ∧ (∀ k, k < T → h' k = h k) := by
    intro ho
    have e9 : bq_reach_9 x ρ = bq_reach_18 (nI x.toNatClampNeg) ρ := by
      unfold bq_reach_9
      by_cases c : x < 0
      · rw [if_neg (fun q : (0:Int32) ≤ x => by
          have h1 := Int32.lt_iff_toInt_lt.mp c
          have h2 := Int32.le_iff_toInt_le.mp q
          omega), cl_neg c]
        rfl
      · rcases n_cases x with q | ⟨m, hm, rfl⟩
        · exact absurd q c
        · rw [if_pos (show (0:Int32) ≤ nI m from (n_le (a := 0) (b := m) (by omega) hm).mpr (by omega)), n_cl hm]
    rw [e9]
    unfold bq_reach_18 bq_reach_36
    rw [C.l4, vln, vln]
    have key : ∀ L0, (∀ l, L0 = some l → l < 1000000) → RS n x (Mof T h) (Pof a T h) L (Mof T h) (Pof a T h) L0 → ∃ ρ' T' h' L', some (rf_w ρ 0 114 (L0.elim 1000000 nI)) = some ρ' ∧ QS n ρ' T' h' L' ∧ Fq3 ρ ρ' ∧ T ≤ T' ∧ RS n x (Mof T h) (Pof a T h) L (Mof T' h') (Pof a T' h') L' ∧ (∀ k, k < T → h' k = h k) := by
      intro L0 e2 e3
      exact ⟨_, T, h, L0, rfl, ⟨by rw [q_wk (by decide)]; exact C.n3, q_ws, e2, by rw [q_w (by decide)]; exact C.stk, by rw [q_w (by decide)]; exact C.m1, by rw [q_w (by decide)]; exact C.m0, C.hn, C.inj⟩, ⟨fun d h1 _ _ => q_w h1, fun j _ h2 => q_wk h2, rfl⟩, Nat.le_refl _, e3, fun _ _ => rfl⟩
    have mk : ∀ L', (∃ l, L' = some l ∧ l ≤ x.toNatClampNeg) → (∀ v, L = some v → ∃ v', L' = some v' ∧ v' ≤ v) → (L' = L ∨ L' = some x.toNatClampNeg) → RS n x (Mof T h) (Pof a T h) L (Mof T h) (Pof a T h) L' := fun L' a b c => ⟨fun _ q => q, fun _ q => Or.inl q, fun j q => by
      rcases q with q | q
      · exact q
      · exact absurd q.1 q.2, Or.inr ⟨ho, a⟩, b, c.imp id (fun q => ⟨ho, q⟩)⟩
    cases eL : L with
    | none =>
      have := key (some x.toNatClampNeg) (fun l q => by cases q; exact hx) (mk _ ⟨_, rfl, Nat.le_refl _⟩ (fun v q => by rw [eL] at q; cases q) (Or.inr rfl))
      rw [eL] at this
      show ∃ ρ' T' h' L', (if (1000000:Int32) ≤ nI x.toNatClampNeg then _ else _) = some ρ' ∧ _
      rw [if_neg (show ¬ (1000000:Int32) ≤ nI x.toNatClampNeg from fun q => by have := (n_le (a := 1000000) (b := x.toNatClampNeg) (by omega) (by omega)).mp q; omega)]
      exact this
    | some l =>
      have hl := C.lb l eL
      show ∃ ρ' T' h' L', (if nI l ≤ nI x.toNatClampNeg then some (rf_w ρ 0 114 (nI l)) else _) = some ρ' ∧ _
      by_cases c : l ≤ x.toNatClampNeg
      · have := key L C.lb (mk _ ⟨l, eL, by omega⟩ (fun v q => ⟨v, q, Nat.le_refl _⟩) (Or.inl rfl))
        rw [if_pos ((n_le (by omega) (by omega)).mpr c)]
        rw [eL] at this
        exact this
      · have := key (some x.toNatClampNeg) (fun l q => by cases q; exact hx) (mk _ ⟨_, rfl, Nat.le_refl _⟩ (fun v q => ⟨_, rfl, by rw [eL] at q; have := Option.some.inj q; omega⟩) (Or.inr rfl))
        rw [if_neg (fun q => c ((n_le (by omega) (by omega)).mp q))]
        rw [eL] at this
        exact this
  by_cases c0 : x < 0
  · rw [if_pos c0]
    exact out (Or.inl c0)
  rw [if_neg c0]
  by_cases c1 : x < nI n
  · rw [if_pos c1]
    rcases n_cases x with q | ⟨j, hj, rfl⟩
    · exact absurd q c0
    have jn : j < n := (n_lt hj (by omega)).mp c1
    rw [n_ix (show j < 2048 by omega) (by omega), n_cl hj]
    by_cases m : ∃ k, k < T ∧ h k = j
    · obtain ⟨k, hk, ek⟩ := id m
      have := C.m1 k hk
      rw [ek] at this
      rw [this, if_neg (by decide)]
      exact ⟨ρ, T, h, L, rfl, C, ⟨fun _ _ _ _ => rfl, fun _ _ _ => rfl, rfl⟩, Nat.le_refl _, ⟨fun _ q => q, fun _ q => Or.inl q, fun i q => by
        rcases q with q | q
        · exact q
        · exact absurd q.1 q.2, Or.inl ⟨j, jn, rfl, m⟩, fun v q => ⟨v, q, Nat.le_refl _⟩, Or.inl rfl⟩, fun _ _ => rfl⟩
    · have nw : ∀ k, k < T → h k ≠ j := fun k hk e => m ⟨k, hk, e⟩
      rw [C.m0 j (by omega) nw, if_pos rfl, n_ix (show j < 2048 by omega) (by omega), nar_1, vln]
      obtain ⟨a1, a2, a3⟩ := ext_inj C.hn C.inj jn nw
      have s15 : (rf_w ρ 77 j 1).1 0 113 = nI T := by rw [q_w (by decide)]; exact C.n3
      have s15' : (rf_w (rf_w ρ 77 j 1) 78 T (nI j)).1 0 113 = nI T := by rw [q_w (by decide)]; exact s15
      rw [s15, n_ix (show T < 4100 by omega) (by omega), n_cl (show T < 2147483648 by omega), vln, s15', vln, show nI T + (1:Int32) = nI (T + 1) from n_add T 1]
      refine ⟨_, T + 1, va_up h T j, L, rfl, ⟨q_ws, ?_, C.lb, fun k hk => ?_, fun k hk => ?_, fun i hi q => ?_, a1, a2⟩, ⟨fun d h1 h2 h3 => by rw [q_w h1, q_w h3, q_w h2], fun j h1 h2 => by rw [q_wk h1, q_w (by decide), q_w (by decide)], rfl⟩, by omega, ⟨fun i ⟨k, q1, q2⟩ => ⟨k, by omega, by rw [up_n (by omega)]; exact q2⟩, fun i ⟨k, q1, q2⟩ => ?_, fun i q => ?_, Or.inl ⟨j, jn, rfl, T, by omega, up_s⟩, fun v q => ⟨v, q, Nat.le_refl _⟩, Or.inl rfl⟩, fun k hk => up_n (by omega)⟩
      · rw [q_wk (by decide), q_w (by decide), q_w (by decide)]; exact C.l4
      · rw [q_w (by decide), g_q]
        by_cases c : k = T
        · rw [if_pos ⟨rfl, c⟩, c, up_s]
        · rw [if_neg (fun q => c q.2), q_w (by decide), up_n c]; exact C.stk k (by omega)
      · rw [q_w (by decide), q_w (by decide), g_q]
        by_cases c : k = T
        · rw [c, up_s, if_pos ⟨rfl, rfl⟩]
        · rw [up_n c, if_neg (fun q => nw k (by omega) q.2)]; exact C.m1 k (by omega)
      · have qj : j ≠ i := fun e => q T (by omega) (by rw [up_s]; exact e)
        rw [q_w (by decide), q_w (by decide), q_wk (fun e => qj e.symm)]
        exact C.m0 i hi (fun k hk e => q k (by omega) (by rw [up_n (by omega)]; exact e))
      · by_cases c : k = T
        · rw [c, up_s] at q2; exact Or.inr ⟨by omega, by rw [q2]⟩
        · rw [up_n c] at q2; exact Or.inl ⟨k, by omega, q2⟩
      · rcases q with ⟨k, q0, q1, q2⟩ | ⟨⟨k, q1, q2⟩, q3⟩
        · exact ⟨k, q0, by omega, by rw [up_n (by omega)]; exact q2⟩
        · by_cases c : k = T
          · rw [c, up_s] at q2; exact ⟨T, ha, by omega, by rw [up_s]; exact q2⟩
          · rw [up_n c] at q2; exact absurd ⟨k, by omega, q2⟩ q3
  · rw [if_neg c1]
    exact out (Or.inr c1)
end Z2_X4
