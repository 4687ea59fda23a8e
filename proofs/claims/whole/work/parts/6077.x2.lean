section Z2_X2
variable {σ σ' : cl_S} {ρ ρ' : rf_S}
def opw (w : Int32) : Int32 := (w.toUInt32 >>> ((26:Int32).toUInt32 &&& Int32.toUInt32 31)).toInt32
def ofw (w : Int32) : Int32 := (w <<< ((14:Int32) &&& 31)) >>> ((14:Int32) &&& 31)
theorem ofw_b (w : Int32) : -131072 ≤ (ofw w).toInt ∧ (ofw w).toInt < 131072 := by
  unfold ofw
  generalize w <<< ((14:Int32) &&& 31) = y
  have h1 : (y >>> ((14:Int32) &&& 31)).toInt = y.toInt >>> 14 := by
    show (y >>> ((14:Int32) &&& 31)).toBitVec.toInt = _
    rw [Int32.toBitVec_shiftRight]
    show (y.toBitVec.sshiftRight' _).toInt = _
    unfold BitVec.sshiftRight'
    rw [BitVec.toInt_sshiftRight]
    rfl
  rw [h1, Int.shiftRight_eq_div_pow]
  have := y.toInt_lt
  have := y.le_toInt
  constructor <;> omega
theorem cl_neg {x : Int32} (h : x < 0) : x.toNatClampNeg = 0 := by
  have h2 := Int32.lt_iff_toInt_lt.mp h
  rw [show (0:Int32).toInt = 0 by decide] at h2
  show x.toInt.toNat = 0
  omega
/-- where a statement goes on -/
def tgs (f : Nat → Int32) (i : Nat) : List Int32 := (if opw (f i) = 36 then [] else [nI i + 1]) ++ (if opw (f i) < 30 then [] else if 36 < opw (f i) then [] else [nI i + ofw (f i)])
theorem tgs_b {f : Nat → Int32} {i : Nat} (hi : i < 2048) {x : Int32} (hx : x ∈ tgs f i) : x.toNatClampNeg < 1000000 := by
  have k : x = nI (i + 1) ∨ x = nI i + ofw (f i) := by
    unfold tgs at hx
    rcases List.mem_append.mp hx with q | q
    · by_cases c : opw (f i) = 36
      · rw [if_pos c] at q; cases q
      · rw [if_neg c] at q
        left
        rw [List.mem_singleton.mp q]
        exact n_add i 1
    · by_cases c : opw (f i) < 30
      · rw [if_pos c] at q; cases q
      · rw [if_neg c] at q
        by_cases c : 36 < opw (f i)
        · rw [if_pos c] at q; cases q
        · rw [if_neg c] at q
          exact Or.inr (List.mem_singleton.mp q)
  rcases k with rfl | rfl
  · rw [n_cl (by omega)]; omega
  · obtain ⟨b1, b2⟩ := ofw_b (f i)
    show (nI i + ofw (f i)).toInt.toNat < 1000000
    rw [Int32.toInt_add, n_toInt (by omega), Int.bmod_def]
    omega
/-- the class's search -/
def CS (n : Nat) (σ : cl_S) (T s : Nat) (h st : Nat → Nat) (L : Option Nat) : Prop := (σ.1 15 3 = nI n) ∧ (σ.1 15 2 = nI s) ∧ (σ.1 15 4 = L.elim 2147483647 nI) ∧ (∀ l, L = some l → l < 1000000) ∧ (∀ k, k < s → σ.1 17 k = nI (st k)) ∧ (∀ k, k < s → ∃ t, t < T ∧ h t = st k) ∧ (∀ k, k < T → σ.1 16 (h k) = 1) ∧ (∀ i, i < 2048 → (∀ k, k < T → h k ≠ i) → σ.1 16 i = 0) ∧ (∀ k, k < T → h k < n) ∧ (∀ a b, a < T → b < T → h a = h b → a = b) ∧ (s ≤ T)
theorem CS.n3 {n : Nat} {σ : cl_S} {T s : Nat} {h st : Nat → Nat} {L : Option Nat} (hS : CS n σ T s h st L) : σ.1 15 3 = nI n := hS.1
theorem CS.n2 {n : Nat} {σ : cl_S} {T s : Nat} {h st : Nat → Nat} {L : Option Nat} (hS : CS n σ T s h st L) : σ.1 15 2 = nI s := hS.2.1
theorem CS.l4 {n : Nat} {σ : cl_S} {T s : Nat} {h st : Nat → Nat} {L : Option Nat} (hS : CS n σ T s h st L) : σ.1 15 4 = L.elim 2147483647 nI := hS.2.2.1
theorem CS.lb {n : Nat} {σ : cl_S} {T s : Nat} {h st : Nat → Nat} {L : Option Nat} (hS : CS n σ T s h st L) : ∀ l, L = some l → l < 1000000 := hS.2.2.2.1
theorem CS.stk {n : Nat} {σ : cl_S} {T s : Nat} {h st : Nat → Nat} {L : Option Nat} (hS : CS n σ T s h st L) : ∀ k, k < s → σ.1 17 k = nI (st k) := hS.2.2.2.2.1
theorem CS.sm {n : Nat} {σ : cl_S} {T s : Nat} {h st : Nat → Nat} {L : Option Nat} (hS : CS n σ T s h st L) : ∀ k, k < s → ∃ t, t < T ∧ h t = st k := hS.2.2.2.2.2.1
theorem CS.m1 {n : Nat} {σ : cl_S} {T s : Nat} {h st : Nat → Nat} {L : Option Nat} (hS : CS n σ T s h st L) : ∀ k, k < T → σ.1 16 (h k) = 1 := hS.2.2.2.2.2.2.1
theorem CS.m0 {n : Nat} {σ : cl_S} {T s : Nat} {h st : Nat → Nat} {L : Option Nat} (hS : CS n σ T s h st L) : ∀ i, i < 2048 → (∀ k, k < T → h k ≠ i) → σ.1 16 i = 0 := hS.2.2.2.2.2.2.2.1
theorem CS.hn {n : Nat} {σ : cl_S} {T s : Nat} {h st : Nat → Nat} {L : Option Nat} (hS : CS n σ T s h st L) : ∀ k, k < T → h k < n := hS.2.2.2.2.2.2.2.2.1
theorem CS.inj {n : Nat} {σ : cl_S} {T s : Nat} {h st : Nat → Nat} {L : Option Nat} (hS : CS n σ T s h st L) : ∀ a b, a < T → b < T → h a = h b → a = b := hS.2.2.2.2.2.2.2.2.2.1
theorem CS.ss {n : Nat} {σ : cl_S} {T s : Nat} {h st : Nat → Nat} {L : Option Nat} (hS : CS n σ T s h st L) : s ≤ T := hS.2.2.2.2.2.2.2.2.2.2
def Mof (T : Nat) (h : Nat → Nat) (j : Nat) : Prop := ∃ k, k < T ∧ h k = j
def Fr3 (σ σ' : cl_S) : Prop := (∀ d, d ≠ 15 → d ≠ 16 → d ≠ 17 → σ'.1 d = σ.1 d) ∧ σ'.2 = σ.2
variable {n T s : Nat} {h st : Nat → Nat} {L : Option Nat}
theorem ext_inj {j : Nat} (hn : ∀ k, k < T → h k < n) (inj : ∀ a b, a < T → b < T → h a = h b → a = b) (hj : j < n) (nw : ∀ k, k < T → h k ≠ j) : (∀ k, k < T + 1 → va_up h T j k < n) ∧ (∀ a b, a < T + 1 → b < T + 1 → va_up h T j a = va_up h T j b → a = b) ∧ T + 1 ≤ n := by
  have u : ∀ k, k < T → va_up h T j k = h k := fun k hk => up_n (by omega)
  have a1 : ∀ k, k < T + 1 → va_up h T j k < n := by
    intro k hk
    by_cases c : k = T
    · rw [c, up_s]; exact hj
    · rw [u k (by omega)]; exact hn k (by omega)
  have a2 : ∀ a b, a < T + 1 → b < T + 1 → va_up h T j a = va_up h T j b → a = b := by
    intro a b ha hb e
    by_cases ca : a = T
    · by_cases cb : b = T
      · omega
      · rw [ca, up_s, u b (by omega)] at e; exact absurd e.symm (nw b (by omega))
    · by_cases cb : b = T
      · rw [cb, up_s, u a (by omega)] at e; exact absurd e (nw a (by omega))
      · rw [u a (by omega), u b (by omega)] at e; exact inj a b (by omega) (by omega) e
  exact ⟨a1, a2, pigeon n (T + 1) _ a1 a2⟩
theorem CS.reach (C : CS n σ T s h st L) (hn : n ≤ 2048) (x : Int32) (hx : x.toNatClampNeg < 1000000) : ∃ σ' T' s' h' st' L', fc_X7_reach 15 x σ = some σ' ∧ CS n σ' T' s' h' st' L' ∧ Fr3 σ σ' ∧ s' + T = s + T' ∧ RS n x (Mof T h) (Mof s st) L (Mof T' h') (Mof s' st') L' := by
  unfold fc_X7_reach bc_X7_reach_0 bc_X7_reach_12
  simp only [Nat.reduceAdd]
  -- out of the row
  have out : outx n x → ∃ σ' T' s' h' st' L', vl (cl_w σ 15 4 (if (if x < (0:Int32) then (0:Int32) else x) < (σ.1 15 4) then (if x < (0:Int32) then (0:Int32) else x) else (σ.1 15 4))) (fun σ_1 => some σ_1) = some σ' ∧ CS n σ' T' s' h' st' L' ∧ Fr3 σ σ' ∧ s' + T = s + T' ∧ RS n x (Mof T h) (Mof s st) L (Mof T' h') (Mof s' st') L' := by
    intro ho
    have ev : (if x < (0:Int32) then (0:Int32) else x) = nI x.toNatClampNeg := by
      by_cases c : x < 0
      · rw [if_pos c, cl_neg c]; rfl
      · rw [if_neg c]
        rcases n_cases x with q | ⟨m, hm, rfl⟩
        · exact absurd q c
        · rw [n_cl hm]
    rw [ev, C.l4, vln]
    have key : ∀ L', (if nI x.toNatClampNeg < L.elim 2147483647 nI then nI x.toNatClampNeg else L.elim 2147483647 nI) = L'.elim 2147483647 nI → (∀ l, L' = some l → l < 1000000) → RS n x (Mof T h) (Mof s st) L (Mof T h) (Mof s st) L' → ∃ σ' T' s' h' st' L', some (cl_w σ 15 4 (if nI x.toNatClampNeg < L.elim 2147483647 nI then nI x.toNatClampNeg else L.elim 2147483647 nI)) = some σ' ∧ CS n σ' T' s' h' st' L' ∧ Fr3 σ σ' ∧ s' + T = s + T' ∧ RS n x (Mof T h) (Mof s st) L (Mof T' h') (Mof s' st') L' := by
      intro L' e1 e2 e3
      refine ⟨_, T, s, h, st, L', rfl, ⟨by rw [r_wk (by decide)]; exact C.n3, by rw [r_wk (by decide)]; exact C.n2, by rw [r_ws]; exact e1, e2, by rw [r_w (by decide)]; exact C.stk, C.sm, by rw [r_w (by decide)]; exact C.m1, by rw [r_w (by decide)]; exact C.m0, C.hn, C.inj, C.ss⟩, ⟨fun d h1 _ _ => r_w h1, rfl⟩, rfl, e3⟩
    have mk : ∀ L', (∃ l, L' = some l ∧ l ≤ x.toNatClampNeg) → (∀ v, L = some v → ∃ v', L' = some v' ∧ v' ≤ v) → (L' = L ∨ L' = some x.toNatClampNeg) → RS n x (Mof T h) (Mof s st) L (Mof T h) (Mof s st) L' := fun L' a b c => ⟨fun _ q => q, fun _ q => Or.inl q, fun j q => by
      rcases q with q | q
      · exact q
      · exact absurd q.1 q.2, Or.inr ⟨ho, a⟩, b, c.imp id (fun q => ⟨ho, q⟩)⟩
    cases eL : L with
    | none =>
      refine eL ▸ key (some x.toNatClampNeg) ?_ (fun l q => by cases q; exact hx) (mk _ ⟨_, rfl, Nat.le_refl _⟩ (fun v q => by rw [eL] at q; cases q) (Or.inr rfl))
      rw [eL]
      exact if_pos (show nI x.toNatClampNeg < (2147483647:Int32) from (n_lt (a := x.toNatClampNeg) (b := 2147483647) (by omega) (by omega)).mpr (by omega))
    | some l =>
      have hl := C.lb l eL
      by_cases c : x.toNatClampNeg < l
      · refine eL ▸ key (some x.toNatClampNeg) ?_ (fun l q => by cases q; exact hx) (mk _ ⟨_, rfl, Nat.le_refl _⟩ (fun v q => ⟨_, rfl, by rw [eL] at q; have := Option.some.inj q; omega⟩) (Or.inr rfl))
        rw [eL]
        exact if_pos (show nI x.toNatClampNeg < nI l from (n_lt (by omega) (by omega)).mpr c)
      · refine eL ▸ key L ?_ C.lb (mk _ ⟨l, eL, by omega⟩ (fun v q => ⟨v, q, Nat.le_refl _⟩) (Or.inl rfl))
        rw [eL]
        exact if_neg (show ¬ nI x.toNatClampNeg < nI l from fun q => c ((n_lt (by omega) (by omega)).mp q))
  by_cases c0 : x < 0
  · rw [if_pos c0]
    exact out (Or.inl c0)
  rw [if_neg c0, C.n3]
  by_cases c1 : x < nI n
  · rw [if_pos c1]
    rcases n_cases x with q | ⟨j, hj, rfl⟩
    · exact absurd q c0
    have jn : j < n := (n_lt hj (by omega)).mp c1
    rw [n_ix (show j < 2048 by omega) (by omega), n_cl hj]
    by_cases m : ∃ k, k < T ∧ h k = j
    · obtain ⟨k, hk, ek⟩ := id m
      have := C.m1 k hk
      rw [ek] at this
      rw [this, if_neg (by decide)]
      exact ⟨σ, T, s, h, st, L, rfl, C, ⟨fun _ _ _ _ => rfl, rfl⟩, rfl, ⟨fun _ q => q, fun _ q => Or.inl q, fun i q => by
        rcases q with q | q
        · exact q
        · exact absurd q.1 q.2, Or.inl ⟨j, jn, rfl, m⟩, fun v q => ⟨v, q, Nat.le_refl _⟩, Or.inl rfl⟩⟩
    · have nw : ∀ k, k < T → h k ≠ j := fun k hk e => m ⟨k, hk, e⟩
      rw [C.m0 j (by omega) nw, if_pos rfl, n_ix (show j < 2048 by omega) (by omega), vln]
      obtain ⟨a1, a2, a3⟩ := ext_inj C.hn C.inj jn nw
      have ss := C.ss
      have s15 : (cl_w σ 16 j 1).1 15 2 = nI s := by rw [r_w (by decide)]; exact C.n2
      have s15' : (cl_w (cl_w σ 16 j 1) 17 s (nI j)).1 15 2 = nI s := by rw [r_w (by decide)]; exact s15
      rw [s15, n_ix (show s < 2048 by omega) (by omega), n_cl (show s < 2147483648 by omega), vln, s15', vln, show nI s + (1:Int32) = nI (s + 1) from n_add s 1]
      refine ⟨_, T + 1, s + 1, va_up h T j, va_up st s j, L, rfl, ⟨?_, r_ws, ?_, C.lb, fun k hk => ?_, fun k hk => ?_, fun k hk => ?_, fun i hi q => ?_, a1, a2, by omega⟩, ⟨fun d h1 h2 h3 => by rw [r_w h1, r_w h3, r_w h2], rfl⟩, by omega, ⟨fun i ⟨k, q1, q2⟩ => ⟨k, by omega, by rw [up_n (by omega)]; exact q2⟩, fun i ⟨k, q1, q2⟩ => ?_, fun i q => ?_, Or.inl ⟨j, jn, rfl, T, by omega, up_s⟩, fun v q => ⟨v, q, Nat.le_refl _⟩, Or.inl rfl⟩⟩
      · rw [r_wk (by decide), r_w (by decide), r_w (by decide)]; exact C.n3
      · rw [r_wk (by decide), r_w (by decide), r_w (by decide)]; exact C.l4
      · rw [r_w (by decide), g_w]
        by_cases c : k = s
        · rw [if_pos ⟨rfl, c⟩, c, up_s]
        · rw [if_neg (fun q => c q.2), r_w (by decide), up_n c]; exact C.stk k (by omega)
      · by_cases c : k = s
        · rw [c, up_s]; exact ⟨T, by omega, up_s⟩
        · obtain ⟨t, q1, q2⟩ := C.sm k (by omega)
          rw [up_n c]; exact ⟨t, by omega, by rw [up_n (by omega)]; exact q2⟩
      · rw [r_w (by decide), r_w (by decide), g_w]
        by_cases c : k = T
        · rw [c, up_s, if_pos ⟨rfl, rfl⟩]
        · rw [up_n c, if_neg (fun q => nw k (by omega) q.2)]; exact C.m1 k (by omega)
      · have qj : j ≠ i := fun e => q T (by omega) (by rw [up_s]; exact e)
        rw [r_w (by decide), r_w (by decide), r_wk (fun e => qj e.symm)]
        exact C.m0 i hi (fun k hk e => q k (by omega) (by rw [up_n (by omega)]; exact e))
      · by_cases c : k = T
        · rw [c, up_s] at q2; exact Or.inr ⟨by omega, by rw [q2]⟩
        · rw [up_n c] at q2; exact Or.inl ⟨k, by omega, q2⟩
      · rcases q with ⟨k, q1, q2⟩ | ⟨⟨k, q1, q2⟩, q3⟩
        · exact ⟨k, by omega, by rw [up_n (by omega)]; exact q2⟩
        · by_cases c : k = T
          · rw [c, up_s] at q2; exact ⟨s, by omega, by rw [up_s]; exact q2⟩
          · rw [up_n c] at q2; exact absurd ⟨k, by omega, q2⟩ q3
  · rw [if_neg c1]
    exact out (Or.inr c1)
end Z2_X2
