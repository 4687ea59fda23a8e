section Z2_J
/-! LAYER 2: what is known -/
/-- who there is; who is known at first; what opens; what opens with a key; what can be put together; its parts -/
abbrev Gr : Type := (Nat → Prop) × (Nat → Prop) × (Nat → Nat → Prop) × (Nat → Nat → Nat → Prop) × (Nat → Prop) × (Nat → Nat → Prop)
def Gr.V (G : Gr) : Nat → Prop := G.1
def Gr.bs (G : Gr) : Nat → Prop := G.2.1
def Gr.o1 (G : Gr) : Nat → Nat → Prop := G.2.2.1
def Gr.o2 (G : Gr) : Nat → Nat → Nat → Prop := G.2.2.2.1
def Gr.cm (G : Gr) : Nat → Prop := G.2.2.2.2.1
def Gr.P (G : Gr) : Nat → Nat → Prop := G.2.2.2.2.2
def Kn (G : Gr) : Nat → Nat → Prop
  | 0, x => G.V x ∧ G.bs x
  | r + 1, x => Kn G r x ∨ (G.V x ∧ ((∃ y, Kn G r y ∧ G.o1 y x) ∨ (∃ y k, Kn G r y ∧ Kn G r k ∧ G.o2 y k x) ∨ (G.cm x ∧ ∀ y, G.P x y → Kn G r y)))
/-- v is the least round of x -/
def rdR (G : Gr) (far v : Int32) (x : Nat) : Prop := (v = far ∧ ∀ r, ¬ Kn G r x) ∨ ∃ r, r < 1000000000 ∧ v = nI r ∧ Kn G r x ∧ ∀ r', r' < r → ¬ Kn G r' x
def grC (σ : cl_S) (ts : List Nat) : Gr := (fun a => a ∈ ts, fun a => a ∈ ts ∧ (¬ σ.1 a 9 = 0 ∨ σ.1 a 0 = 0 ∨ σ.1 a 0 = 1), fun y x => y ∈ ts ∧ ((σ.1 y 0 = 3 ∧ (σ.2.2.1 y 3 = some x ∨ σ.2.2.1 y 4 = some x)) ∨ ((σ.1 y 0 = 7 ∨ σ.1 y 0 = 8) ∧ σ.2.2.1 y 4 = some x)), fun y k x => y ∈ ts ∧ σ.1 y 0 = 8 ∧ σ.2.2.1 y 3 = some k ∧ σ.2.2.1 y 5 = some x, fun x => x ∈ ts ∧ ¬ σ.2.2.1 x 3 = some 33, fun x y => x ∈ ts ∧ y ≠ 33 ∧ (σ.2.2.1 x 3 = some y ∨ σ.2.2.1 x 4 = some y ∨ σ.2.2.1 x 5 = some y))
def grQ (ρ : rf_S) (N : Nat) : Gr := (fun t => t < N, fun t => t < N ∧ (¬ ρ.1 6 t = 0 ∨ ρ.1 1 t = 0 ∨ ρ.1 1 t = 1), fun y x => y < N ∧ x < N ∧ ((ρ.1 1 y = 3 ∧ (ρ.1 2 y = nI x ∨ ρ.1 3 y = nI x)) ∨ ((ρ.1 1 y = 7 ∨ ρ.1 1 y = 8) ∧ ρ.1 3 y = nI x)), fun y k x => y < N ∧ k < N ∧ x < N ∧ ρ.1 1 y = 8 ∧ ρ.1 2 y = nI k ∧ ρ.1 4 y = nI x, fun x => x < N ∧ ¬ (ρ.1 1 x = 0 ∨ ρ.1 1 x = 1 ∨ ρ.1 1 x = 2), fun x y => x < N ∧ y < N ∧ ¬ (ρ.1 1 x = 0 ∨ ρ.1 1 x = 1 ∨ ρ.1 1 x = 2) ∧ (ρ.1 2 x = nI y ∨ (¬ (ρ.1 1 x = 4 ∨ ρ.1 1 x = 6) ∧ ρ.1 3 x = nI y) ∨ (ρ.1 1 x = 8 ∧ ρ.1 4 x = nI y)))
def JC (σ : cl_S) (ts : List Nat) : Prop := σ.1 31 8 = 0 ∨ (σ.1 31 8 = 1 ∧ ∀ a ∈ ts, rdR (grC σ ts) (-1) (σ.1 a 10) a)
/-- how many were told -/
def cb (f : Nat → Int32) : Nat → Nat
  | 0 => 0
  | n + 1 => cb f n + (if f n = 0 then 0 else 1)
def JQ (ρ : rf_S) (N : Nat) : Prop := ∃ bc, ρ.1 0 14 = nI bc ∧ bc + 1 = cb (ρ.1 6) N ∧ (ρ.1 0 15 = -1 ∨ ∃ kt, ρ.1 0 15 = nI kt ∧ kt ≤ N) ∧ (ρ.1 0 16 = -1 ∨ ∃ kb, ρ.1 0 16 = nI kb ∧ kb ≤ bc) ∧ (ρ.1 0 15 = nI N → ρ.1 0 16 = nI bc → ∀ t, t < N → rdR (grQ ρ N) 1000000000 (ρ.1 7 t) t)
/-- from n0 on no rows and nothing told; n0 tells besides how many secrets there were before -/
def nbd (n0 : Nat) : Nat := n0 % 1000000
def Xn (n0 : Nat) (ρ : rf_S) (N : Nat) : Prop := (∀ t, nbd n0 ≤ t → t < N → ρ.1 1 t ≠ nI 1 ∧ ρ.1 6 t = 0) ∧ (1000000 ≤ n0 → nbd n0 ≤ N ∧ ∀ t, t < nbd n0 → ρ.1 1 t = nI 2 → ∃ i, i < n0 / 1000000 - 1 ∧ ρ.1 2 t = nI i)
theorem nbd_s {n0 : Nat} (h : 112000 ≤ n0 ∧ n0 < 1000000) : nbd n0 = n0 := Nat.mod_eq_of_lt h.2
theorem Xn.cg {n0 : Nat} {ρ ρ' : rf_S} {N : Nat} (h : Xn n0 ρ N) (h1 : ∀ t, t < N → ρ'.1 1 t = ρ.1 1 t) (h2 : ∀ t, t < N → ρ'.1 2 t = ρ.1 2 t) (h6 : ∀ t, nbd n0 ≤ t → t < N → ρ'.1 6 t = ρ.1 6 t) : Xn n0 ρ' N := by
  refine ⟨fun t a b => by rw [h1 t b, h6 t a b]; exact h.1 t a b, fun w => ⟨(h.2 w).1, fun t a => ?_⟩⟩
  have := (h.2 w).1
  rw [h1 t (by omega), h2 t (by omega)]; exact (h.2 w).2 t a
theorem cb_le (f : Nat → Int32) (n : Nat) : cb f n ≤ n := by
  induction n with
  | zero => exact Nat.le_refl _
  | succ n ih => unfold cb; split <;> omega
theorem cb_cg {f g : Nat → Int32} {n : Nat} (h : ∀ t, t < n → g t = f t) : cb g n = cb f n := by
  induction n with
  | zero => rfl
  | succ n ih => unfold cb; rw [ih (fun t ht => h t (by omega)), h n (by omega)]
theorem cb_up {f g : Nat → Int32} {n t : Nat} (ht : t < n) (h : ∀ u, u ≠ t → g u = f u) (h0 : f t = 0) (h1 : ¬ g t = 0) : cb g n = cb f n + 1 := by
  induction n with
  | zero => omega
  | succ n ih =>
    unfold cb
    by_cases c : t = n
    · subst c
      rw [cb_cg (f := f) (fun u hu => h u (by omega)), if_neg h1, if_pos h0]
    · rw [ih (by omega), h n (by omega)]; omega
theorem n_m1 {a : Nat} (h : a < 2147483648) : nI a ≠ -1 := by
  intro q
  have q2 : (nI a).toInt = (-1:Int32).toInt := by rw [q]
  rw [n_toInt h, show (-1:Int32).toInt = -1 by decide] at q2
  omega
theorem grC_cg {σ σ' : cl_S} {ts : List Nat} (hI : ∀ a ∈ ts, σ'.1 a 0 = σ.1 a 0 ∧ σ'.1 a 9 = σ.1 a 9) (hR : ∀ a ∈ ts, ∀ j, 2 < j → j < 6 → σ'.2.2.1 a j = σ.2.2.1 a j) : grC σ' ts = grC σ ts := by
  have e : ∀ {P Q : Prop} {a : Nat}, (a ∈ ts → (P ↔ Q)) → (a ∈ ts ∧ P) = (a ∈ ts ∧ Q) := fun h => propext ⟨fun ⟨q, r⟩ => ⟨q, (h q).mp r⟩, fun ⟨q, r⟩ => ⟨q, (h q).mpr r⟩⟩
  unfold grC
  refine Prod.ext rfl (Prod.ext ?_ (Prod.ext ?_ (Prod.ext ?_ (Prod.ext ?_ ?_))))
  · funext a; exact e fun h => by rw [(hI a h).1, (hI a h).2]
  · funext y x; exact e fun h => by rw [(hI y h).1, hR y h 3 (by omega) (by omega), hR y h 4 (by omega) (by omega)]
  · funext y k x; exact e fun h => by rw [(hI y h).1, hR y h 3 (by omega) (by omega), hR y h 5 (by omega) (by omega)]
  · funext a; exact e fun h => by rw [hR a h 3 (by omega) (by omega)]
  · funext x y; exact e fun h => by rw [hR x h 3 (by omega) (by omega), hR x h 4 (by omega) (by omega), hR x h 5 (by omega) (by omega)]
theorem grQ_cg {ρ ρ' : rf_S} {N : Nat} (h : ∀ c, c = 1 ∨ c = 2 ∨ c = 3 ∨ c = 4 ∨ c = 6 → ∀ t, t < N → ρ'.1 c t = ρ.1 c t) : grQ ρ' N = grQ ρ N := by
  have e : ∀ {P Q : Prop} {a : Nat}, (a < N → (P ↔ Q)) → (a < N ∧ P) = (a < N ∧ Q) := fun h => propext ⟨fun ⟨q, r⟩ => ⟨q, (h q).mp r⟩, fun ⟨q, r⟩ => ⟨q, (h q).mpr r⟩⟩
  have h1 := h 1 (by omega)
  have h2 := h 2 (by omega)
  have h3 := h 3 (by omega)
  have h4 := h 4 (by omega)
  have h6 := h 6 (by omega)
  unfold grQ
  refine Prod.ext rfl (Prod.ext ?_ (Prod.ext ?_ (Prod.ext ?_ (Prod.ext ?_ ?_))))
  · funext a; exact e fun h => by rw [h1 a h, h6 a h]
  · funext y x; exact e fun h => by rw [h1 y h, h2 y h, h3 y h]
  · funext y k x; exact e fun h => by rw [h1 y h, h2 y h, h4 y h]
  · funext a; exact e fun h => by rw [h1 a h]
  · funext x y; exact e fun h => by rw [h1 x h, h2 x h, h3 x h, h4 x h]
theorem JC.cg {σ σ' : cl_S} {ts : List Nat} (h : JC σ ts) (hI : ∀ a ∈ ts, σ'.1 a 0 = σ.1 a 0 ∧ σ'.1 a 9 = σ.1 a 9 ∧ σ'.1 a 10 = σ.1 a 10) (hR : ∀ a ∈ ts, ∀ j, 2 < j → j < 6 → σ'.2.2.1 a j = σ.2.2.1 a j) (h8 : σ'.1 31 8 = σ.1 31 8) : JC σ' ts := by
  unfold JC
  rw [h8, grC_cg (fun a ha => ⟨(hI a ha).1, (hI a ha).2.1⟩) hR]
  rcases h with h | ⟨h, k⟩
  · exact Or.inl h
  · exact Or.inr ⟨h, fun a ha => by rw [(hI a ha).2.2]; exact k a ha⟩
theorem JQ.cg {ρ ρ' : rf_S} {N : Nat} (h : JQ ρ N) (hq : ∀ c, c = 1 ∨ c = 2 ∨ c = 3 ∨ c = 4 ∨ c = 6 ∨ c = 7 → ∀ t, t < N → ρ'.1 c t = ρ.1 c t) (hf : ∀ j, j = 14 ∨ j = 15 ∨ j = 16 → ρ'.1 0 j = ρ.1 0 j) : JQ ρ' N := by
  unfold JQ
  rw [hf 14 (by omega), hf 15 (by omega), hf 16 (by omega), grQ_cg (fun c hc => hq c (by omega)), cb_cg (hq 6 (by omega))]
  obtain ⟨bc, a1, a2, a3, a4, a5⟩ := h
  exact ⟨bc, a1, a2, a3, a4, fun q1 q2 t ht => by rw [hq 7 (by omega) t ht]; exact a5 q1 q2 t ht⟩
theorem JQ.add {ρ ρ' : rf_S} {N : Nat} {k a b c : Int32} {m : Nat} (h : JQ ρ N) (hN : N < 112000) (A : AddQ ρ ρ' N k a b c m) : JQ ρ' (N + 1) := by
  obtain ⟨bc, a1, a2, a3, a4, a5⟩ := h
  refine ⟨bc, by rw [A.f 14 (by decide)]; exact a1, ?_, ?_, by rw [A.f 16 (by decide)]; exact a4, ?_⟩
  · unfold cb
    rw [A.p6, if_pos rfl, cb_cg (f := ρ.1 6) (fun t ht => A.p 6 t (by omega) (by omega))]; exact a2
  · rw [A.f 15 (by decide)]
    rcases a3 with q | ⟨kt, q, hk⟩
    · exact Or.inl q
    · exact Or.inr ⟨kt, q, by omega⟩
  · intro q
    exfalso
    rw [A.f 15 (by decide)] at q
    rcases a3 with q' | ⟨kt, q', hk⟩
    · rw [q'] at q; exact n_m1 (by omega) q.symm
    · have := (n_eq (by omega) (by omega)).mp (q'.symm.trans q); omega
theorem JQ.tell {ρ ρ' : rf_S} {N t : Nat} (h : JQ ρ N) (hN : N ≤ 112000) (ht : t < N) (h6 : ∀ u, u ≠ t → ρ'.1 6 u = ρ.1 6 u) (h0 : ρ.1 6 t = 0) (h1 : ¬ ρ'.1 6 t = 0) (h14 : ρ'.1 0 14 = ρ.1 0 14 + 1) (h15 : ρ'.1 0 15 = ρ.1 0 15) (h16 : ρ'.1 0 16 = ρ.1 0 16) : JQ ρ' N := by
  obtain ⟨bc, a1, a2, a3, a4, a5⟩ := h
  have e := cb_up ht h6 h0 h1
  have l := cb_le (ρ'.1 6) N
  refine ⟨bc + 1, by rw [h14, a1]; exact n_add bc 1, by omega, by rw [h15]; exact a3, ?_, ?_⟩
  · rw [h16]
    rcases a4 with q | ⟨kt, q, hk⟩
    · exact Or.inl q
    · exact Or.inr ⟨kt, q, by omega⟩
  · intro _ q
    exfalso
    rw [h16] at q
    rcases a4 with q' | ⟨kt, q', hk⟩
    · rw [q'] at q; exact n_m1 (by omega) q.symm
    · have := (n_eq (by omega) (by omega)).mp (q'.symm.trans q); omega
theorem Xn.add {n0 : Nat} {ρ ρ' : rf_S} {N : Nat} {k : Nat} {a b c : Int32} {m : Nat} (h : Xn n0 ρ N) (hk : k < 10) (k1 : k ≠ 1) (A : AddQ ρ ρ' N (nI k) a b c m) : Xn n0 ρ' (N + 1) := by
  refine ⟨fun t h1 h2 => ?_, fun w => ⟨Nat.le_succ_of_le (h.2 w).1, fun t ht => ?_⟩⟩
  · by_cases q : t = N
    · subst q
      exact ⟨by rw [A.p1]; intro e; have := (n_eq (by omega) (by omega)).mp e; omega, A.p6⟩
    · rw [A.p 1 t (by omega) q, A.p 6 t (by omega) q]; exact h.1 t h1 (by omega)
  · have := (h.2 w).1
    rw [A.p 1 t (by omega) (by omega), A.p 2 t (by omega) (by omega)]; exact (h.2 w).2 t ht
end Z2_J
