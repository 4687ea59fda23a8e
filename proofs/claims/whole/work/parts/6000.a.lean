section Z2_A
/-! LAYER 2: numbers -/
theorem li (n : Nat) : (OfNat.ofNat n : Int32) = nI n := rfl
theorem n_toInt {a : Nat} (h : a < 2147483648) : (nI a).toInt = (a : Int) := Int32.toInt_ofNat_of_lt h
theorem n_le {a b : Nat} (ha : a < 2147483648) (hb : b < 2147483648) : nI a ≤ nI b ↔ a ≤ b := by
  rw [Int32.le_iff_toInt_le, n_toInt ha, n_toInt hb]; omega
theorem n_lt {a b : Nat} (ha : a < 2147483648) (hb : b < 2147483648) : nI a < nI b ↔ a < b := by
  rw [Int32.lt_iff_toInt_lt, n_toInt ha, n_toInt hb]; omega
theorem n_eq {a b : Nat} (ha : a < 2147483648) (hb : b < 2147483648) : nI a = nI b ↔ a = b := by
  rw [← Int32.toInt_inj, n_toInt ha, n_toInt hb]; omega
theorem n_add (a b : Nat) : nI a + nI b = nI (a + b) := nI_add a b
theorem n_mul (a b : Nat) : nI a * nI b = nI (a * b) := (Int32.ofNat_mul a b).symm
theorem n_sub {a b : Nat} (h : b ≤ a) : nI a - nI b = nI (a - b) := by
  have e : nI a = nI (a - b) + nI b := by rw [n_add]; congr 1; omega
  rw [e, Int32.add_sub_cancel]
theorem n_cl {a : Nat} (h : a < 2147483648) : (nI a).toNatClampNeg = a := nI_clamp h
theorem n_in {a n : Nat} (h : a < n) (hn : n < 2147483648) : vp_in (nI a) n := nI_in h hn
theorem n_ix {α : Type} {a n : Nat} {x : Option α} (h : a < n) (hn : n < 2147483648) : ix (nI a) n x = x := ix_in (n_in h hn)
theorem n_cases (x : Int32) : x < nI 0 ∨ ∃ m, m < 2147483648 ∧ x = nI m := by
  by_cases h : x < nI 0
  · exact Or.inl h
  · refine Or.inr ⟨x.toInt.toNat, ?_, ?_⟩
    · have := Int32.toInt_lt x; omega
    · rw [Int32.lt_iff_toInt_lt, n_toInt (by omega)] at h
      rw [← Int32.toInt_inj, n_toInt (by have := Int32.toInt_lt x; omega)]
      omega
theorem n_neg {x : Int32} {m : Nat} (h : x < nI 0) (hm : m < 2147483648) : x < nI m ∧ x ≤ nI m ∧ ¬ nI m ≤ x ∧ ¬ nI m < x ∧ ¬ x = nI m ∧ ¬ nI m = x := by
  rw [Int32.lt_iff_toInt_lt, n_toInt (by omega)] at h
  rw [Int32.lt_iff_toInt_lt, Int32.lt_iff_toInt_lt, Int32.le_iff_toInt_le, Int32.le_iff_toInt_le, ← Int32.toInt_inj, ← Int32.toInt_inj, n_toInt hm]
  omega
theorem vl_eq {α β : Type} (a : α) (f : α → β) : vl a f = f a := rfl
theorem bd1_eq {α β : Type} (a : α) (f : α → Option β) : bd1 (some a) f = f a := rfl
theorem bd2_eq {α β γ : Type} (a : α) (b : β) (f : α → β → Option γ) : bd2 (some (a, b)) f = f a b := rfl
theorem nn_eq {α : Type} (a : Nat) (f : Nat → Option α) : nn (some a) f = f a := rfl
theorem nb_0 {α : Type} (x : Option α) : nb (nI 0) x = x := if_pos rfl
theorem nb_1 {α : Type} (x : Option α) : nb (nI 1) x = x := if_pos rfl
/-! rows -/
theorem r_w {σ : cl_S} {a k b : Nat} {v : Int32} (h : b ≠ a) : (cl_w σ a k v).1 b = σ.1 b := funext fun j => up2_a h
theorem r_wk {σ : cl_S} {a k j : Nat} {v : Int32} (h : j ≠ k) : (cl_w σ a k v).1 a j = σ.1 a j := up2_k h
theorem r_ws {σ : cl_S} {a k : Nat} {v : Int32} : (cl_w σ a k v).1 a k = v := up2_s
theorem r_wL {σ : cl_S} {a k : Nat} {v : Int32} : (cl_w σ a k v).2 = σ.2 := rfl
theorem r_lI {σ : cl_S} {a k : Nat} {v : Int64} : (cl_wl σ a k v).1 = σ.1 := rfl
theorem r_l {σ : cl_S} {a k b : Nat} {v : Int64} (h : b ≠ a) : (cl_wl σ a k v).2.1 b = σ.2.1 b := funext fun j => up2_a h
theorem r_lk {σ : cl_S} {a k j : Nat} {v : Int64} (h : j ≠ k) : (cl_wl σ a k v).2.1 a j = σ.2.1 a j := up2_k h
theorem r_ls {σ : cl_S} {a k : Nat} {v : Int64} : (cl_wl σ a k v).2.1 a k = v := up2_s
theorem r_lR {σ : cl_S} {a k : Nat} {v : Int64} : (cl_wl σ a k v).2.2 = σ.2.2 := rfl
theorem r_rI {σ : cl_S} {a k : Nat} {v : Option Nat} : (cl_wr σ a k v).1 = σ.1 := rfl
theorem r_rL {σ : cl_S} {a k : Nat} {v : Option Nat} : (cl_wr σ a k v).2.1 = σ.2.1 := rfl
theorem r_r {σ : cl_S} {a k b : Nat} {v : Option Nat} (h : b ≠ a) : (cl_wr σ a k v).2.2.1 b = σ.2.2.1 b := funext fun j => up2_a h
theorem r_rk {σ : cl_S} {a k j : Nat} {v : Option Nat} (h : j ≠ k) : (cl_wr σ a k v).2.2.1 a j = σ.2.2.1 a j := up2_k h
theorem r_rs {σ : cl_S} {a k : Nat} {v : Option Nat} : (cl_wr σ a k v).2.2.1 a k = v := up2_s
theorem r_rT {σ : cl_S} {a k : Nat} {v : Option Nat} : (cl_wr σ a k v).2.2.2 = σ.2.2.2 := rfl
theorem r_cT {σ : cl_S} {a b : Nat} {x y n : Int32} : (cl_cp σ a b x y n).2 = σ.2 := rfl
theorem r_c {σ : cl_S} {a b d : Nat} {x y n : Int32} (h : d ≠ b) : (cl_cp σ a b x y n).1 d = σ.1 d := funext fun j => if_neg h
theorem r_cs {σ : cl_S} {a b : Nat} {x y n : Int32} : (cl_cp σ a b x y n).1 b = va_cpy (σ.1 a) (σ.1 b) x.toNatClampNeg y.toNatClampNeg n.toNatClampNeg := funext fun j => if_pos rfl
theorem q_w {ρ : rf_S} {a k b : Nat} {v : Int32} (h : b ≠ a) : (rf_w ρ a k v).1 b = ρ.1 b := funext fun j => up2_a h
theorem q_wk {ρ : rf_S} {a k j : Nat} {v : Int32} (h : j ≠ k) : (rf_w ρ a k v).1 a j = ρ.1 a j := up2_k h
theorem q_ws {ρ : rf_S} {a k : Nat} {v : Int32} : (rf_w ρ a k v).1 a k = v := up2_s
theorem q_wL {ρ : rf_S} {a k : Nat} {v : Int32} : (rf_w ρ a k v).2 = ρ.2 := rfl
theorem q_lI {ρ : rf_S} {a k : Nat} {v : Int64} : (rf_wl ρ a k v).1 = ρ.1 := rfl
theorem q_l {ρ : rf_S} {a k b : Nat} {v : Int64} (h : b ≠ a) : (rf_wl ρ a k v).2 b = ρ.2 b := funext fun j => up2_a h
theorem q_lk {ρ : rf_S} {a k j : Nat} {v : Int64} (h : j ≠ k) : (rf_wl ρ a k v).2 a j = ρ.2 a j := up2_k h
theorem q_ls {ρ : rf_S} {a k : Nat} {v : Int64} : (rf_wl ρ a k v).2 a k = v := up2_s
theorem g_w {σ : cl_S} {a k b j : Nat} {v : Int32} : (cl_w σ a k v).1 b j = if b = a ∧ j = k then v else σ.1 b j := rfl
theorem g_l {σ : cl_S} {a k b j : Nat} {v : Int64} : (cl_wl σ a k v).2.1 b j = if b = a ∧ j = k then v else σ.2.1 b j := rfl
theorem g_r {σ : cl_S} {a k b j : Nat} {v : Option Nat} : (cl_wr σ a k v).2.2.1 b j = if b = a ∧ j = k then v else σ.2.2.1 b j := rfl
theorem g_q {ρ : rf_S} {a k b j : Nat} {v : Int32} : (rf_w ρ a k v).1 b j = if b = a ∧ j = k then v else ρ.1 b j := rfl
theorem g_ql {ρ : rf_S} {a k b j : Nat} {v : Int64} : (rf_wl ρ a k v).2 b j = if b = a ∧ j = k then v else ρ.2 b j := rfl
/-! loops -/
theorem lp_ok {S X : Type} {b : S → Option (S ⊕ X)} (I : Nat → S → Prop) (Q : X → Prop) (h : ∀ m s, I m s → (∃ t m', b s = some (.inl t) ∧ m' < m ∧ I m' t) ∨ (∃ x, b s = some (.inr x) ∧ Q x)) : ∀ m s, I m s → ∃ x, lp b s = some x ∧ Q x := by
  intro m
  induction m using Nat.strongRecOn with
  | ind m ih =>
    intro s hs
    rcases h m s hs with ⟨t, m', e, hm, hi⟩ | ⟨x, e, q⟩
    · rw [lp_next e]; exact ih m' hm t hi
    · exact ⟨x, lp_end e, q⟩
theorem lp_sim {S X S' X' : Type} {b : S → Option (S ⊕ X)} {b' : S' → Option (S' ⊕ X')} (I : Nat → S → S' → Prop) (Q : X → X' → Prop) (h : ∀ m s s', I m s s' → (∃ t t' m', b s = some (.inl t) ∧ b' s' = some (.inl t') ∧ m' < m ∧ I m' t t') ∨ (∃ x x', b s = some (.inr x) ∧ b' s' = some (.inr x') ∧ Q x x')) : ∀ m s s', I m s s' → ∃ x x', lp b s = some x ∧ lp b' s' = some x' ∧ Q x x' := by
  intro m
  induction m using Nat.strongRecOn with
  | ind m ih =>
    intro s s' hs
    rcases h m s s' hs with ⟨t, t', m', e, e', hm, hi⟩ | ⟨x, x', e, e', q⟩
    · rw [lp_next e, lp_next e']; exact ih m' hm t t' hi
    · exact ⟨x, x', lp_end e, lp_end e', q⟩
/-- two computations end, and their ends are related -/
def Sim {α β : Type} (x : Option α) (y : Option β) (P : α → β → Prop) : Prop := ∃ u v, x = some u ∧ y = some v ∧ P u v
theorem Sim.mk {α β : Type} {u : α} {v : β} {P : α → β → Prop} (h : P u v) : Sim (some u) (some v) P := ⟨u, v, rfl, rfl, h⟩
theorem Sim.imp {α β : Type} {x : Option α} {y : Option β} {P Q : α → β → Prop} (h : Sim x y P) (k : ∀ u v, P u v → Q u v) : Sim x y Q := by
  obtain ⟨u, v, e, e', p⟩ := h
  exact ⟨u, v, e, e', k u v p⟩
theorem Sim.lp {S X S' X' : Type} {b : S → Option (S ⊕ X)} {b' : S' → Option (S' ⊕ X')} {s : S} {s' : S'} {Q : X → X' → Prop} (I : Nat → S → S' → Prop) (m : Nat) (h0 : I m s s') (h : ∀ m s s', I m s s' → (∃ t t' m', b s = some (.inl t) ∧ b' s' = some (.inl t') ∧ m' < m ∧ I m' t t') ∨ (∃ x x', b s = some (.inr x) ∧ b' s' = some (.inr x') ∧ Q x x')) : Sim (Pilot.CPartHouseLaw_law_r5643_e0db28.lp b s) (Pilot.CPartHouseLaw_law_r5643_e0db28.lp b' s') Q := lp_sim I Q h m s s' h0
theorem Sim.bind {α β γ δ : Type} {x : Option α} {y : Option β} {P : α → β → Prop} {f : α → Option γ} {g : β → Option δ} {Q : γ → δ → Prop} (h : Sim x y P) (k : ∀ u v, P u v → Sim (f u) (g v) Q) : Sim (x.bind f) (y.bind g) Q := by
  obtain ⟨u, v, rfl, rfl, p⟩ := h
  exact k u v p
theorem Sim.bd2 {α β γ α' β' γ' : Type} {x : Option (α × β)} {y : Option (α' × β')} {P : α × β → α' × β' → Prop} {f : α → β → Option γ} {g : α' → β' → Option γ'} {Q : γ → γ' → Prop} (h : Sim x y P) (k : ∀ u v u' v', P (u, v) (u', v') → Sim (f u v) (g u' v') Q) : Sim (Pilot.CPartHouseLaw_law_r5643_e0db28.bd2 x f) (Pilot.CPartHouseLaw_law_r5643_e0db28.bd2 y g) Q := by
  obtain ⟨⟨u, v⟩, ⟨u', v'⟩, rfl, rfl, p⟩ := h
  exact k u v u' v' p
theorem Sim.bd1 {α β γ δ : Type} {x : Option α} {y : Option β} {P : α → β → Prop} {f : α → Option γ} {g : β → Option δ} {Q : γ → δ → Prop} (h : Sim x y P) (k : ∀ u v, P u v → Sim (f u) (g v) Q) : Sim (Pilot.CPartHouseLaw_law_r5643_e0db28.bd1 x f) (Pilot.CPartHouseLaw_law_r5643_e0db28.bd1 y g) Q := by
  obtain ⟨u, v, rfl, rfl, p⟩ := h
  exact k u v p
/-- the same question on both sides -/
theorem Sim.ite {α β : Type} {c d : Prop} [Decidable c] [Decidable d] {x x' : Option α} {y y' : Option β} {P : α → β → Prop} (e : c ↔ d) (h : c → d → Sim x y P) (h' : ¬ c → ¬ d → Sim x' y' P) : Sim (if c then x else x') (if d then y else y') P := by
  by_cases q : c
  · rw [if_pos q, if_pos (e.mp q)]; exact h q (e.mp q)
  · rw [if_neg q, if_neg (fun k => q (e.mpr k))]; exact h' q (fun k => q (e.mpr k))
theorem Sim.iteL {α β : Type} {c : Prop} [Decidable c] {x x' : Option α} {y : Option β} {P : α → β → Prop} (h : c → Sim x y P) (h' : ¬ c → Sim x' y P) : Sim (if c then x else x') y P := by
  by_cases q : c
  · rw [if_pos q]; exact h q
  · rw [if_neg q]; exact h' q
theorem Sim.iteR {α β : Type} {c : Prop} [Decidable c] {x : Option α} {y y' : Option β} {P : α → β → Prop} (h : c → Sim x y P) (h' : ¬ c → Sim x y' P) : Sim x (if c then y else y') P := by
  by_cases q : c
  · rw [if_pos q]; exact h q
  · rw [if_neg q]; exact h' q
end Z2_A
