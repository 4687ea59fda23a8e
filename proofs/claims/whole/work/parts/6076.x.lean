section Z2_X
/-! LAYER 2: SAFE -/
/-- a set of statements that holds the first and what follows -/
def clo (n : Nat) (tg : Nat → List Int32) (S : Nat → Prop) : Prop := S 0 ∧ ∀ i, i < n → S i → ∀ x, x ∈ tg i → ∀ j, j < n → x = nI j → S j
def Rch (n : Nat) (tg : Nat → List Int32) (i : Nat) : Prop := i < n ∧ ∀ S : Nat → Prop, clo n tg S → S i
def outx (n : Nat) (x : Int32) : Prop := x < 0 ∨ ¬ x < nI n
def Acc (n : Nat) (M : Nat → Prop) (L : Option Nat) (x : Int32) : Prop := (∃ j, j < n ∧ x = nI j ∧ M j) ∨ (outx n x ∧ ∃ l, L = some l ∧ l ≤ x.toNatClampNeg)
variable {n : Nat} {tg : Nat → List Int32} {M M' P P' : Nat → Prop} {L L' : Option Nat} {i : Nat} {x : Int32} {D : Int32 → Prop}
/-- the search: node i is being followed, its targets D are done -/
def Sf (n : Nat) (tg : Nat → List Int32) (M P : Nat → Prop) (L : Option Nat) (i : Nat) (D : Int32 → Prop) : Prop := (∀ j, M j → Rch n tg j) ∧ (M 0) ∧ (∀ j, M j → ¬ P j → j ≠ i → ∀ y, y ∈ tg j → Acc n M L y) ∧ (∀ y, D y → Acc n M L y) ∧ (∀ v, L = some v → ∃ j, Rch n tg j ∧ ∃ y, y ∈ tg j ∧ outx n y ∧ y.toNatClampNeg = v)
theorem Sf.m {n : Nat} {tg : Nat → List Int32} {M P : Nat → Prop} {L : Option Nat} {i : Nat} {D : Int32 → Prop} (hS : Sf n tg M P L i D) : ∀ j, M j → Rch n tg j := hS.1
theorem Sf.z {n : Nat} {tg : Nat → List Int32} {M P : Nat → Prop} {L : Option Nat} {i : Nat} {D : Int32 → Prop} (hS : Sf n tg M P L i D) : M 0 := hS.2.1
theorem Sf.c {n : Nat} {tg : Nat → List Int32} {M P : Nat → Prop} {L : Option Nat} {i : Nat} {D : Int32 → Prop} (hS : Sf n tg M P L i D) : ∀ j, M j → ¬ P j → j ≠ i → ∀ y, y ∈ tg j → Acc n M L y := hS.2.2.1
theorem Sf.d {n : Nat} {tg : Nat → List Int32} {M P : Nat → Prop} {L : Option Nat} {i : Nat} {D : Int32 → Prop} (hS : Sf n tg M P L i D) : ∀ y, D y → Acc n M L y := hS.2.2.2.1
theorem Sf.l {n : Nat} {tg : Nat → List Int32} {M P : Nat → Prop} {L : Option Nat} {i : Nat} {D : Int32 → Prop} (hS : Sf n tg M P L i D) : ∀ v, L = some v → ∃ j, Rch n tg j ∧ ∃ y, y ∈ tg j ∧ outx n y ∧ y.toNatClampNeg = v := hS.2.2.2.2
/-- a target is reached -/
def RS (n : Nat) (x : Int32) (M P : Nat → Prop) (L : Option Nat) (M' P' : Nat → Prop) (L' : Option Nat) : Prop := (∀ j, M j → M' j) ∧ (∀ j, M' j → M j ∨ (j < n ∧ x = nI j)) ∧ (∀ j, P j ∨ (M' j ∧ ¬ M j) → P' j) ∧ (Acc n M' L' x) ∧ (∀ v, L = some v → ∃ v', L' = some v' ∧ v' ≤ v) ∧ (L' = L ∨ (outx n x ∧ L' = some x.toNatClampNeg))
theorem RS.up {n : Nat} {x : Int32} {M P : Nat → Prop} {L : Option Nat} {M' P' : Nat → Prop} {L' : Option Nat} (hS : RS n x M P L M' P' L') : ∀ j, M j → M' j := hS.1
theorem RS.nw {n : Nat} {x : Int32} {M P : Nat → Prop} {L : Option Nat} {M' P' : Nat → Prop} {L' : Option Nat} (hS : RS n x M P L M' P' L') : ∀ j, M' j → M j ∨ (j < n ∧ x = nI j) := hS.2.1
theorem RS.pn {n : Nat} {x : Int32} {M P : Nat → Prop} {L : Option Nat} {M' P' : Nat → Prop} {L' : Option Nat} (hS : RS n x M P L M' P' L') : ∀ j, P j ∨ (M' j ∧ ¬ M j) → P' j := hS.2.2.1
theorem RS.ac {n : Nat} {x : Int32} {M P : Nat → Prop} {L : Option Nat} {M' P' : Nat → Prop} {L' : Option Nat} (hS : RS n x M P L M' P' L') : Acc n M' L' x := hS.2.2.2.1
theorem RS.lm {n : Nat} {x : Int32} {M P : Nat → Prop} {L : Option Nat} {M' P' : Nat → Prop} {L' : Option Nat} (hS : RS n x M P L M' P' L') : ∀ v, L = some v → ∃ v', L' = some v' ∧ v' ≤ v := hS.2.2.2.2.1
theorem RS.ln {n : Nat} {x : Int32} {M P : Nat → Prop} {L : Option Nat} {M' P' : Nat → Prop} {L' : Option Nat} (hS : RS n x M P L M' P' L') : L' = L ∨ (outx n x ∧ L' = some x.toNatClampNeg) := hS.2.2.2.2.2
theorem Acc.up (h : Acc n M L x) (h1 : ∀ j, M j → M' j) (h2 : ∀ v, L = some v → ∃ v', L' = some v' ∧ v' ≤ v) : Acc n M' L' x := by
  rcases h with ⟨j, a, b, c⟩ | ⟨a, l, b, c⟩
  · exact Or.inl ⟨j, a, b, h1 j c⟩
  · obtain ⟨v, d, e⟩ := h2 l b
    exact Or.inr ⟨a, v, d, Nat.le_trans e c⟩
theorem Sf.step (h : Sf n tg M P L i D) (hi : M i) (hx : x ∈ tg i) (r : RS n x M P L M' P' L') : Sf n tg M' P' L' i (fun y => y = x ∨ D y) := by
  have ri := h.m i hi
  refine ⟨fun j hj => ?_, r.up 0 h.z, fun j hj hp hne y hy => ?_, fun y hy => ?_, fun v hv => ?_⟩
  · rcases r.nw j hj with q | ⟨a, b⟩
    · exact h.m j q
    · exact ⟨a, fun S hS => hS.2 i ri.1 (ri.2 S hS) x hx j a b⟩
  · have hM : M j := by
      apply Classical.byContradiction
      intro q
      exact hp (r.pn j (Or.inr ⟨hj, q⟩))
    exact (h.c j hM (fun q => hp (r.pn j (Or.inl q))) hne y hy).up r.up r.lm
  · rcases hy with rfl | hy
    · exact r.ac
    · exact (h.d y hy).up r.up r.lm
  · rcases r.ln with q | ⟨a, b⟩
    · exact h.l v (by rw [← q]; exact hv)
    · rw [b] at hv
      exact ⟨i, ri, x, hx, a, Option.some.inj hv⟩
/-- what the search gives -/
theorem Sf.done (h : Sf n tg M P L n D) (hn : n < 2147483648) (hp : ∀ j, ¬ P j) : (∀ j, M j ↔ Rch n tg j) ∧ (∀ j, Rch n tg j → ∀ y, y ∈ tg j → outx n y → ∃ l, L = some l ∧ l ≤ y.toNatClampNeg) ∧ (∀ v, L = some v → ∃ j, Rch n tg j ∧ ∃ y, y ∈ tg j ∧ outx n y ∧ y.toNatClampNeg = v) := by
  have no : ∀ j, j < n → ¬ outx n (nI j) := by
    intro j hj q
    rcases q with q | q
    · exact n_nneg (by omega) q
    · exact q ((n_lt (by omega) hn).mpr hj)
  have cl : clo n tg M := ⟨h.z, fun j hj hM y hy k hk e => by
    rcases h.c j hM (hp j) (by omega) y hy with ⟨k', a, b, c⟩ | ⟨a, -⟩
    · have : k' = k := (n_eq (by omega) (by omega)).mp (b.symm.trans e)
      rw [← this]; exact c
    · rw [e] at a; exact absurd a (no k hk)⟩
  have iff : ∀ j, M j ↔ Rch n tg j := fun j => ⟨h.m j, fun q => q.2 M cl⟩
  refine ⟨iff, fun j hj y hy ho => ?_, h.l⟩
  rcases h.c j ((iff j).mpr hj) (hp j) (by have := hj.1; omega) y hy with ⟨k, a, b, c⟩ | ⟨-, q⟩
  · rw [b] at ho; exact absurd ho (no k a)
  · exact q
theorem Sf.same {M2 P2 : Nat → Prop} {L2 : Option Nat} {D2 : Int32 → Prop} (h : Sf n tg M P L n D) (h2 : Sf n tg M2 P2 L2 n D2) (hn : n < 2147483648) (hp : ∀ j, ¬ P j) (hp2 : ∀ j, ¬ P2 j) : (∀ j, M j ↔ M2 j) ∧ L = L2 := by
  obtain ⟨a1, a2, a3⟩ := h.done hn hp
  obtain ⟨b1, b2, b3⟩ := h2.done hn hp2
  refine ⟨fun j => (a1 j).trans (b1 j).symm, ?_⟩
  cases eL : L with
  | none =>
    cases eL2 : L2 with
    | none => rfl
    | some v =>
      obtain ⟨j, r, y, hy, ho, -⟩ := b3 v eL2
      obtain ⟨l, q, -⟩ := a2 j r y hy ho
      rw [eL] at q; cases q
  | some u =>
    obtain ⟨j, r, y, hy, ho, ev⟩ := a3 u eL
    obtain ⟨l, q, hl⟩ := b2 j r y hy ho
    obtain ⟨j', r', y', hy', ho', ev'⟩ := b3 l q
    obtain ⟨l', q', hl'⟩ := a2 j' r' y' hy' ho'
    rw [eL] at q'
    have : u = l' := Option.some.inj q'
    rw [q]
    exact congrArg some (by omega)
end Z2_X
