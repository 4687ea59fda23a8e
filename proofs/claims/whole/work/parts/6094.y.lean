section Z2_Y
/-! LAYER 2: WHAT IS KNOWN, by a queue -/
theorem Kn.mono {G : Gr} {r s x : Nat} (h : Kn G r x) (hs : r ≤ s) : Kn G s x := by
  induction s with
  | zero => rw [show r = 0 by omega] at h; exact h
  | succ s ih =>
    by_cases c : r = s + 1
    · rw [← c]; exact h
    · exact Or.inl (ih (by omega))
theorem Kn.V {G : Gr} {r x : Nat} (h : Kn G r x) : G.V x := by
  induction r with
  | zero => exact h.1
  | succ r ih => rcases h with h | h; exact ih h; exact h.1
def vv (v : Nat → Option Nat) (a : Nat) : Nat := (v a).getD 0
def BF (G : Gr) (v : Nat → Option Nat) (p q : List Nat) : Prop := ((p ++ q).Nodup) ∧ (∀ x, x ∈ p ++ q ↔ ∃ s, v x = some s) ∧ (∀ x s, v x = some s → Kn G s x) ∧ (∀ x s, v x = some s → s ≤ p.length) ∧ ((p ++ q).Pairwise (fun a b => vv v a ≤ vv v b)) ∧ (∀ a, a ∈ q → ∀ b, b ∈ p ++ q → vv v b ≤ vv v a + 1) ∧ (∀ x, G.V x → G.bs x → v x = some 0) ∧ (∀ y, y ∈ p → ∀ x, G.V x → G.o1 y x → ∃ s, v x = some s ∧ s ≤ vv v y + 1) ∧ (∀ y, y ∈ p → ∀ k, k ∈ p → ∀ x, G.V x → G.o2 y k x → ∃ s, v x = some s ∧ (s ≤ vv v y + 1 ∨ s ≤ vv v k + 1)) ∧ (∀ x, G.V x → G.cm x → (∀ y, G.P x y → y ∈ p) → ∃ s, v x = some s ∧ ∃ y, G.P x y ∧ s ≤ vv v y + 1)
theorem BF.nd {G : Gr} {v : Nat → Option Nat} {p q : List Nat} (hS : BF G v p q) : (p ++ q).Nodup := hS.1
theorem BF.kn {G : Gr} {v : Nat → Option Nat} {p q : List Nat} (hS : BF G v p q) : ∀ x, x ∈ p ++ q ↔ ∃ s, v x = some s := hS.2.1
theorem BF.so {G : Gr} {v : Nat → Option Nat} {p q : List Nat} (hS : BF G v p q) : ∀ x s, v x = some s → Kn G s x := hS.2.2.1
theorem BF.sm {G : Gr} {v : Nat → Option Nat} {p q : List Nat} (hS : BF G v p q) : ∀ x s, v x = some s → s ≤ p.length := hS.2.2.2.1
theorem BF.mo {G : Gr} {v : Nat → Option Nat} {p q : List Nat} (hS : BF G v p q) : (p ++ q).Pairwise (fun a b => vv v a ≤ vv v b) := hS.2.2.2.2.1
theorem BF.gap {G : Gr} {v : Nat → Option Nat} {p q : List Nat} (hS : BF G v p q) : ∀ a, a ∈ q → ∀ b, b ∈ p ++ q → vv v b ≤ vv v a + 1 := hS.2.2.2.2.2.1
theorem BF.bs {G : Gr} {v : Nat → Option Nat} {p q : List Nat} (hS : BF G v p q) : ∀ x, G.V x → G.bs x → v x = some 0 := hS.2.2.2.2.2.2.1
theorem BF.c1 {G : Gr} {v : Nat → Option Nat} {p q : List Nat} (hS : BF G v p q) : ∀ y, y ∈ p → ∀ x, G.V x → G.o1 y x → ∃ s, v x = some s ∧ s ≤ vv v y + 1 := hS.2.2.2.2.2.2.2.1
theorem BF.c2 {G : Gr} {v : Nat → Option Nat} {p q : List Nat} (hS : BF G v p q) : ∀ y, y ∈ p → ∀ k, k ∈ p → ∀ x, G.V x → G.o2 y k x → ∃ s, v x = some s ∧ (s ≤ vv v y + 1 ∨ s ≤ vv v k + 1) := hS.2.2.2.2.2.2.2.2.1
theorem BF.c3 {G : Gr} {v : Nat → Option Nat} {p q : List Nat} (hS : BF G v p q) : ∀ x, G.V x → G.cm x → (∀ y, G.P x y → y ∈ p) → ∃ s, v x = some s ∧ ∃ y, G.P x y ∧ s ≤ vv v y + 1 := hS.2.2.2.2.2.2.2.2.2
/-- at the end the rounds are the least -/
theorem BF.le {G : Gr} {v : Nat → Option Nat} {p : List Nat} (B : BF G v p []) : ∀ r x, Kn G r x → ∃ s, v x = some s ∧ s ≤ r := by
  have inp : ∀ {x s}, v x = some s → x ∈ p := fun e => by have := (B.kn _).mpr ⟨_, e⟩; rw [List.append_nil] at this; exact this
  have vvs : ∀ {x s}, v x = some s → vv v x = s := fun e => by unfold vv; rw [e]; rfl
  intro r
  induction r with
  | zero => intro x h; exact ⟨0, B.bs x h.1 h.2, Nat.le_refl _⟩
  | succ r ih =>
    intro x h
    rcases h with h | ⟨hV, h⟩
    · obtain ⟨s, e, l⟩ := ih x h
      exact ⟨s, e, by omega⟩
    rcases h with ⟨y, hy, o⟩ | ⟨y, k, hy, hk, o⟩ | ⟨hc, hP⟩
    · obtain ⟨s, e, l⟩ := ih y hy
      obtain ⟨t, e', l'⟩ := B.c1 y (inp e) x hV o
      rw [vvs e] at l'
      exact ⟨t, e', by omega⟩
    · obtain ⟨s, e, l⟩ := ih y hy
      obtain ⟨s2, e2, l2⟩ := ih k hk
      obtain ⟨t, e', l'⟩ := B.c2 y (inp e) k (inp e2) x hV o
      rw [vvs e, vvs e2] at l'
      exact ⟨t, e', by omega⟩
    · obtain ⟨t, e', y, hy, l'⟩ := B.c3 x hV hc (fun y hy => by obtain ⟨s, e, l⟩ := ih y (hP y hy); exact inp e)
      obtain ⟨s, e, l⟩ := ih y (hP y hy)
      rw [vvs e] at l'
      exact ⟨t, e', by omega⟩
theorem BF.fin {G : Gr} {v : Nat → Option Nat} {p : List Nat} (B : BF G v p []) (x : Nat) : (v x = none ∧ ∀ r, ¬ Kn G r x) ∨ ∃ s, v x = some s ∧ Kn G s x ∧ ∀ r, r < s → ¬ Kn G r x := by
  cases e : v x with
  | none => exact Or.inl ⟨rfl, fun r h => by obtain ⟨s, e', -⟩ := B.le r x h; rw [e] at e'; cases e'⟩
  | some s => exact Or.inr ⟨s, rfl, B.so x s e, fun r hr h => by obtain ⟨t, e', l⟩ := B.le r x h; rw [e] at e'; cases e'; omega⟩
/-- what was learnt while y was gone through -/
def Gw (G : Gr) (r : Nat) (v : Nat → Option Nat) (L : List Nat) (v' : Nat → Option Nat) (E : List Nat) : Prop := ((L ++ E).Nodup) ∧ (∀ x, x ∉ E → v' x = v x) ∧ (∀ x, x ∈ E → v' x = some (r + 1) ∧ Kn G (r + 1) x)
theorem Gw.nd {G : Gr} {r : Nat} {v : Nat → Option Nat} {L : List Nat} {v' : Nat → Option Nat} {E : List Nat} (hS : Gw G r v L v' E) : (L ++ E).Nodup := hS.1
theorem Gw.old {G : Gr} {r : Nat} {v : Nat → Option Nat} {L : List Nat} {v' : Nat → Option Nat} {E : List Nat} (hS : Gw G r v L v' E) : ∀ x, x ∉ E → v' x = v x := hS.2.1
theorem Gw.new {G : Gr} {r : Nat} {v : Nat → Option Nat} {L : List Nat} {v' : Nat → Option Nat} {E : List Nat} (hS : Gw G r v L v' E) : ∀ x, x ∈ E → v' x = some (r + 1) ∧ Kn G (r + 1) x := hS.2.2
theorem Gw.refl {G : Gr} {r : Nat} {v : Nat → Option Nat} {L : List Nat} (h : L.Nodup) : Gw G r v L v [] := ⟨by rw [List.append_nil]; exact h, fun _ _ => rfl, fun _ h => absurd h List.not_mem_nil⟩
theorem Gw.add {G : Gr} {r : Nat} {v v' v2 : Nat → Option Nat} {L E : List Nat} {x : Nat} (W : Gw G r v L v' E) (hx : x ∉ L ++ E) (hk : Kn G (r + 1) x) (e1 : v2 x = some (r + 1)) (e2 : ∀ y, y ≠ x → v2 y = v' y) : Gw G r v L v2 (E ++ [x]) := by
  refine ⟨?_, fun y hy => ?_, fun y hy => ?_⟩
  · rw [← List.append_assoc, List.nodup_append]
    exact ⟨W.nd, by simp, fun a ha b hb => by rw [List.mem_singleton.mp hb]; intro q; rw [q] at ha; exact hx ha⟩
  · rw [List.mem_append, List.mem_singleton, not_or] at hy
    rw [e2 y hy.2, W.old y hy.1]
  · rw [List.mem_append, List.mem_singleton] at hy
    by_cases c : y = x
    · rw [c]; exact ⟨e1, hk⟩
    · rw [e2 y c]; exact W.new y (hy.resolve_right c)
theorem BF.step {G : Gr} {v v' : Nat → Option Nat} {p q E : List Nat} {y : Nat} (B : BF G v p (y :: q)) (W : Gw G (vv v y) v (p ++ y :: q) v' E)
    (cmP : ∀ x, G.V x → G.cm x → ∃ z, G.P x z)
    (t1 : ∀ x, G.V x → G.o1 y x → x ∈ p ++ y :: q ++ E)
    (t2 : ∀ k, k ∈ p ++ [y] → ∀ x, G.V x → G.o2 y k x ∨ G.o2 k y x → x ∈ p ++ y :: q ++ E)
    (t3 : ∀ x, G.V x → G.cm x → G.P x y → (∀ z, G.P x z → z ∈ p ++ [y]) → x ∈ p ++ y :: q ++ E) : BF G v' (p ++ [y]) (q ++ E) := by
  have ap : (p ++ [y]) ++ (q ++ E) = p ++ y :: q ++ E := by simp
  have dj : ∀ a, a ∈ p ++ y :: q → a ∉ E := fun a ha hE => (List.nodup_append.mp W.nd).2.2 a ha a hE rfl
  have yL : y ∈ p ++ y :: q := by simp
  have sub : ∀ a, a ∈ p ++ [y] → a ∈ p ++ y :: q := fun a ha => by
    simp only [List.mem_append, List.mem_cons, List.not_mem_nil, or_false] at ha ⊢
    rcases ha with h | h
    · exact Or.inl h
    · exact Or.inr (Or.inl h)
  have vold : ∀ a, a ∈ p ++ y :: q → vv v' a = vv v a := fun a ha => by unfold vv; rw [W.old a (dj a ha)]
  have vnew : ∀ a, a ∈ E → vv v' a = vv v y + 1 := fun a ha => by show (v' a).getD 0 = _; rw [(W.new a ha).1]; rfl
  have vle : ∀ a, a ∈ p ++ y :: q ++ E → vv v' a ≤ vv v y + 1 := fun a ha => by
    rcases List.mem_append.mp ha with h | h
    · rw [vold a h]; exact B.gap y List.mem_cons_self a h
    · rw [vnew a h]; exact Nat.le_refl _
  have ge : ∀ a, a ∈ q → vv v y ≤ vv v a := fun a ha => by
    have := (List.pairwise_append.mp B.mo).2.1
    exact List.rel_of_pairwise_cons this ha
  have kn : ∀ x, x ∈ p ++ y :: q ++ E ↔ ∃ s, v' x = some s := by
    intro x
    by_cases c : x ∈ E
    · exact ⟨fun _ => ⟨_, (W.new x c).1⟩, fun _ => List.mem_append.mpr (Or.inr c)⟩
    · rw [W.old x c, ← B.kn x, List.mem_append]
      exact ⟨fun h => h.resolve_right c, Or.inl⟩
  have vsome : ∀ a, a ∈ p ++ y :: q ++ E → v' a = some (vv v' a) := fun a ha => by
    obtain ⟨s, e⟩ := (kn a).mp ha
    unfold vv; rw [e]; rfl
  have yv : vv v' y = vv v y := vold y yL
  refine ⟨by rw [ap]; exact W.nd, by rw [ap]; exact kn, ?_, ?_, ?_, ?_, ?_, ?_, ?_, ?_⟩
  · intro x s e
    by_cases c : x ∈ E
    · have w := W.new x c
      rw [w.1] at e; cases e; exact w.2
    · rw [W.old x c] at e; exact B.so x s e
  · intro x s e
    have hy : vv v y ≤ p.length := by
      obtain ⟨t, et⟩ := (B.kn y).mp yL
      unfold vv; rw [et]; exact B.sm y t et
    rw [List.length_append, List.length_singleton]
    by_cases c : x ∈ E
    · rw [(W.new x c).1] at e; cases e; omega
    · rw [W.old x c] at e; have := B.sm x s e; omega
  · rw [ap, List.pairwise_append]
    refine ⟨?_, ?_, ?_⟩
    · exact List.Pairwise.imp_of_mem (fun {a b} ha hb h => by rw [vold a ha, vold b hb]; exact h) B.mo
    · exact List.Pairwise.imp_of_mem (R := fun _ _ => True) (fun {a b} ha hb _ => by rw [vnew a ha, vnew b hb]; exact Nat.le_refl _) (List.pairwise_of_forall (fun _ _ => trivial))
    · intro a ha b hb
      rw [vnew b hb]
      exact vle a (List.mem_append.mpr (Or.inl ha))
  · rw [ap]
    intro a ha b hb
    have := vle b hb
    have : vv v y ≤ vv v' a := by
      rcases List.mem_append.mp ha with h | h
      · rw [vold a (by simp [h])]; exact ge a h
      · rw [vnew a h]; omega
    omega
  · intro x hV hb
    have := B.bs x hV hb
    have hx : x ∉ E := dj x ((B.kn x).mpr ⟨0, this⟩)
    rw [W.old x hx]; exact this
  · intro z hz x hV ho
    rcases List.mem_append.mp hz with h | h
    · obtain ⟨s, e, l⟩ := B.c1 z h x hV ho
      refine ⟨s, by rw [W.old x (dj x ((B.kn x).mpr ⟨s, e⟩))]; exact e, ?_⟩
      rw [vold z (sub z hz)]; exact l
    · rw [List.mem_singleton] at h
      subst h
      have hx := t1 x hV ho
      exact ⟨_, vsome x hx, by rw [yv]; exact vle x hx⟩
  · intro z hz k hk x hV ho
    by_cases cz : z = y
    · subst cz
      have hx := t2 k hk x hV (Or.inl ho)
      exact ⟨_, vsome x hx, Or.inl (by rw [yv]; exact vle x hx)⟩
    by_cases ck : k = y
    · subst ck
      have hx := t2 z hz x hV (Or.inr ho)
      exact ⟨_, vsome x hx, Or.inr (by rw [yv]; exact vle x hx)⟩
    have z' : z ∈ p := (List.mem_append.mp hz).resolve_right (fun q => cz (List.mem_singleton.mp q))
    have k' : k ∈ p := (List.mem_append.mp hk).resolve_right (fun q => ck (List.mem_singleton.mp q))
    obtain ⟨s, e, l⟩ := B.c2 z z' k k' x hV ho
    refine ⟨s, by rw [W.old x (dj x ((B.kn x).mpr ⟨s, e⟩))]; exact e, ?_⟩
    rw [vold z (sub z hz), vold k (sub k hk)]; exact l
  · intro x hV hc hP
    by_cases c : G.P x y
    · have hx := t3 x hV hc c hP
      exact ⟨_, vsome x hx, y, c, by rw [yv]; exact vle x hx⟩
    · obtain ⟨s, e, z, hz, l⟩ := B.c3 x hV hc (fun z hz => (List.mem_append.mp (hP z hz)).resolve_right (fun q => c (by rw [List.mem_singleton.mp q] at hz; exact hz)))
      refine ⟨s, by rw [W.old x (dj x ((B.kn x).mpr ⟨s, e⟩))]; exact e, z, hz, ?_⟩
      rw [vold z (sub z (hP z hz))]; exact l
/-- the queue at the start: those known at first -/
theorem BF.start {G : Gr} {v : Nat → Option Nat} {q : List Nat} (nd : q.Nodup) (h1 : ∀ x, x ∈ q ↔ G.V x ∧ G.bs x) (h2 : ∀ x, v x = if x ∈ q then some 0 else none) (cmP : ∀ x, G.V x → G.cm x → ∃ z, G.P x z) : BF G v [] q := by
  have v0 : ∀ a, vv v a = 0 := fun a => by unfold vv; rw [h2]; split <;> rfl
  have vs : ∀ x s, v x = some s → s = 0 ∧ x ∈ q := fun x s e => by
    rw [h2] at e
    by_cases c : x ∈ q
    · rw [if_pos c] at e; cases e; exact ⟨rfl, c⟩
    · rw [if_neg c] at e; cases e
  refine ⟨nd, fun x => ⟨fun h => ⟨0, by rw [h2]; exact if_pos h⟩, fun ⟨s, e⟩ => (vs x s e).2⟩, fun x s e => ?_, fun x s e => ?_, ?_, fun a _ b _ => by rw [v0 b]; omega, fun x a b => ?_, fun y hy => absurd hy List.not_mem_nil, fun y hy => absurd hy List.not_mem_nil, fun x hV hc hP => ?_⟩
  · obtain ⟨rfl, hx⟩ := vs x s e
    exact (h1 x).mp hx
  · rw [(vs x s e).1]; exact Nat.zero_le _
  · exact List.pairwise_of_forall (fun a b => by rw [v0]; exact Nat.zero_le _)
  · rw [h2]; exact if_pos ((h1 x).mpr ⟨a, b⟩)
  · obtain ⟨z, hz⟩ := cmP x hV hc
    exact absurd (hP z hz) List.not_mem_nil
end Z2_Y
