section Z2_Y3
variable {σ σ' σ0 : cl_S} {ts L E l : List Nat} {v v' : Nat → Option Nat} {G : Gr} {r : Nat}
theorem nd_len : ∀ (l m : List Nat), l.Nodup → (∀ x, x ∈ l → x ∈ m) → l.length ≤ m.length := by
  intro l
  induction l with
  | nil => intro m _ _; exact Nat.zero_le _
  | cons a l ih =>
    intro m nd h
    rw [List.nodup_cons] at nd
    have := ih (m.erase a) nd.2 (fun x hx => (List.mem_erase_of_ne (fun q => nd.1 (by rw [← q]; exact hx))).mpr (h x (List.mem_cons_of_mem _ hx)))
    have ha := h a List.mem_cons_self
    rw [List.length_erase_of_mem ha] at this
    have : 0 < m.length := List.length_pos_of_mem ha
    rw [List.length_cons]; omega
theorem lst_at {f : Nat → Option Nat} {y : Nat} {q : List Nat} : ∀ (p : List Nat) (h : Option Nat), Lst f h (p ++ y :: q) → Lst f (f y) q := by
  intro p
  induction p with
  | nil => intro h H; exact H.2
  | cons a p ih => intro h H; exact ih _ H.2
/-- putting one behind -/
theorem lst_add {f f' : Nat → Option Nat} {x z : Nat} : ∀ (p : List Nat) (h : Option Nat), Lst f h (p ++ [z]) → (p ++ [z]).Nodup → x ∉ p ++ [z] → f' z = some x → f' x = none → (∀ a, a ≠ z → a ≠ x → f' a = f a) → Lst f' h (p ++ [z] ++ [x]) := by
  intro p
  induction p with
  | nil =>
    intro h H nd hx e1 e2 e3
    obtain ⟨rfl, -⟩ := H
    exact ⟨rfl, e1, e2⟩
  | cons a p ih =>
    intro h H nd hx e1 e2 e3
    obtain ⟨rfl, H⟩ := H
    have nd' := List.nodup_cons.mp nd
    have az : a ≠ z := fun q => nd'.1 (by rw [q]; simp)
    have ax : a ≠ x := fun q => hx (by rw [q]; simp)
    refine ⟨rfl, ?_⟩
    rw [e3 a az ax]
    exact ih _ H nd'.2 (fun q => hx (List.mem_cons_of_mem _ q)) e1 e2 e3
def vset (v : Nat → Option Nat) (x s a : Nat) : Option Nat := if a = x then some s else v a
theorem vset_s {v : Nat → Option Nat} {x s a : Nat} (h : a = x) : vset v x s a = some s := if_pos h
theorem vset_n {v : Nat → Option Nat} {x s a : Nat} (h : a ≠ x) : vset v x s a = v a := if_neg h
/-- the class's queue -/
def JS (σ0 σ : cl_S) (ts : List Nat) (v : Nat → Option Nat) (L : List Nat) : Prop := (∀ d j, ¬ (d ∈ ts ∧ j = 10) → σ.1 d j = σ0.1 d j) ∧ (σ.2.1 = σ0.2.1) ∧ (∀ d j, ¬ (d ∈ ts ∧ j = 11) → ¬ (d = 31 ∧ (j = 9 ∨ j = 10)) → σ.2.2.1 d j = σ0.2.2.1 d j) ∧ (σ.2.2.2 = σ0.2.2.2) ∧ (∀ a, a ∈ ts → v a = none → σ.1 a 10 = -1) ∧ (∀ a s, a ∈ ts → v a = some s → σ.1 a 10 = nI s) ∧ (∀ a, a ∈ L ↔ ∃ s, v a = some s) ∧ (∀ a s, v a = some s → s < 1000000000) ∧ (Lst (fun a => σ.2.2.1 a 11) (σ.2.2.1 31 9) L) ∧ (L.Nodup) ∧ (∀ a, a ∈ L → a ∈ ts) ∧ (σ.2.2.1 31 10 = L.getLast?) ∧ (∀ a, a ∈ ts → a ∉ L → σ.2.2.1 a 11 = none)
theorem JS.I {σ0 σ : cl_S} {ts : List Nat} {v : Nat → Option Nat} {L : List Nat} (hS : JS σ0 σ ts v L) : ∀ d j, ¬ (d ∈ ts ∧ j = 10) → σ.1 d j = σ0.1 d j := hS.1
theorem JS.Lg {σ0 σ : cl_S} {ts : List Nat} {v : Nat → Option Nat} {L : List Nat} (hS : JS σ0 σ ts v L) : σ.2.1 = σ0.2.1 := hS.2.1
theorem JS.R {σ0 σ : cl_S} {ts : List Nat} {v : Nat → Option Nat} {L : List Nat} (hS : JS σ0 σ ts v L) : ∀ d j, ¬ (d ∈ ts ∧ j = 11) → ¬ (d = 31 ∧ (j = 9 ∨ j = 10)) → σ.2.2.1 d j = σ0.2.2.1 d j := hS.2.2.1
theorem JS.c {σ0 σ : cl_S} {ts : List Nat} {v : Nat → Option Nat} {L : List Nat} (hS : JS σ0 σ ts v L) : σ.2.2.2 = σ0.2.2.2 := hS.2.2.2.1
theorem JS.v0 {σ0 σ : cl_S} {ts : List Nat} {v : Nat → Option Nat} {L : List Nat} (hS : JS σ0 σ ts v L) : ∀ a, a ∈ ts → v a = none → σ.1 a 10 = -1 := hS.2.2.2.2.1
theorem JS.v1 {σ0 σ : cl_S} {ts : List Nat} {v : Nat → Option Nat} {L : List Nat} (hS : JS σ0 σ ts v L) : ∀ a s, a ∈ ts → v a = some s → σ.1 a 10 = nI s := hS.2.2.2.2.2.1
theorem JS.kn {σ0 σ : cl_S} {ts : List Nat} {v : Nat → Option Nat} {L : List Nat} (hS : JS σ0 σ ts v L) : ∀ a, a ∈ L ↔ ∃ s, v a = some s := hS.2.2.2.2.2.2.1
theorem JS.sm {σ0 σ : cl_S} {ts : List Nat} {v : Nat → Option Nat} {L : List Nat} (hS : JS σ0 σ ts v L) : ∀ a s, v a = some s → s < 1000000000 := hS.2.2.2.2.2.2.2.1
theorem JS.q {σ0 σ : cl_S} {ts : List Nat} {v : Nat → Option Nat} {L : List Nat} (hS : JS σ0 σ ts v L) : Lst (fun a => σ.2.2.1 a 11) (σ.2.2.1 31 9) L := hS.2.2.2.2.2.2.2.2.1
theorem JS.nd {σ0 σ : cl_S} {ts : List Nat} {v : Nat → Option Nat} {L : List Nat} (hS : JS σ0 σ ts v L) : L.Nodup := hS.2.2.2.2.2.2.2.2.2.1
theorem JS.ql {σ0 σ : cl_S} {ts : List Nat} {v : Nat → Option Nat} {L : List Nat} (hS : JS σ0 σ ts v L) : ∀ a, a ∈ L → a ∈ ts := hS.2.2.2.2.2.2.2.2.2.2.1
theorem JS.tl {σ0 σ : cl_S} {ts : List Nat} {v : Nat → Option Nat} {L : List Nat} (hS : JS σ0 σ ts v L) : σ.2.2.1 31 10 = L.getLast? := hS.2.2.2.2.2.2.2.2.2.2.2.1
theorem JS.nn {σ0 σ : cl_S} {ts : List Nat} {v : Nat → Option Nat} {L : List Nat} (hS : JS σ0 σ ts v L) : ∀ a, a ∈ ts → a ∉ L → σ.2.2.1 a 11 = none := hS.2.2.2.2.2.2.2.2.2.2.2.2
theorem JS.r4 (S : JS σ0 σ ts v L) (C : CSt σ0 ts) : σ.2.2.1 31 4 = some 33 := by
  rw [S.R 31 4 (fun q => absurd q.2 (by decide)) (fun q => absurd q.2 (by omega))]; exact C.tms.2.2.1
theorem JS.nneg {s : Nat} (hs : s < 1000000000) : ¬ nI s < (0:Int32) := by
  rw [show (0:Int32) = nI 0 from rfl, n_lt (by omega) (by omega)]; omega
theorem JS.learn {x s : Nat} (S : JS σ0 σ ts v L) (C : CSt σ0 ts) (hx : x ∈ ts) (hs : s < 1000000000) : ∃ σ', fc_X10_learn 31 (some x) (nI s) σ = some σ' ∧ ((x ∈ L ∧ σ' = σ) ∨ (x ∉ L ∧ JS σ0 σ' ts (vset v x s) (L ++ [x]))) := by
  have x33 := lt33 C hx
  have x31 : x ≠ 31 := fun q => by have := (C.mem x hx).1; omega
  unfold fc_X10_learn bc_X10_learn_0
  rw [vl_eq, S.r4 C, if_neg (fun q => x33 (Option.some.inj q))]
  simp only [nn_eq]
  by_cases c : x ∈ L
  · obtain ⟨t, e⟩ := (S.kn x).mp c
    rw [S.v1 x t hx e, if_neg (JS.nneg (S.sm x t e))]
    exact ⟨σ, rfl, Or.inl ⟨c, rfl⟩⟩
  have vn : v x = none := by
    cases e : v x with
    | none => rfl
    | some t => exact absurd ((S.kn x).mpr ⟨t, e⟩) c
  rw [S.v0 x hx vn, if_pos (by decide)]
  simp only [vl_eq]
  have fin : ∀ {σ2 : cl_S}, (∀ d j, σ2.1 d j = (cl_w σ x 10 (nI s)).1 d j) → σ2.2.1 = σ.2.1 → (∀ d j, ¬ (d ∈ ts ∧ j = 11) → ¬ (d = 31 ∧ (j = 9 ∨ j = 10)) → σ2.2.2.1 d j = σ.2.2.1 d j) → σ2.2.2.2 = σ.2.2.2 → Lst (fun a => σ2.2.2.1 a 11) (σ2.2.2.1 31 9) (L ++ [x]) → σ2.2.2.1 31 10 = some x → (∀ a, a ∈ ts → a ∉ L ++ [x] → σ2.2.2.1 a 11 = none) → JS σ0 σ2 ts (vset v x s) (L ++ [x]) := by
    intro σ2 h1 h2 h3 h4 h5 h6 h7
    refine ⟨fun d j q => ?_, by rw [h2, S.Lg], fun d j q1 q2 => by rw [h3 d j q1 q2, S.R d j q1 q2], by rw [h4, S.c], fun a ha e => ?_, fun a t ha e => ?_, fun a => ?_, fun a t e => ?_, h5, ?_, fun a ha => ?_, ?_, h7⟩
    · rw [h1, g_w, if_neg (show ¬ (d = x ∧ j = 10) from fun w => q ⟨w.1 ▸ hx, w.2⟩), S.I d j q]
    · by_cases ca : a = x
      · rw [vset_s ca] at e; cases e
      · rw [vset_n ca] at e
        rw [h1, g_w, if_neg (show ¬ (a = x ∧ 10 = 10) from fun w => ca w.1)]; exact S.v0 a ha e
    · by_cases ca : a = x
      · rw [vset_s ca] at e; cases e
        rw [h1, g_w, if_pos ⟨ca, rfl⟩]
      · rw [vset_n ca] at e
        rw [h1, g_w, if_neg (show ¬ (a = x ∧ 10 = 10) from fun w => ca w.1)]; exact S.v1 a t ha e
    · rw [List.mem_append, List.mem_singleton]
      by_cases ca : a = x
      · rw [vset_s ca]; exact ⟨fun _ => ⟨s, rfl⟩, fun _ => Or.inr ca⟩
      · rw [vset_n ca, ← S.kn a]; exact ⟨fun h => h.resolve_right ca, Or.inl⟩
    · by_cases ca : a = x
      · rw [vset_s ca] at e; cases e; exact hs
      · rw [vset_n ca] at e; exact S.sm a t e
    · rw [List.nodup_append]
      exact ⟨S.nd, by simp, fun a ha b hb => by rw [List.mem_singleton.mp hb]; intro q; rw [q] at ha; exact c ha⟩
    · rw [List.mem_append, List.mem_singleton] at ha
      rcases ha with h | h
      · exact S.ql a h
      · rw [h]; exact hx
    · rw [h6, List.getLast?_append]; simp
  rcases List.eq_nil_or_concat L with e | ⟨p, z, e⟩
  · have h10 : σ.2.2.1 31 10 = none := by rw [S.tl, e]; rfl
    rw [if_pos (show (cl_w σ x 10 (nI s)).2.2.1 31 10 = none from h10)]
    unfold bc_X10_learn_44
    rw [vl_eq]
    refine ⟨_, rfl, Or.inr ⟨c, fin (fun d j => rfl) rfl (fun d j q1 q2 => ?_) rfl ?_ ?_ (fun a ha hn => ?_)⟩⟩
    · rw [g_r, if_neg (fun w => q2 ⟨w.1, Or.inr w.2⟩), g_r, if_neg (fun w => q2 ⟨w.1, Or.inl w.2⟩)]; rfl
    · rw [e]
      refine ⟨?_, ?_⟩
      · rw [g_r, if_neg (by decide), g_r, if_pos ⟨rfl, rfl⟩]
      · show (cl_wr (cl_wr (cl_w σ x 10 (nI s)) 31 9 (some x)) 31 10 (some x)).2.2.1 x 11 = none
        rw [g_r, if_neg (fun w => x31 w.1), g_r, if_neg (fun w => x31 w.1)]
        exact S.nn x hx c
    · rw [g_r, if_pos ⟨rfl, rfl⟩]
    · have a31 : a ≠ 31 := fun q => by have := (C.mem a ha).1; omega
      rw [g_r, if_neg (fun w => a31 w.1), g_r, if_neg (fun w => a31 w.1)]
      exact S.nn a ha (fun q => hn (List.mem_append.mpr (Or.inl q)))
  · have h10 : σ.2.2.1 31 10 = some z := by rw [S.tl, e, List.concat_eq_append, List.getLast?_concat]
    rw [if_neg (show ¬ (cl_w σ x 10 (nI s)).2.2.1 31 10 = none from fun w => by have w : σ.2.2.1 31 10 = none := w; rw [h10] at w; cases w), show (cl_w σ x 10 (nI s)).2.2.1 31 10 = some z from h10]
    simp only [nn_eq]
    unfold bc_X10_learn_44
    rw [vl_eq]
    have zL : z ∈ L := by rw [e]; simp
    have zts := S.ql z zL
    have z31 : z ≠ 31 := fun q => by have := (C.mem z zts).1; omega
    have zx : z ≠ x := fun q => c (q ▸ zL)
    refine ⟨_, rfl, Or.inr ⟨c, fin (fun d j => rfl) rfl (fun d j q1 q2 => ?_) rfl ?_ ?_ (fun a ha hn => ?_)⟩⟩
    · rw [g_r, if_neg (fun w => q2 ⟨w.1, Or.inr w.2⟩), g_r, if_neg (show ¬ (d = z ∧ j = 11) from fun w => q1 ⟨by rw [w.1]; exact zts, w.2⟩)]; rfl
    · have q9 : (cl_wr (cl_wr (cl_w σ x 10 (nI s)) z 11 (some x)) 31 10 (some x)).2.2.1 31 9 = σ.2.2.1 31 9 := by
        rw [g_r, if_neg (by decide), g_r, if_neg (fun w => z31 w.1.symm)]; rfl
      rw [q9]
      have Q := S.q
      have nd := S.nd
      rw [e, List.concat_eq_append] at Q nd c ⊢
      refine lst_add p _ Q nd c ?_ ?_ (fun a h1 h2 => ?_)
      · show (cl_wr (cl_wr (cl_w σ x 10 (nI s)) z 11 (some x)) 31 10 (some x)).2.2.1 z 11 = some x
        rw [g_r, if_neg (fun w => z31 w.1), g_r, if_pos ⟨rfl, rfl⟩]
      · show (cl_wr (cl_wr (cl_w σ x 10 (nI s)) z 11 (some x)) 31 10 (some x)).2.2.1 x 11 = none
        rw [g_r, if_neg (fun w => x31 w.1), g_r, if_neg (fun w => zx w.1.symm)]
        exact S.nn x hx (by rw [e, List.concat_eq_append]; exact c)
      · show (cl_wr (cl_wr (cl_w σ x 10 (nI s)) z 11 (some x)) 31 10 (some x)).2.2.1 a 11 = σ.2.2.1 a 11
        rw [g_r, if_neg (fun w => absurd w.2 (by decide)), g_r, if_neg (fun w => h1 w.1)]; rfl
    · rw [g_r, if_pos ⟨rfl, rfl⟩]
    · have a31 : a ≠ 31 := fun q => by have := (C.mem a ha).1; omega
      have aL : a ∉ L := fun q => hn (List.mem_append.mpr (Or.inl q))
      rw [g_r, if_neg (fun w => a31 w.1), g_r, if_neg (show ¬ (a = z ∧ 11 = 11) from fun w => aL (by rw [w.1]; exact zL))]
      exact S.nn a ha aL
theorem JS.learn33 (S : JS σ0 σ ts v L) (C : CSt σ0 ts) (x2 : Int32) : fc_X10_learn 31 (some 33) x2 σ = some σ := by
  unfold fc_X10_learn bc_X10_learn_0
  rw [vl_eq, S.r4 C, if_pos rfl]
def hd (v : Nat → Option Nat) (r z : Nat) : Prop := z = 33 ∨ ∃ s, v z = some s ∧ s ≤ r
theorem JS.had {z : Nat} (S : JS σ0 σ ts v L) (C : CSt σ0 ts) (hz : z = 33 ∨ z ∈ ts) (hr : r < 1000000000) : fc_X10_isHad 31 (some z) (nI r) σ = some (@ite Int32 (hd v r z) (Classical.propDecidable _) 1 0, σ) := by
  unfold fc_X10_isHad bc_X10_isHad_0
  rw [vl_eq, S.r4 C]
  by_cases c : z = 33
  · rw [if_pos (by rw [c]), if_pos (show hd v r z from Or.inl c)]
  have zt := hz.resolve_left c
  rw [if_neg (fun q => c (Option.some.inj q))]
  simp only [nn_eq]
  cases e : v z with
  | none =>
    rw [S.v0 z zt e, if_pos (by decide), if_neg]
    rintro (q | ⟨s, q, -⟩)
    · exact c q
    · rw [e] at q; cases q
  | some s =>
    have hs := S.sm z s e
    rw [S.v1 z s zt e, if_neg (JS.nneg hs)]
    by_cases cs : r < s
    · rw [if_pos ((n_lt (by omega) (by omega)).mpr cs), if_neg]
      rintro (q | ⟨t, q, ht⟩)
      · exact c q
      · rw [e] at q; cases q; omega
    · rw [if_neg (fun q => cs ((n_lt (by omega) (by omega)).mp q)), if_pos (show hd v r z from Or.inr ⟨s, e, by omega⟩)]
end Z2_Y3
