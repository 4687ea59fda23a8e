section Z2_Y7
variable {ρ ρ' ρ0 : rf_S} {L E l : List Nat} {v v' : Nat → Option Nat} {N r : Nat}
/-- the reference's queue -/
def QU (ρ0 ρ : rf_S) (N : Nat) (v : Nat → Option Nat) (L : List Nat) : Prop := (∀ c, c ≠ 0 → c ≠ 7 → c ≠ 10 → ρ.1 c = ρ0.1 c) ∧ (∀ j, j ≠ 10 → ρ.1 0 j = ρ0.1 0 j) ∧ (ρ.2 = ρ0.2) ∧ (∀ a, a < N → v a = none → ρ.1 7 a = nI 1000000000) ∧ (∀ a s, a < N → v a = some s → ρ.1 7 a = nI s) ∧ (∀ a, a ∈ L ↔ ∃ s, v a = some s) ∧ (∀ a s, v a = some s → s < 1000000000) ∧ (ρ.1 0 10 = nI L.length) ∧ (∀ j, j < L.length → ρ.1 10 j = nI (L.getD j 0)) ∧ (L.Nodup) ∧ (∀ a, a ∈ L → a < N)
theorem QU.I {ρ0 ρ : rf_S} {N : Nat} {v : Nat → Option Nat} {L : List Nat} (hS : QU ρ0 ρ N v L) : ∀ c, c ≠ 0 → c ≠ 7 → c ≠ 10 → ρ.1 c = ρ0.1 c := hS.1
theorem QU.f {ρ0 ρ : rf_S} {N : Nat} {v : Nat → Option Nat} {L : List Nat} (hS : QU ρ0 ρ N v L) : ∀ j, j ≠ 10 → ρ.1 0 j = ρ0.1 0 j := hS.2.1
theorem QU.l2 {ρ0 ρ : rf_S} {N : Nat} {v : Nat → Option Nat} {L : List Nat} (hS : QU ρ0 ρ N v L) : ρ.2 = ρ0.2 := hS.2.2.1
theorem QU.v0 {ρ0 ρ : rf_S} {N : Nat} {v : Nat → Option Nat} {L : List Nat} (hS : QU ρ0 ρ N v L) : ∀ a, a < N → v a = none → ρ.1 7 a = nI 1000000000 := hS.2.2.2.1
theorem QU.v1 {ρ0 ρ : rf_S} {N : Nat} {v : Nat → Option Nat} {L : List Nat} (hS : QU ρ0 ρ N v L) : ∀ a s, a < N → v a = some s → ρ.1 7 a = nI s := hS.2.2.2.2.1
theorem QU.kn {ρ0 ρ : rf_S} {N : Nat} {v : Nat → Option Nat} {L : List Nat} (hS : QU ρ0 ρ N v L) : ∀ a, a ∈ L ↔ ∃ s, v a = some s := hS.2.2.2.2.2.1
theorem QU.sm {ρ0 ρ : rf_S} {N : Nat} {v : Nat → Option Nat} {L : List Nat} (hS : QU ρ0 ρ N v L) : ∀ a s, v a = some s → s < 1000000000 := hS.2.2.2.2.2.2.1
theorem QU.cn {ρ0 ρ : rf_S} {N : Nat} {v : Nat → Option Nat} {L : List Nat} (hS : QU ρ0 ρ N v L) : ρ.1 0 10 = nI L.length := hS.2.2.2.2.2.2.2.1
theorem QU.q {ρ0 ρ : rf_S} {N : Nat} {v : Nat → Option Nat} {L : List Nat} (hS : QU ρ0 ρ N v L) : ∀ j, j < L.length → ρ.1 10 j = nI (L.getD j 0) := hS.2.2.2.2.2.2.2.2.1
theorem QU.nd {ρ0 ρ : rf_S} {N : Nat} {v : Nat → Option Nat} {L : List Nat} (hS : QU ρ0 ρ N v L) : L.Nodup := hS.2.2.2.2.2.2.2.2.2.1
theorem QU.ql {ρ0 ρ : rf_S} {N : Nat} {v : Nat → Option Nat} {L : List Nat} (hS : QU ρ0 ρ N v L) : ∀ a, a ∈ L → a < N := hS.2.2.2.2.2.2.2.2.2.2
theorem nd_lt {l : List Nat} {N : Nat} (h : l.Nodup) (hl : ∀ a, a ∈ l → a < N) : l.length ≤ N := by
  have := nd_len l (List.range N) h (fun x hx => List.mem_range.mpr (hl x hx))
  rw [List.length_range] at this
  exact this
theorem getD_mem {l : List Nat} {j : Nat} (h : j < l.length) : l.getD j 0 ∈ l := by
  rw [List.getD_eq_getElem?_getD, List.getElem?_eq_getElem h]
  exact List.getElem_mem h
/-- one is had: N0 of the terms are begun -/
theorem QU.hadBy {M x s : Nat} (S : QU ρ0 ρ M v L) (hN : N ≤ 112000) (hM : M ≤ N) (hx : x < M) (hs : s < 1000000000) (hv : ∀ t, v x = some t → t ≤ s) : ∃ ρ', fq_hadBy (nI x) (nI s) ρ = some ρ' ∧ ((x ∈ L ∧ ρ' = ρ) ∨ (x ∉ L ∧ QU ρ0 ρ' M (vset v x s) (L ++ [x]))) ∧ (∀ a, M ≤ a → ρ'.1 7 a = ρ.1 7 a) := by
  have ix7 : ∀ {α : Type} (w : Option α), ix (nI x) 112000 w = w := fun w => n_ix (by omega) (by omega)
  unfold fq_hadBy bq_hadBy_0 fq_nearer bq_nearer_0
  rw [ix7, n_cl (show x < 2147483648 by omega)]
  by_cases c : x ∈ L
  · obtain ⟨t, e⟩ := (S.kn x).mp c
    have ht := hv t e
    have ht' := S.sm x t e
    rw [S.v1 x t hx e, if_neg (fun q => by have := (n_lt (by omega) (by omega)).mp q; omega), bd2_eq, if_pos rfl]
    exact ⟨ρ, rfl, Or.inl ⟨c, rfl⟩, fun _ _ => rfl⟩
  have vn : v x = none := by
    cases e : v x with
    | none => rfl
    | some t => exact absurd ((S.kn x).mpr ⟨t, e⟩) c
  have nd' : (L ++ [x]).Nodup := by
    rw [List.nodup_append]
    exact ⟨S.nd, by simp, fun a ha b hb => by rw [List.mem_singleton.mp hb]; intro q; rw [q] at ha; exact c ha⟩
  have ql' : ∀ a, a ∈ L ++ [x] → a < M := fun a ha => by
    rw [List.mem_append, List.mem_singleton] at ha
    rcases ha with h | h
    · exact S.ql a h
    · rw [h]; exact hx
  have ln := nd_lt nd' ql'
  rw [List.length_append, List.length_singleton] at ln
  rw [S.v0 x hx vn, if_pos ((n_lt (by omega) (by omega)).mpr (by omega)), ix7, vl_eq, bd2_eq, if_neg (by decide)]
  have k10 : (rf_w ρ 7 x (nI s)).1 0 10 = nI L.length := by rw [q_w (by decide), S.cn]
  rw [k10, n_ix (show L.length < 112000 by omega) (by omega), vl_eq, n_cl (show L.length < 2147483648 by omega), vl_eq]
  have k11 : (rf_w (rf_w ρ 7 x (nI s)) 10 L.length (nI x)).1 0 10 = nI L.length := by rw [q_w (by decide), k10]
  rw [k11, show nI L.length + (1:Int32) = nI (L.length + 1) from n_add _ 1]
  refine ⟨_, rfl, Or.inr ⟨c, ?_⟩, fun a ha => ?_⟩
  · have e7 : ∀ a, (rf_w (rf_w (rf_w ρ 7 x (nI s)) 10 L.length (nI x)) 0 10 (nI (L.length + 1))).1 7 a = if a = x then nI s else ρ.1 7 a := by
      intro a
      rw [q_w (by decide), q_w (by decide), g_q]
      by_cases ca : a = x
      · rw [if_pos ⟨rfl, ca⟩, if_pos ca]
      · rw [if_neg (fun w => ca w.2), if_neg ca]
    refine ⟨fun d h1 h2 h3 => by rw [q_w h1, q_w h3, q_w h2]; exact S.I d h1 h2 h3, fun j hj => by rw [q_wk hj, q_w (by decide), q_w (by decide)]; exact S.f j hj, S.l2, fun a ha e => ?_, fun a t ha e => ?_, fun a => ?_, fun a t e => ?_, ?_, fun j hj => ?_, nd', ql'⟩
    · rw [e7]
      by_cases ca : a = x
      · rw [vset_s ca] at e; cases e
      · rw [vset_n ca] at e
        rw [if_neg ca]; exact S.v0 a ha e
    · rw [e7]
      by_cases ca : a = x
      · rw [vset_s ca] at e; cases e
        rw [if_pos ca]
      · rw [vset_n ca] at e
        rw [if_neg ca]; exact S.v1 a t ha e
    · rw [List.mem_append, List.mem_singleton]
      by_cases ca : a = x
      · rw [vset_s ca]; exact ⟨fun _ => ⟨s, rfl⟩, fun _ => Or.inr ca⟩
      · rw [vset_n ca, ← S.kn a]; exact ⟨fun h => h.resolve_right ca, Or.inl⟩
    · by_cases ca : a = x
      · rw [vset_s ca] at e; cases e; exact hs
      · rw [vset_n ca] at e; exact S.sm a t e
    · rw [q_ws, List.length_append, List.length_singleton]
    · rw [q_w (by decide)]
      rw [List.length_append, List.length_singleton] at hj
      by_cases cj : j = L.length
      · rw [cj, q_ws, List.getD_eq_getElem?_getD, List.getElem?_append_right (Nat.le_refl _), Nat.sub_self]; rfl
      · rw [q_wk cj, q_w (by decide), S.q j (by omega), List.getD_eq_getElem?_getD, List.getD_eq_getElem?_getD, List.getElem?_append_left (by omega)]
  · rw [q_w (by decide), q_w (by decide), q_wk (by omega)]
/-- the reference while one of the queue is gone through -/
def QG (ρ0 ρ : rf_S) (N r : Nat) (v : Nat → Option Nat) (L E : List Nat) : Prop := ∃ v', QU ρ0 ρ N v' (L ++ E) ∧ Gw (grQ ρ0 N) r v L v' E
def QX (ρ0 : rf_S) (N r : Nat) (v : Nat → Option Nat) (L : List Nat) : Prop := (RSt ρ0 N) ∧ (r + 1 < 1000000000) ∧ (∀ x, x ∈ L ↔ ∃ s, v x = some s) ∧ (∀ x s, v x = some s → Kn (grQ ρ0 N) s x) ∧ (∀ x s, v x = some s → s ≤ r + 1)
theorem QX.Q {ρ0 : rf_S} {N r : Nat} {v : Nat → Option Nat} {L : List Nat} (hS : QX ρ0 N r v L) : RSt ρ0 N := hS.1
theorem QX.hr {ρ0 : rf_S} {N r : Nat} {v : Nat → Option Nat} {L : List Nat} (hS : QX ρ0 N r v L) : r + 1 < 1000000000 := hS.2.1
theorem QX.kn {ρ0 : rf_S} {N r : Nat} {v : Nat → Option Nat} {L : List Nat} (hS : QX ρ0 N r v L) : ∀ x, x ∈ L ↔ ∃ s, v x = some s := hS.2.2.1
theorem QX.so {ρ0 : rf_S} {N r : Nat} {v : Nat → Option Nat} {L : List Nat} (hS : QX ρ0 N r v L) : ∀ x s, v x = some s → Kn (grQ ρ0 N) s x := hS.2.2.2.1
theorem QX.le {ρ0 : rf_S} {N r : Nat} {v : Nat → Option Nat} {L : List Nat} (hS : QX ρ0 N r v L) : ∀ x s, v x = some s → s ≤ r + 1 := hS.2.2.2.2
theorem QG.had {x : Nat} (X : QX ρ0 N r v L) (J : QG ρ0 ρ N r v L E) (hx : x < N) (hk : Kn (grQ ρ0 N) (r + 1) x) : ∃ ρ' E', fq_hadBy (nI x) (nI r + (1:Int32)) ρ = some ρ' ∧ QG ρ0 ρ' N r v L (E ++ E') ∧ x ∈ L ++ (E ++ E') := by
  obtain ⟨v', S, W⟩ := J
  have hr := X.hr
  obtain ⟨ρ', e, h, -⟩ := S.hadBy (N := N) (s := r + 1) X.Q.n.2 (Nat.le_refl _) hx (by omega) (fun t et => by
    by_cases c : x ∈ E
    · rw [(W.new x c).1] at et; cases et; exact Nat.le_refl _
    · rw [W.old x c] at et; exact X.le x t et)
  rw [show nI r + (1:Int32) = nI (r + 1) from n_add r 1]
  rcases h with ⟨hL, rfl⟩ | ⟨hL, S'⟩
  · exact ⟨ρ', [], e, ⟨v', by rw [List.append_nil]; exact S, by rw [List.append_nil]; exact W⟩, by rw [List.append_nil]; exact hL⟩
  · exact ⟨ρ', [x], e, ⟨_, by rw [← List.append_assoc]; exact S', W.add hL hk (vset_s rfl) (fun y hy => vset_n hy)⟩, by simp⟩
/-- known by round r -/
def hq (v : Nat → Option Nat) (r z : Nat) : Prop := ∃ s, v z = some s ∧ s ≤ r
/-- the number that stands for a round -/
theorem QG.val {z : Nat} (X : QX ρ0 N r v L) (J : QG ρ0 ρ N r v L E) (hz : z < N) : ∃ m, m ≤ 1000000000 ∧ ρ.1 7 z = nI m ∧ (m ≤ r ↔ hq v r z) := by
  obtain ⟨v', S, W⟩ := J
  have hr := X.hr
  have e : hq v' r z ↔ hq v r z := by
    unfold hq
    by_cases c : z ∈ E
    · have w := (W.new z c).1
      have nv : v z = none := by
        cases q : v z with
        | none => rfl
        | some s => exact ((List.nodup_append.mp W.nd).2.2 z ((X.kn z).mpr ⟨s, q⟩) z c rfl).elim
      refine ⟨?_, ?_⟩
      · rintro ⟨s, q, hs⟩; rw [w] at q; cases q; omega
      · rintro ⟨s, q, hs⟩; rw [nv] at q; cases q
    · rw [W.old z c]
  cases ev : v' z with
  | none =>
    refine ⟨1000000000, Nat.le_refl _, S.v0 z hz ev, ?_⟩
    rw [← e]
    refine ⟨?_, ?_⟩
    · intro q; omega
    · rintro ⟨s, q, hs⟩; rw [ev] at q; cases q
  | some s =>
    have := S.sm z s ev
    refine ⟨s, by omega, S.v1 z s hz ev, ?_⟩
    rw [← e]
    refine ⟨?_, ?_⟩
    · intro q; exact ⟨s, ev, q⟩
    · rintro ⟨t, q, ht⟩; rw [ev] at q; cases q; exact ht
theorem QG.I {c : Nat} (J : QG ρ0 ρ N r v L E) (h0 : c ≠ 0) (h7 : c ≠ 7) (h10 : c ≠ 10) : ρ.1 c = ρ0.1 c := by
  obtain ⟨v', S, W⟩ := J
  exact S.I c h0 h7 h10
theorem QX.had {z : Nat} (X : QX ρ0 N r v L) (h : hq v r z) : Kn (grQ ρ0 N) r z := by
  obtain ⟨s, e, hs⟩ := h
  exact (X.so z s e).mono hs
/-- a term's parts -/
theorem q_img (Q : RSt ρ0 N) {t : Nat} (ht : t < N) : ∃ k, k < 10 ∧ ρ0.1 1 t = nI k ∧ (3 ≤ k → (∃ a, a < N ∧ ρ0.1 2 t = nI a) ∧ (¬ (k = 4 ∨ k = 6) → ∃ b, b < N ∧ ρ0.1 3 t = nI b) ∧ (k = 8 → ∃ c, c < N ∧ ρ0.1 4 t = nI c)) := by
  obtain ⟨E, e1, e2, e3⟩ := Q.e
  obtain ⟨k, hk, ek, sh⟩ := e3 t ht
  refine ⟨k, hk, ek, fun h3 => ?_⟩
  unfold rsh at sh
  rw [if_neg (by omega), if_neg (by omega), if_neg (by omega)] at sh
  obtain ⟨⟨a, ea, ha⟩, sb, sc⟩ := sh
  refine ⟨⟨a, by omega, ea⟩, fun c => ?_, fun c => ?_⟩
  · rw [if_neg c] at sb
    obtain ⟨b, eb, hb⟩ := sb
    exact ⟨b, by omega, eb⟩
  · rw [if_pos c] at sc
    obtain ⟨b, eb, hb⟩ := sc
    exact ⟨b, by omega, eb⟩
end Z2_Y7
