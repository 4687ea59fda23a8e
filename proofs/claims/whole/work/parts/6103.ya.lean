section Z2_YA
variable {ρ ρ' ρ0 : rf_S} {L E l : List Nat} {v v' : Nat → Option Nat} {N r : Nat}
/-- linking under way: the uses in D are linked -/
def LkD (ρ0 ρ : rf_S) (N : Nat) (D : Nat → Prop) : Prop := (∀ c, c ≠ 8 → c ≠ 9 → ρ.1 c = ρ0.1 c) ∧ (ρ.2 = ρ0.2) ∧ (∀ y, y < N → ∃ l, RL (ρ.1 9) (ρ.1 8 y) l ∧ ∀ s, s ∈ l ↔ D s ∧ sl ρ0 s y)
theorem LkD.o {ρ0 ρ : rf_S} {N : Nat} {D : Nat → Prop} (hS : LkD ρ0 ρ N D) : ∀ c, c ≠ 8 → c ≠ 9 → ρ.1 c = ρ0.1 c := hS.1
theorem LkD.l2 {ρ0 ρ : rf_S} {N : Nat} {D : Nat → Prop} (hS : LkD ρ0 ρ N D) : ρ.2 = ρ0.2 := hS.2.1
theorem LkD.k {ρ0 ρ : rf_S} {N : Nat} {D : Nat → Prop} (hS : LkD ρ0 ρ N D) : ∀ y, y < N → ∃ l, RL (ρ.1 9) (ρ.1 8 y) l ∧ ∀ s, s ∈ l ↔ D s ∧ sl ρ0 s y := hS.2.2
theorem LkD.use {D : Nat → Prop} {y s : Nat} (h : LkD ρ0 ρ N D) (hN : N ≤ 112000) (hy : y < N) (hs : s < 3 * N) (hD : ¬ D s) (hsl : sl ρ0 s y) (hun : ∀ z, z < N → sl ρ0 s z → z = y) : ∃ ρ', fq_use (nI y) (nI s) ρ = some ρ' ∧ LkD ρ0 ρ' N (fun x => D x ∨ x = s) := by
  unfold fq_use bq_use_0
  rw [n_ix (show y < 112000 by omega) (by omega), n_ix (show s < 336000 by omega) (by omega), n_cl (show s < 2147483648 by omega), n_cl (show y < 2147483648 by omega), vl_eq, n_ix (show y < 112000 by omega) (by omega), vl_eq]
  refine ⟨_, rfl, fun c h8 h9 => by rw [q_w h8, q_w h9]; exact h.o c h8 h9, h.l2, fun z hz => ?_⟩
  obtain ⟨l, Hl, ml⟩ := h.k z hz
  have sn : s ∉ l := fun q => hD ((ml s).mp q).1
  have cg : RL ((rf_w (rf_w ρ 9 s (ρ.1 8 y)) 8 y (nI s)).1 9) (ρ.1 8 z) l := by
    refine Hl.congr (fun a ha => ?_)
    rw [q_w (by decide), q_wk (show a ≠ s from fun q => sn (by rw [← q]; exact ha))]
  by_cases c : z = y
  · subst c
    refine ⟨s :: l, ?_, fun x => ?_⟩
    · rw [q_ws]
      refine RL.cons ?_
      rw [q_w (by decide), q_ws, ← q_w (show 9 ≠ 8 by decide) (ρ := rf_w ρ 9 s (ρ.1 8 z)) (k := z) (v := nI s)]
      exact cg
    · rw [List.mem_cons, ml]
      refine ⟨?_, ?_⟩
      · rintro (rfl | ⟨q1, q2⟩)
        · exact ⟨Or.inr rfl, hsl⟩
        · exact ⟨Or.inl q1, q2⟩
      · rintro ⟨q1 | q1, q2⟩
        · exact Or.inr ⟨q1, q2⟩
        · exact Or.inl q1
  · refine ⟨l, ?_, fun x => ?_⟩
    · rw [q_wk c, q_w (show 8 ≠ 9 by decide)]; exact cg
    · rw [ml]
      refine ⟨?_, ?_⟩
      · rintro ⟨q1, q2⟩; exact ⟨Or.inl q1, q2⟩
      · rintro ⟨q1 | q1, q2⟩
        · exact ⟨q1, q2⟩
        · exfalso
          rw [q1] at q2
          exact c (hun z hz q2)
theorem LkD.cg {D D' : Nat → Prop} (h : LkD ρ0 ρ N D) (e : ∀ s y, y < N → sl ρ0 s y → (D s ↔ D' s)) : LkD ρ0 ρ N D' := by
  refine ⟨h.o, h.l2, fun y hy => ?_⟩
  obtain ⟨l, Hl, ml⟩ := h.k y hy
  refine ⟨l, Hl, fun s => ?_⟩
  rw [ml]
  exact ⟨fun q => ⟨(e s y hy q.2).mp q.1, q.2⟩, fun q => ⟨(e s y hy q.2).mpr q.1, q.2⟩⟩
theorem sl_un (hN : N ≤ 112000) {s y z : Nat} (hy : y < N) (hz : z < N) (h1 : sl ρ0 s y) (h2 : sl ρ0 s z) : z = y := by
  obtain ⟨k, -, -, -, a⟩ := h1
  obtain ⟨k', -, -, -, b⟩ := h2
  rcases a with ⟨a, ea⟩ | ⟨a, -, ea⟩ | ⟨a, -, ea⟩ <;> rcases b with ⟨b, eb⟩ | ⟨b, -, eb⟩ | ⟨b, -, eb⟩
  · exact ((t_eq hN hz hy).mp (eb.symm.trans ea))
  · omega
  · omega
  · omega
  · exact ((t_eq hN hz hy).mp (eb.symm.trans ea))
  · omega
  · omega
  · omega
  · exact ((t_eq hN hz hy).mp (eb.symm.trans ea))
/-- one term's uses -/
theorem LkD.one {u : Nat} (Q : RSt ρ0 N) (h : LkD ρ0 ρ N (fun s => s < 3 * u)) (hu : u < N) : ∃ ρ', lq_link_25 (nI u) ρ = some (.inl (nI (u + 1), ρ')) ∧ LkD ρ0 ρ' N (fun s => s < 3 * (u + 1)) := by
  have hN := Q.n.2
  have ixu : ∀ {α : Type} (w : Option α), ix (nI u) 112000 w = w := fun w => n_ix (by omega) (by omega)
  have ncl : (nI u).toNatClampNeg = u := n_cl (by omega)
  obtain ⟨k, hk, ek, pk⟩ := q_img Q hu
  have kl : ∀ c, c < 10 → (nI k = nI c ↔ k = c) := fun c hc => k_eq hk hc
  have d0 : (3 * u) / 3 = u := by omega
  have d1 : (3 * u + 1) / 3 = u := by omega
  have d2 : (3 * u + 2) / 3 = u := by omega
  have slk : ∀ s y, s / 3 = u → sl ρ0 s y → 3 ≤ k ∧ ((s % 3 = 1 → ¬ (k = 4 ∨ k = 6)) ∧ (s % 3 = 2 → k = 8)) := by
    rintro s y hs ⟨k', e', k3, k10, q⟩
    rw [hs, ek] at e'
    have := (k_eq hk k10).mp e'
    subst this
    refine ⟨k3, fun q1 => ?_, fun q2 => ?_⟩
    · rcases q with ⟨q, -⟩ | ⟨-, q, -⟩ | ⟨q, -⟩
      · omega
      · exact q
      · omega
    · rcases q with ⟨q, -⟩ | ⟨q, -⟩ | ⟨-, q, -⟩
      · omega
      · omega
      · exact q
  have t105 : ∀ ρ1 : rf_S, bq_link_105i25 (nI u) ρ1 = some (.inl (nI (u + 1), ρ1)) := by
    intro ρ1
    unfold bq_link_105i25
    rw [vl_eq, show nI u + (1:Int32) = nI (u + 1) from n_add u 1]
  unfold lq_link_25
  rw [show ρ.1 0 12 = nI N by rw [h.o 0 (by decide) (by decide)]; exact Q.n.1, if_neg (fun q => by have := (n_le (by omega) (by omega)).mp q; omega), ixu, vl_eq, ncl, h.o 1 (by decide) (by decide), ek]
  by_cases c2 : k ≤ 2
  · rw [if_pos (show nI k ≤ (2:Int32) from (n_le (a := k) (b := 2) (by omega) (by omega)).mpr c2), t105]
    refine ⟨ρ, rfl, h.cg (fun s y hy q => ?_)⟩
    refine ⟨?_, ?_⟩
    · intro w; omega
    · intro w
      apply Classical.byContradiction
      intro w'
      have := (slk s y (by omega) q).1
      omega
  have k3 : 3 ≤ k := by omega
  rw [if_neg (show ¬ nI k ≤ (2:Int32) from fun q => c2 ((n_le (a := k) (b := 2) (by omega) (by omega)).mp q)), ixu, h.o 2 (by decide) (by decide)]
  obtain ⟨⟨a, ha, ea⟩, pb, pc⟩ := pk k3
  have s0 : sl ρ0 (3 * u) a := ⟨k, by rw [d0]; exact ek, k3, hk, Or.inl ⟨by omega, by rw [d0]; exact ea⟩⟩
  obtain ⟨ρ1, e1, h1⟩ := h.use hN ha (show 3 * u < 3 * N by omega) (by omega) s0 (fun z hz q => sl_un hN ha hz s0 q)
  rw [show (3:Int32) * nI u = nI (3 * u) from n_mul 3 u, ea, e1, bd1_eq]
  -- the third
  have t84 : ∀ {ρ2 : rf_S}, LkD ρ0 ρ2 N (fun x => x < 3 * u + 2) → ∃ ρ', bq_link_84i25 (nI u) (nI k) ρ2 = some (.inl (nI (u + 1), ρ')) ∧ LkD ρ0 ρ' N (fun s => s < 3 * (u + 1)) := by
    intro ρ2 h2
    unfold bq_link_84i25
    by_cases c8 : k = 8
    · obtain ⟨c, hc, ec⟩ := pc c8
      have s2 : sl ρ0 (3 * u + 2) c := ⟨k, by rw [d2]; exact ek, k3, hk, Or.inr (Or.inr ⟨by omega, c8, by rw [d2]; exact ec⟩)⟩
      obtain ⟨ρ3, e3, h3⟩ := h2.use hN hc (show 3 * u + 2 < 3 * N by omega) (by omega) s2 (fun z hz q => sl_un hN hc hz s2 q)
      rw [if_pos (show nI k = (8:Int32) from (kl 8 (by omega)).mpr c8), ixu, ncl, h2.o 4 (by decide) (by decide), ec, show (3:Int32) * nI u + (2:Int32) = nI (3 * u + 2) by rw [show (3:Int32) * nI u = nI (3 * u) from n_mul 3 u]; exact n_add _ 2, e3, bd1_eq, t105]
      exact ⟨ρ3, rfl, h3.cg (fun s y hy q => by omega)⟩
    · rw [if_neg (show ¬ nI k = (8:Int32) from fun q => c8 ((kl 8 (by omega)).mp q)), t105]
      refine ⟨ρ2, rfl, h2.cg (fun s y hy q => ?_)⟩
      refine ⟨?_, ?_⟩
      · intro w; omega
      · intro w
        apply Classical.byContradiction
        intro w'
        exact c8 ((slk s y (by omega) q).2.2 (by omega))
  by_cases c4 : k = 4 ∨ k = 6
  · have h1' : LkD ρ0 ρ1 N (fun x => x < 3 * u + 2) := by
      refine h1.cg (fun s y hy q => ?_)
      refine ⟨?_, ?_⟩
      · intro w; omega
      · intro w
        apply Classical.byContradiction
        intro w'
        exact (slk s y (by omega) q).2.1 (by omega) c4
    obtain ⟨ρ', e', h'⟩ := t84 h1'
    refine ⟨ρ', ?_, h'⟩
    rcases c4 with c | c
    · rw [if_pos (show nI k = (4:Int32) from (kl 4 (by omega)).mpr c), e']
    · rw [if_neg (show ¬ nI k = (4:Int32) from fun q => by have := (kl 4 (by omega)).mp q; omega), if_pos (show nI k = (6:Int32) from (kl 6 (by omega)).mpr c), e']
  · obtain ⟨b, hb, eb⟩ := pb c4
    have s1 : sl ρ0 (3 * u + 1) b := ⟨k, by rw [d1]; exact ek, k3, hk, Or.inr (Or.inl ⟨by omega, c4, by rw [d1]; exact eb⟩)⟩
    obtain ⟨ρ2, e2, h2⟩ := h1.use hN hb (show 3 * u + 1 < 3 * N by omega) (by omega) s1 (fun z hz q => sl_un hN hb hz s1 q)
    obtain ⟨ρ', e', h'⟩ := t84 (ρ2 := ρ2) (h2.cg (fun s y hy q => by omega))
    refine ⟨ρ', ?_, h'⟩
    rw [if_neg (show ¬ nI k = (4:Int32) from fun q => c4 (Or.inl ((kl 4 (by omega)).mp q))), if_neg (show ¬ nI k = (6:Int32) from fun q => c4 (Or.inr ((kl 6 (by omega)).mp q))), ixu, h1.o 3 (by decide) (by decide), eb, show nI (3 * u) + (1:Int32) = nI (3 * u + 1) from n_add _ 1, e2, bd1_eq, e']
theorem q_link (Q : RSt ρ N) : ∃ ρ', fq_link ρ = some ρ' ∧ (∀ c, c ≠ 8 → c ≠ 9 → ρ'.1 c = ρ.1 c) ∧ ρ'.2 = ρ.2 ∧ Lk ρ' N := by
  have hN := Q.n.2
  obtain ⟨ρ1, e1, h1⟩ := lp_cnt (S := rf_S) (f := lq_link_2) (n := N) (fun i ρ' => (∀ c, c ≠ 8 → ρ'.1 c = ρ.1 c) ∧ ρ'.2 = ρ.2 ∧ ∀ j, j < i → ρ'.1 8 j = -1) (fun i ρ' hi ⟨a1, a2, a3⟩ => by
    refine ⟨rf_w ρ' 8 i (-1:Int32), ?_, fun c hc => by rw [q_w hc]; exact a1 c hc, a2, fun j hj => ?_⟩
    · unfold lq_link_2
      rw [a1 0 (by decide), Q.n.1, if_neg (fun q => by have := (n_le (by omega) (by omega)).mp q; omega), n_ix (show i < 112000 by omega) (by omega), vl_eq, n_cl (show i < 2147483648 by omega), vl_eq, show nI i + (1:Int32) = nI (i + 1) from n_add i 1]
    · by_cases c : j = i
      · rw [c, q_ws]
      · rw [q_wk c]; exact a3 j (by omega)) (fun ρ' ⟨a1, a2, a3⟩ => by
    unfold lq_link_2
    rw [a1 0 (by decide), Q.n.1, if_pos (Int32.le_refl _)]) N 0 ρ (by omega) (by omega) ⟨fun _ _ => rfl, rfl, fun j hj => absurd hj (by omega)⟩
  obtain ⟨a1, a2, a3⟩ := h1
  have L0 : LkD ρ ρ1 N (fun s => s < 3 * 0) := ⟨fun c h8 _ => a1 c h8, a2, fun y hy => ⟨[], by rw [a3 y hy]; exact RL.nil (by decide), fun s => ⟨fun q => absurd q List.not_mem_nil, fun q => absurd q.1 (by omega)⟩⟩⟩
  obtain ⟨ρ2, e2, h2⟩ := lp_cnt (S := rf_S) (f := lq_link_25) (n := N) (fun i ρ' => LkD ρ ρ' N (fun s => s < 3 * i)) (fun i ρ' hi h => h.one Q hi) (fun ρ' h => by
    unfold lq_link_25
    rw [h.o 0 (by decide) (by decide), Q.n.1, if_pos (Int32.le_refl _)]) N 0 ρ1 (by omega) (by omega) L0
  have sle : ∀ s y, sl ρ2 s y ↔ sl ρ s y := by
    intro s y
    unfold sl
    rw [h2.o 1 (by decide) (by decide), h2.o 2 (by decide) (by decide), h2.o 3 (by decide) (by decide), h2.o 4 (by decide) (by decide)]
  refine ⟨ρ2, ?_, h2.o, h2.l2, fun y hy => ?_⟩
  · unfold fq_link bq_link_0 bq_link_2
    rw [show lp (fun z : (Int32 × rf_S) => lq_link_2 z.1 z.2) ((0:Int32), ρ) = _ from e1, Option.bind_some]
    unfold eq_link_2 bq_link_25
    rw [show lp (fun z : (Int32 × rf_S) => lq_link_25 z.1 z.2) ((0:Int32), ρ1) = _ from e2, Option.bind_some]
    rfl
  · obtain ⟨l, Hl, ml⟩ := h2.k y hy
    exact ⟨l, Hl, fun s => by rw [ml, sle]⟩
end Z2_YA
