section Z2_YB
variable {ρ ρ' ρ0 : rf_S} {L E l : List Nat} {v v' : Nat → Option Nat} {N r : Nat}
/-- what is known at first, of the first i terms -/
def Q50 (ρ0 : rf_S) (N i : Nat) (ρ : rf_S) : Prop := ∃ v L, QU ρ0 ρ i v L ∧ (∀ a, v a = if a ∈ L then some 0 else none) ∧ ∀ a, a ∈ L ↔ a < i ∧ (grQ ρ0 N).bs a
theorem q_50 (Q : RSt ρ0 N) {i : Nat} (hi : i < N) (h : Q50 ρ0 N i ρ) : ∃ ρ', lq_know_50 (nI i) ρ = some (.inl (nI (i + 1), ρ')) ∧ Q50 ρ0 N (i + 1) ρ' := by
  have hN := Q.n.2
  have ixi : ∀ {α : Type} (w : Option α), ix (nI i) 112000 w = w := fun w => n_ix (by omega) (by omega)
  have ncl : (nI i).toNatClampNeg = i := n_cl (by omega)
  obtain ⟨v, L, S, hv, mL⟩ := h
  have iL : i ∉ L := fun q => by have := S.ql i q; omega
  have vi : v i = none := by rw [hv, if_neg iL]
  have S1 : QU ρ0 (rf_w ρ 7 i (1000000000:Int32)) (i + 1) v L := by
    refine ⟨fun c h0 h7 h10 => by rw [q_w h7]; exact S.I c h0 h7 h10, fun j hj => by rw [q_w (by decide)]; exact S.f j hj, S.l2, fun a ha e => ?_, fun a s ha e => ?_, S.kn, S.sm, by rw [q_w (by decide)]; exact S.cn, fun j hj => by rw [q_w (by decide)]; exact S.q j hj, S.nd, fun a ha => by have := S.ql a ha; omega⟩
    · by_cases c : a = i
      · rw [c, q_ws]; rfl
      · rw [q_wk c]; exact S.v0 a (by omega) e
    · have c : a ≠ i := fun c => by rw [c, vi] at e; cases e
      rw [q_wk c]; exact S.v1 a s (by omega) e
  obtain ⟨k, hk, ek, -⟩ := q_img Q hi
  have k2 : nI k < (2:Int32) ↔ (k = 0 ∨ k = 1) := by
    rw [show (2:Int32) = nI 2 from rfl, n_lt (by omega) (by omega)]; omega
  have t92 : ∀ ρ1 : rf_S, bq_know_92i50 (nI i) ρ1 = some (.inl (nI (i + 1), ρ1)) := by
    intro ρ1
    unfold bq_know_92i50
    rw [vl_eq, show nI i + (1:Int32) = nI (i + 1) from n_add i 1]
  unfold lq_know_50
  rw [S.f 12 (by decide), Q.n.1, if_neg (fun q => by have := (n_le (by omega) (by omega)).mp q; omega), ixi, vl_eq, ixi, ncl, S1.I 1 (by decide) (by decide) (by decide), ek]
  by_cases hb : (grQ ρ0 N).bs i
  · obtain ⟨ρ2, e2, h2, -⟩ := S1.hadBy (N := N) (x := i) (s := 0) hN (by omega) (by omega) (by omega) (fun t et => by rw [vi] at et; cases et)
    have t86 : bq_know_86i50 (nI i) (rf_w ρ 7 i (1000000000:Int32)) = some (.inl (nI (i + 1), ρ2)) := by
      unfold bq_know_86i50
      rw [show (0:Int32) = nI 0 from rfl, e2, bd1_eq, t92]
    rcases h2 with ⟨q, -⟩ | ⟨-, S2⟩
    · exact absurd q iL
    refine ⟨ρ2, ?_, _, _, S2, fun a => ?_, fun a => ?_⟩
    · by_cases c : nI k < (2:Int32)
      · rw [if_pos c, t86]
      · rw [if_neg c, ixi, S1.I 6 (by decide) (by decide) (by decide), if_neg, t86]
        intro q
        obtain ⟨-, w | w | w⟩ := hb
        · exact w q
        · rw [ek] at w; exact c (k2.mpr (Or.inl ((k_eq (c := 0) hk (by omega)).mp w)))
        · rw [ek] at w; exact c (k2.mpr (Or.inr ((k_eq (c := 1) hk (by omega)).mp w)))
    · by_cases ca : a = i
      · rw [vset_s ca, if_pos (by rw [ca]; simp)]
      · rw [vset_n ca, hv a]
        by_cases cL : a ∈ L
        · rw [if_pos cL, if_pos (List.mem_append.mpr (Or.inl cL))]
        · rw [if_neg cL, if_neg (fun q => by rcases List.mem_append.mp q with q | q; exact cL q; exact ca (List.mem_singleton.mp q))]
    · rw [List.mem_append, List.mem_singleton, mL]
      refine ⟨?_, ?_⟩
      · rintro (⟨q, w⟩ | rfl)
        · exact ⟨by omega, w⟩
        · exact ⟨by omega, hb⟩
      · rintro ⟨q, w⟩
        by_cases ca : a = i
        · exact Or.inr ca
        · exact Or.inl ⟨by omega, w⟩
  · refine ⟨_, ?_, v, L, S1, hv, fun a => ?_⟩
    · rw [if_neg (fun q => hb ⟨hi, Or.inr ((k2.mp q).imp (fun c => by rw [ek, c]; rfl) (fun c => by rw [ek, c]; rfl))⟩), ixi, S1.I 6 (by decide) (by decide) (by decide), if_pos (Classical.byContradiction fun q => hb ⟨hi, Or.inl q⟩), t92]
    · rw [mL]
      refine ⟨?_, ?_⟩
      · rintro ⟨q, w⟩; exact ⟨by omega, w⟩
      · rintro ⟨q, w⟩
        by_cases ca : a = i
        · rw [ca] at w; exact absurd w hb
        · exact ⟨by omega, w⟩
theorem grQ_eq {ρ ρ' : rf_S} (h : ∀ c, c = 1 ∨ c = 2 ∨ c = 3 ∨ c = 4 ∨ c = 6 → ρ'.1 c = ρ.1 c) : grQ ρ' N = grQ ρ N := grQ_cg (fun c hc t _ => by rw [h c hc])
/-- knowing -/
theorem q_know (Q : RSt ρ N) (J : JQ ρ N) : ∃ ρ', fq_know ρ = some ρ' ∧ (∀ c, c ≠ 0 → c ≠ 7 → c ≠ 8 → c ≠ 9 → c ≠ 10 → ρ'.1 c = ρ.1 c) ∧ ρ'.2 = ρ.2 ∧ (∀ j, j ≠ 10 → j ≠ 15 → j ≠ 16 → ρ'.1 0 j = ρ.1 0 j) ∧ JQ ρ' N ∧ ∀ t, t < N → rdR (grQ ρ' N) 1000000000 (ρ'.1 7 t) t := by
  have hN := Q.n.2
  obtain ⟨bc, b1, b2, b3, b4, b5⟩ := id J
  have lcb := cb_le (ρ.1 6) N
  have main : ∃ ρ', bq_know_23 ρ = some ρ' ∧ (∀ c, c ≠ 0 → c ≠ 7 → c ≠ 8 → c ≠ 9 → c ≠ 10 → ρ'.1 c = ρ.1 c) ∧ ρ'.2 = ρ.2 ∧ (∀ j, j ≠ 10 → j ≠ 15 → j ≠ 16 → ρ'.1 0 j = ρ.1 0 j) ∧ JQ ρ' N ∧ ∀ t, t < N → rdR (grQ ρ' N) 1000000000 (ρ'.1 7 t) t := by
    have g1 : ∀ c, c ≠ 0 → (rf_w (rf_w ρ 0 15 (ρ.1 0 12)) 0 16 ((rf_w ρ 0 15 (ρ.1 0 12)).1 0 14)).1 c = ρ.1 c := fun c hc => by rw [q_w hc, q_w hc]
    have g2 : ∀ j, j ≠ 15 → j ≠ 16 → (rf_w (rf_w ρ 0 15 (ρ.1 0 12)) 0 16 ((rf_w ρ 0 15 (ρ.1 0 12)).1 0 14)).1 0 j = ρ.1 0 j := fun j h1 h2 => by rw [q_wk h2, q_wk h1]
    have g15 : (rf_w (rf_w ρ 0 15 (ρ.1 0 12)) 0 16 ((rf_w ρ 0 15 (ρ.1 0 12)).1 0 14)).1 0 15 = nI N := by rw [q_wk (by decide), q_ws, Q.n.1]
    have g16 : (rf_w (rf_w ρ 0 15 (ρ.1 0 12)) 0 16 ((rf_w ρ 0 15 (ρ.1 0 12)).1 0 14)).1 0 16 = nI bc := by rw [q_ws, q_wk (by decide), b1]
    have gl : (rf_w (rf_w ρ 0 15 (ρ.1 0 12)) 0 16 ((rf_w ρ 0 15 (ρ.1 0 12)).1 0 14)).2 = ρ.2 := rfl
    unfold bq_know_23
    rw [vl_eq, vl_eq]
    have Q2 : RSt (rf_w (rf_w ρ 0 15 (ρ.1 0 12)) 0 16 ((rf_w ρ 0 15 (ρ.1 0 12)).1 0 14)) N := Q.cg (fun d hd => g1 d (by omega)) (fun j hj => g2 j (by omega) (by omega))
    generalize rf_w (rf_w ρ 0 15 (ρ.1 0 12)) 0 16 ((rf_w ρ 0 15 (ρ.1 0 12)).1 0 14) = ρ2 at *
    obtain ⟨ρ3, e3, o3, l3, K3⟩ := q_link Q2
    rw [e3, bd1_eq, vl_eq]
    have o4 : ∀ c, c ≠ 0 → (rf_w ρ3 0 10 (0:Int32)).1 c = ρ3.1 c := fun c hc => q_w hc
    have f4 : ∀ j, j ≠ 10 → (rf_w ρ3 0 10 (0:Int32)).1 0 j = ρ2.1 0 j := fun j hj => by rw [q_wk hj, o3 0 (by decide) (by decide)]
    have c4 : (rf_w ρ3 0 10 (0:Int32)).1 0 10 = nI 0 := by rw [q_ws]; rfl
    have l4 : (rf_w ρ3 0 10 (0:Int32)).2 = ρ.2 := by rw [q_wL, l3, gl]
    generalize rf_w ρ3 0 10 (0:Int32) = ρ4 at *
    have Q4 : RSt ρ4 N := Q2.cg (fun d hd => by rw [o4 d (by omega), o3 d (by omega) (by omega)]) (fun j hj => f4 j (by omega))
    have K4 : Lk ρ4 N := by
      intro y hy
      obtain ⟨l, Hl, ml⟩ := K3 y hy
      refine ⟨l, by rw [o4 8 (by decide), o4 9 (by decide)]; exact Hl, fun s => ?_⟩
      rw [ml]
      unfold sl
      rw [o4 1 (by decide), o4 2 (by decide), o4 3 (by decide), o4 4 (by decide)]
    have S4 : Q50 ρ4 N 0 ρ4 := ⟨fun _ => none, [], ⟨fun _ _ _ _ => rfl, fun _ _ => rfl, rfl, fun a ha => absurd ha (by omega), fun a s ha => absurd ha (by omega), fun a => ⟨fun q => absurd q List.not_mem_nil, fun ⟨s, e⟩ => by cases e⟩, fun a s e => (by cases e), c4, fun j hj => absurd hj (by simp), List.nodup_nil, fun a ha => absurd ha List.not_mem_nil⟩, fun a => by simp, fun a => ⟨fun q => absurd q List.not_mem_nil, fun q => absurd q.1 (by omega)⟩⟩
    obtain ⟨ρ5, e5, v5, L5, S5, hv5, m5⟩ := lp_cnt (S := rf_S) (f := lq_know_50) (n := N) (fun i ρ' => Q50 ρ4 N i ρ') (fun i ρ' hi h => q_50 Q4 hi h) (fun ρ' ⟨v, L, S, _⟩ => by
      unfold lq_know_50
      rw [S.f 12 (by decide), Q4.n.1, if_pos (Int32.le_refl _)]) N 0 ρ4 (by omega) (by omega) S4
    have B5 : BF (grQ ρ4 N) v5 [] L5 := by
      refine BF.start S5.nd (fun x => ?_) (fun x => ?_) (grQ_cmP Q4)
      · rw [m5]; exact Iff.rfl
      · rw [hv5]
    obtain ⟨ρ6, v6, p6, z, e6, S6, B6⟩ := q_queue Q4 K4 N [] L5 ρ5 v5 (by simp) B5 S5
    have o6 : ∀ c, c ≠ 0 → c ≠ 7 → c ≠ 8 → c ≠ 9 → c ≠ 10 → ρ6.1 c = ρ.1 c := fun c h0 h7 h8 h9 h10 => by rw [S6.I c h0 h7 h10, o4 c h0, o3 c h8 h9, g1 c h0]
    have gq : grQ ρ6 N = grQ ρ4 N := grQ_eq (fun c hc => S6.I c (by omega) (by omega) (by omega))
    have rd6 : ∀ t, t < N → rdR (grQ ρ6 N) 1000000000 (ρ6.1 7 t) t := by
      intro t ht
      rw [gq]
      rcases B6.fin t with ⟨e, k⟩ | ⟨s, e, k1, k2⟩
      · exact Or.inl ⟨S6.v0 t ht e, k⟩
      · exact Or.inr ⟨s, S6.sm t s e, S6.v1 t s ht e, k1, k2⟩
    refine ⟨ρ6, ?_, o6, by rw [S6.l2, l4], fun j h10 h15 h16 => by rw [S6.f j h10, f4 j h10, g2 j h15 h16], ?_, rd6⟩
    · unfold bq_know_50
      rw [show lp (fun z : (Int32 × rf_S) => lq_know_50 z.1 z.2) ((0:Int32), ρ4) = _ from e5, Option.bind_some]
      unfold eq_know_50 bq_know_100
      rw [show lp (fun z : (Int32 × rf_S) => lq_know_100 z.1 z.2) ((0:Int32), ρ5) = _ from e6, Option.bind_some]
      rfl
    · have w15 : ρ6.1 0 15 = nI N := by rw [S6.f 15 (by decide), f4 15 (by decide), g15]
      have w16 : ρ6.1 0 16 = nI bc := by rw [S6.f 16 (by decide), f4 16 (by decide), g16]
      refine ⟨bc, by rw [S6.f 14 (by decide), f4 14 (by decide), g2 14 (by decide) (by decide)]; exact b1, by rw [o6 6 (by decide) (by decide) (by decide) (by decide) (by decide)]; exact b2, Or.inr ⟨N, w15, Nat.le_refl _⟩, Or.inr ⟨bc, w16, Nat.le_refl _⟩, fun _ _ => rd6⟩
  unfold fq_know bq_know_0
  by_cases c1 : ρ.1 0 15 = ρ.1 0 12
  · rw [if_pos c1]
    by_cases c2 : ρ.1 0 16 = ρ.1 0 14
    · rw [if_pos c2]
      exact ⟨ρ, rfl, fun _ _ _ _ _ _ => rfl, rfl, fun _ _ _ _ => rfl, J, b5 (by rw [c1]; exact Q.n.1) (by rw [c2]; exact b1)⟩
    · rw [if_neg c2]; exact main
  · rw [if_neg c1]; exact main
end Z2_YB
