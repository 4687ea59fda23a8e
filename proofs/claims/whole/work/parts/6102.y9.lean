section Z2_Y9
variable {ρ ρ' ρ0 : rf_S} {L E l : List Nat} {v v' : Nat → Option Nat} {N r : Nat}
theorem sl_P (hN : N ≤ 112000) {s y : Nat} (hu : s / 3 < N) (hy : y < N) (h : sl ρ0 s y) : (grQ ρ0 N).P (s / 3) y ∧ (grQ ρ0 N).cm (s / 3) := by
  obtain ⟨k, ek, k3, k10, h⟩ := h
  have hcc : ¬ (ρ0.1 1 (s / 3) = 0 ∨ ρ0.1 1 (s / 3) = 1 ∨ ρ0.1 1 (s / 3) = 2) := by
    rw [ek]
    rintro (q | q | q)
    · have := (k_eq (c := 0) k10 (by omega)).mp q; omega
    · have := (k_eq (c := 1) k10 (by omega)).mp q; omega
    · have := (k_eq (c := 2) k10 (by omega)).mp q; omega
  refine ⟨⟨hu, hy, hcc, ?_⟩, hu, hcc⟩
  rcases h with ⟨-, h⟩ | ⟨-, n, h⟩ | ⟨-, n, h⟩
  · exact Or.inl h
  · exact Or.inr (Or.inl ⟨by rw [ek]; exact fun q => n (q.imp (k_eq (c := 4) k10 (by omega)).mp (k_eq (c := 6) k10 (by omega)).mp), h⟩)
  · exact Or.inr (Or.inr ⟨by rw [ek, n]; rfl, h⟩)
/-- one use -/
theorem QG.use {y s : Nat} {x1 : Int32} (X : QX ρ0 N r v L) (J : QG ρ0 ρ N r v L E) (hy : y < N) (ky : Kn (grQ ρ0 N) r y) (hs : s < 3 * N) (hsl : sl ρ0 s y) : ∃ ρ' E', lq_know_136i100 x1 (nI r) (nI s) ρ = some (.inl (ρ0.1 9 s, ρ')) ∧ QG ρ0 ρ' N r v L (E ++ E') ∧ ((∀ z, (grQ ρ0 N).P (s / 3) z → hq v r z) → s / 3 ∈ L ++ (E ++ E')) ∧ (s % 3 = 0 → hq v r (s / 3) → ∀ x, x < N → (grQ ρ0 N).o2 (s / 3) y x → x ∈ L ++ (E ++ E')) := by
  have hN := X.Q.n.2
  have hr := X.hr
  have hu : s / 3 < N := by omega
  obtain ⟨hP, hcm⟩ := sl_P hN hu hy hsl
  obtain ⟨k, ek, k3, k10, hs3⟩ := hsl
  have kl : ∀ c, c < 10 → (nI k = nI c ↔ k = c) := fun c hc => k_eq k10 hc
  have ixu : ∀ {α : Type} (w : Option α), ix (nI (s / 3)) 112000 w = w := fun w => n_ix (by omega) (by omega)
  have ncl : (nI (s / 3)).toNatClampNeg = s / 3 := n_cl (by omega)
  have t210 : ∀ {ρ1 : rf_S} {E1 : List Nat}, QG ρ0 ρ1 N r v L E1 → bq_know_210i136 x1 (nI r) (nI s) ρ1 = some (.inl (ρ0.1 9 s, ρ1)) := by
    intro ρ1 E1 J1
    unfold bq_know_210i136
    rw [n_ix (show s < 336000 by omega) (by omega), vl_eq, n_cl (show s < 2147483648 by omega), J1.I (c := 9) (by decide) (by decide) (by decide)]
  have t166 : ∀ {ρ1 : rf_S} {E1 : List Nat}, QG ρ0 ρ1 N r v L E1 → ∃ ρ' E', bq_know_166i136 x1 (nI r) (nI s) (nI (s / 3)) ρ1 = some (.inl (ρ0.1 9 s, ρ')) ∧ QG ρ0 ρ' N r v L (E1 ++ E') ∧ (s % 3 = 0 → hq v r (s / 3) → ∀ x, x < N → (grQ ρ0 N).o2 (s / 3) y x → x ∈ L ++ (E1 ++ E')) := by
    intro ρ1 E1 J1
    have stop : ¬ (k = 8 ∧ s % 3 = 0 ∧ hq v r (s / 3)) → bq_know_210i136 x1 (nI r) (nI s) ρ1 = some (.inl (ρ0.1 9 s, ρ1)) ∧ QG ρ0 ρ1 N r v L (E1 ++ []) ∧ (s % 3 = 0 → hq v r (s / 3) → ∀ x, x < N → (grQ ρ0 N).o2 (s / 3) y x → x ∈ L ++ (E1 ++ [])) := by
      intro h
      refine ⟨t210 J1, by rw [List.append_nil]; exact J1, fun q1 q2 x hx ho => absurd ⟨?_, q1, q2⟩ h⟩
      obtain ⟨-, -, -, h8, -⟩ := ho
      rw [ek] at h8
      exact (kl 8 (by omega)).mp h8
    unfold bq_know_166i136
    rw [ixu, ncl, J1.I (c := 1) (by decide) (by decide) (by decide), ek, n_rem3 (show s < 2147483648 by omega)]
    by_cases c8 : k = 8
    rotate_left
    · rw [if_neg (show ¬ nI k = (8:Int32) from fun q => c8 ((kl 8 (by omega)).mp q))]
      exact ⟨ρ1, [], stop (fun q => c8 q.1)⟩
    rw [if_pos (show nI k = (8:Int32) from (kl 8 (by omega)).mpr c8)]
    by_cases c0 : s % 3 = 0
    rotate_left
    · rw [if_neg (show ¬ nI (s % 3) = (0:Int32) from fun q => c0 ((n_eq (a := s % 3) (b := 0) (by omega) (by omega)).mp q))]
      exact ⟨ρ1, [], stop (fun q => c0 q.2.1)⟩
    rw [if_pos (show nI (s % 3) = (0:Int32) by rw [c0]; rfl), ixu]
    obtain ⟨m, hm, em, im⟩ := J1.val X hu
    rw [em]
    by_cases cm : r < m
    · rw [if_pos ((n_lt (by omega) (by omega)).mpr cm)]
      exact ⟨ρ1, [], stop (fun q => by have := im.mpr q.2.2; omega)⟩
    rw [if_neg (fun q => cm ((n_lt (by omega) (by omega)).mp q)), ixu, J1.I (c := 4) (by decide) (by decide) (by decide)]
    obtain ⟨k', hk', ek', pk⟩ := q_img X.Q hu
    have := (k_eq hk' k10).mp (ek'.symm.trans ek)
    subst this
    obtain ⟨-, -, pc⟩ := pk k3
    obtain ⟨c, hc, ec⟩ := pc c8
    have e2y : ρ0.1 2 (s / 3) = nI y := by
      rcases hs3 with ⟨-, q⟩ | ⟨q, -⟩ | ⟨q, -⟩
      · exact q
      · omega
      · omega
    rw [ec]
    obtain ⟨ρ2, E2, e2, J2, m2⟩ := J1.had X hc (Or.inr ⟨hc, Or.inr (Or.inl ⟨s / 3, y, X.had (im.mp (by omega)), ky, hu, hy, hc, by rw [ek, c8]; rfl, e2y, ec⟩)⟩)
    rw [e2, bd1_eq]
    refine ⟨ρ2, E2, t210 J2, J2, fun _ _ x hx ho => ?_⟩
    obtain ⟨-, -, -, -, -, h4⟩ := ho
    rw [ec] at h4
    have := (t_eq hN hc hx).mp h4
    subst this
    exact m2
  obtain ⟨M, hM, eM, iM⟩ := J.parts X hu k10 ek k3
  unfold lq_know_136i100
  rw [if_neg (n_nneg (show s < 2147483648 by omega)), vl_eq, show nI s / (3:Int32) = nI (s / 3) from n_div (b := 3) (by omega) (by omega), eM, bd2_eq]
  by_cases cM : r < M
  · rw [if_pos ((n_lt (by omega) (by omega)).mpr cM)]
    obtain ⟨ρ', E', e, J', k'⟩ := t166 J
    exact ⟨ρ', E', e, J', fun q => by have := iM.mpr q; omega, k'⟩
  · rw [if_neg (fun q => cM ((n_lt (by omega) (by omega)).mp q))]
    have all := iM.mp (by omega)
    obtain ⟨ρ1, E1, e1, J1, m1⟩ := J.had X hu (Or.inr ⟨hu, Or.inr (Or.inr ⟨hcm, fun z hz => X.had (all z hz)⟩)⟩)
    rw [e1, bd1_eq]
    obtain ⟨ρ2, E2, e2, J2, k2⟩ := t166 J1
    refine ⟨ρ2, E1 ++ E2, e2, by rw [← List.append_assoc]; exact J2, fun _ => ?_, by rw [← List.append_assoc E]; exact k2⟩
    rw [← List.append_assoc E, ← List.append_assoc]
    exact List.mem_append.mpr (Or.inl m1)
/-- all uses -/
theorem QG.uses {y : Nat} {x1 : Int32} (X : QX ρ0 N r v L) (hy : y < N) (ky : Kn (grQ ρ0 N) r y) : ∀ (l : List Nat) (x4 : Int32) (ρ : rf_S) (E : List Nat), RL (ρ0.1 9) x4 l → (∀ s, s ∈ l → s < 3 * N ∧ sl ρ0 s y) → QG ρ0 ρ N r v L E → ∃ ρ' E' w, lp (fun z : (Int32 × rf_S) => lq_know_136i100 x1 (nI r) z.1 z.2) (x4, ρ) = some (w, ρ') ∧ QG ρ0 ρ' N r v L (E ++ E') ∧ (∀ s, s ∈ l → ((∀ z, (grQ ρ0 N).P (s / 3) z → hq v r z) → s / 3 ∈ L ++ (E ++ E')) ∧ (s % 3 = 0 → hq v r (s / 3) → ∀ x, x < N → (grQ ρ0 N).o2 (s / 3) y x → x ∈ L ++ (E ++ E'))) := by
  intro l
  induction l with
  | nil =>
    intro x4 ρ E H hl J
    have H : x4 < 0 := H
    refine ⟨ρ, [], x4, lp_end (s := (x4, ρ)) ?_, by rw [List.append_nil]; exact J, fun s hs => absurd hs List.not_mem_nil⟩
    show lq_know_136i100 x1 (nI r) x4 ρ = _
    unfold lq_know_136i100
    rw [if_pos H]
  | cons s l ih =>
    intro x4 ρ E H hl J
    obtain ⟨rfl, H⟩ := H
    obtain ⟨hs, hsl⟩ := hl s List.mem_cons_self
    obtain ⟨ρ1, E1, e1, J1, a1, b1⟩ := J.use (x1 := x1) X hy ky hs hsl
    obtain ⟨ρ2, E2, w, e2, J2, k2⟩ := ih _ ρ1 (E ++ E1) H (fun w hw => hl w (List.mem_cons_of_mem _ hw)) J1
    refine ⟨ρ2, E1 ++ E2, w, by rw [lp_next (s := (nI s, ρ)) e1]; exact e2, by rw [← List.append_assoc]; exact J2, fun w hw => ?_⟩
    have up : ∀ x, x ∈ L ++ (E ++ E1) → x ∈ L ++ (E ++ (E1 ++ E2)) := fun x hx => by
      rw [← List.append_assoc E, ← List.append_assoc]
      exact List.mem_append.mpr (Or.inl hx)
    rcases List.mem_cons.mp hw with rfl | hw
    · exact ⟨fun q => up _ (a1 q), fun q1 q2 x hx ho => up _ (b1 q1 q2 x hx ho)⟩
    · rw [← List.append_assoc E]; exact k2 w hw
/-- the uses are linked -/
def Lk (ρ0 : rf_S) (N : Nat) : Prop := ∀ y, y < N → ∃ l, RL (ρ0.1 9) (ρ0.1 8 y) l ∧ ∀ s, s ∈ l ↔ s < 3 * N ∧ sl ρ0 s y
theorem P_sl (Q : RSt ρ0 N) {u y : Nat} (h : (grQ ρ0 N).P u y) : ∃ s, s < 3 * N ∧ s / 3 = u ∧ sl ρ0 s y ∧ (ρ0.1 2 u = nI y → s % 3 = 0) := by
  obtain ⟨hu, hy, hcc, h⟩ := h
  have hu : u < N := hu
  obtain ⟨k, hk, ek, pk⟩ := q_img Q hu
  have k3 : 3 ≤ k := by
    apply Classical.byContradiction
    intro q
    rw [ek] at hcc
    have : k = 0 ∨ k = 1 ∨ k = 2 := by omega
    rcases this with rfl | rfl | rfl
    · exact hcc (Or.inl rfl)
    · exact hcc (Or.inr (Or.inl rfl))
    · exact hcc (Or.inr (Or.inr rfl))
  by_cases c2 : ρ0.1 2 u = nI y
  · exact ⟨3 * u, by omega, by omega, ⟨k, by rw [show 3 * u / 3 = u by omega]; exact ek, k3, hk, Or.inl ⟨by omega, by rw [show 3 * u / 3 = u by omega]; exact c2⟩⟩, fun _ => by omega⟩
  rcases h with h | ⟨n, h⟩ | ⟨n, h⟩
  · exact absurd h c2
  · refine ⟨3 * u + 1, by omega, by omega, ⟨k, by rw [show (3 * u + 1) / 3 = u by omega]; exact ek, k3, hk, Or.inr (Or.inl ⟨by omega, fun q => n (by rw [ek]; exact q.imp (k_eq (c := 4) hk (by omega)).mpr (k_eq (c := 6) hk (by omega)).mpr), by rw [show (3 * u + 1) / 3 = u by omega]; exact h⟩)⟩, fun q => absurd q c2⟩
  · refine ⟨3 * u + 2, by omega, by omega, ⟨k, by rw [show (3 * u + 2) / 3 = u by omega]; exact ek, k3, hk, Or.inr (Or.inr ⟨by omega, by rw [ek] at n; exact (k_eq (c := 8) hk (by omega)).mp n, by rw [show (3 * u + 2) / 3 = u by omega]; exact h⟩)⟩, fun q => absurd q c2⟩
theorem grQ_cmP (Q : RSt ρ0 N) : ∀ x, (grQ ρ0 N).V x → (grQ ρ0 N).cm x → ∃ z, (grQ ρ0 N).P x z := by
  rintro x hx ⟨-, hcc⟩
  have hx : x < N := hx
  obtain ⟨k, hk, ek, pk⟩ := q_img Q hx
  have k3 : 3 ≤ k := by
    apply Classical.byContradiction
    intro q
    rw [ek] at hcc
    have : k = 0 ∨ k = 1 ∨ k = 2 := by omega
    rcases this with rfl | rfl | rfl
    · exact hcc (Or.inl rfl)
    · exact hcc (Or.inr (Or.inl rfl))
    · exact hcc (Or.inr (Or.inr rfl))
  obtain ⟨⟨a, ha, ea⟩, -⟩ := pk k3
  exact ⟨a, hx, ha, hcc, Or.inl ea⟩
/-- the queue to its end -/
theorem q_queue (Q : RSt ρ0 N) (K : Lk ρ0 N) : ∀ m (p q : List Nat) (ρ : rf_S) (v : Nat → Option Nat), N - p.length = m → BF (grQ ρ0 N) v p q → QU ρ0 ρ N v (p ++ q) → ∃ (ρ' : rf_S) (v' : Nat → Option Nat) (p' : List Nat) (y : Int32), lp (fun z : (Int32 × rf_S) => lq_know_100 z.1 z.2) (nI p.length, ρ) = some (y, ρ') ∧ QU ρ0 ρ' N v' p' ∧ BF (grQ ρ0 N) v' p' [] := by
  have hN := Q.n.2
  intro m
  induction m with
  | zero =>
    intro p q ρ v hm B S
    have l1 := nd_lt B.nd S.ql
    rw [List.length_append] at l1
    have q0 : q = [] := List.eq_nil_of_length_eq_zero (by omega)
    subst q0
    rw [List.append_nil] at S
    refine ⟨ρ, v, p, nI p.length, lp_end (s := (nI p.length, ρ)) ?_, S, B⟩
    show lq_know_100 (nI p.length) ρ = _
    unfold lq_know_100
    rw [S.cn, if_pos (Int32.le_refl _)]
  | succ m ih =>
    intro p q ρ v hm B S
    cases q with
    | nil =>
      rw [List.append_nil] at S
      refine ⟨ρ, v, p, nI p.length, lp_end (s := (nI p.length, ρ)) ?_, S, B⟩
      show lq_know_100 (nI p.length) ρ = _
      unfold lq_know_100
      rw [S.cn, if_pos (Int32.le_refl _)]
    | cons y q =>
      have yL : y ∈ p ++ y :: q := by simp
      have hy := S.ql y yL
      have hlen := nd_lt S.nd S.ql
      rw [List.length_append, List.length_cons] at hlen
      obtain ⟨r, er⟩ := (B.kn y).mp yL
      have vr : vv v y = r := by unfold vv; rw [er]; rfl
      have hr := B.sm y r er
      have ky := B.so y r er
      have X : QX ρ0 N r v (p ++ y :: q) := ⟨Q, by omega, B.kn, B.so, fun x s es => by
        have := B.gap y List.mem_cons_self x ((B.kn x).mpr ⟨s, es⟩)
        rw [vr] at this; unfold vv at this; rw [es] at this; exact this⟩
      have J : QG ρ0 ρ N r v (p ++ y :: q) [] := ⟨v, by rw [List.append_nil]; exact S, Gw.refl B.nd⟩
      obtain ⟨ρ1, E1, e1, J1, a1, b1⟩ := J.opn X hy ky
      rw [List.nil_append] at J1 a1 b1
      obtain ⟨l, Hl, ml⟩ := K y hy
      obtain ⟨ρ2, E2, w, e2, J2, k2⟩ := QG.uses (x1 := nI p.length) X hy ky l _ ρ1 E1 Hl (fun s hs => (ml s).mp hs) J1
      have hdp : ∀ k, k ∈ p ++ [y] → hq v r k := by
        intro k hk
        have kL : k ∈ p ++ y :: q := by
          simp only [List.mem_append, List.mem_cons, List.not_mem_nil, or_false] at hk ⊢
          rcases hk with h | h
          · exact Or.inl h
          · exact Or.inr (Or.inl h)
        obtain ⟨s, es⟩ := (B.kn k).mp kL
        refine ⟨s, es, ?_⟩
        rcases List.mem_append.mp hk with h | h
        · have := (List.pairwise_append.mp B.mo).2.2 k h y List.mem_cons_self
          rw [vr] at this
          unfold vv at this; rw [es] at this; exact this
        · rw [List.mem_singleton.mp h, er] at es; cases es; exact Nat.le_refl _
      obtain ⟨v2, S2, W2⟩ := id J2
      have up : ∀ x, x ∈ p ++ y :: q ++ E1 → x ∈ p ++ y :: q ++ (E1 ++ E2) := fun x hx => by
        rw [← List.append_assoc]; exact List.mem_append.mpr (Or.inl hx)
      have B2 : BF (grQ ρ0 N) v2 (p ++ [y]) (q ++ (E1 ++ E2)) := by
        refine B.step (by rw [vr]; exact W2) (grQ_cmP Q) (fun x hV ho => up x (a1 x hV ho)) (fun k hk x hV ho => ?_) (fun x hV hcm hP hz => ?_)
        · rcases ho with ho | ho
          · exact up x (b1 k x (hdp k hk) hV ho)
          · have ho' := ho
            obtain ⟨hk', hy', hx', h8, h2, h4⟩ := ho'
            have hP : (grQ ρ0 N).P k y := ⟨hk', hy', by rw [h8]; decide, Or.inl h2⟩
            obtain ⟨s, hs, hsu, hsl, hs0⟩ := P_sl Q hP
            have := (k2 s ((ml s).mpr ⟨hs, hsl⟩)).2 (hs0 h2)
            rw [hsu] at this
            exact this (hdp k hk) x hV ho
        · obtain ⟨s, hs, hsu, hsl, hs0⟩ := P_sl Q hP
          have := (k2 s ((ml s).mpr ⟨hs, hsl⟩)).1
          rw [hsu] at this
          exact this (fun z hz' => hdp z (hz z hz'))
      have ap : (p ++ [y]) ++ (q ++ (E1 ++ E2)) = p ++ y :: q ++ (E1 ++ E2) := by simp
      obtain ⟨ρ', v', p', z, e', S', B'⟩ := ih (p ++ [y]) (q ++ (E1 ++ E2)) ρ2 v2 (by rw [List.length_append, List.length_singleton]; omega) B2 (by rw [ap]; exact S2)
      refine ⟨ρ', v', p', z, ?_, S', B'⟩
      have gy : (p ++ y :: q).getD p.length 0 = y := by
        rw [List.getD_eq_getElem?_getD, List.getElem?_append_right (Nat.le_refl _), Nat.sub_self]; rfl
      have st : lq_know_100 (nI p.length) ρ = some (.inl (nI (p ++ [y]).length, ρ2)) := by
        unfold lq_know_100
        rw [S.cn, List.length_append, List.length_cons, if_neg (fun q => by have := (n_le (by omega) (by omega)).mp q; omega), n_ix (show p.length < 112000 by omega) (by omega), vl_eq, n_cl (show p.length < 2147483648 by omega), S.q p.length (by rw [List.length_append, List.length_cons]; omega), gy, n_ix (show y < 112000 by omega) (by omega), vl_eq, n_cl (show y < 2147483648 by omega), S.v1 y r hy er, e1, bd1_eq, n_ix (show y < 112000 by omega) (by omega), vl_eq, J1.I (c := 8) (by decide) (by decide) (by decide)]
        unfold bq_know_136i100
        rw [e2, Option.bind_some]
        unfold eq_know_136i100
        rw [vl_eq, show nI p.length + (1:Int32) = nI (p.length + 1) from n_add _ 1, List.length_append, List.length_singleton]
      rw [lp_next (s := (nI p.length, ρ)) st]
      exact e'
end Z2_Y9
