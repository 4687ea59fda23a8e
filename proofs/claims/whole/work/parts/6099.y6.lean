section Z2_Y6
variable {σ σ' σ0 : cl_S} {ts L E l : List Nat} {v v' : Nat → Option Nat} {G : Gr} {r : Nat}
theorem grC_cmP (C : CSt σ0 ts) : ∀ x, (grC σ0 ts).V x → (grC σ0 ts).cm x → ∃ z, (grC σ0 ts).P x z := by
  rintro x hx ⟨-, h3⟩
  obtain ⟨a, b, c, ea, -⟩ := part_in C hx
  refine ⟨a, hx, fun q => h3 (by rw [ea, q]), Or.inl ea⟩
/-- the queue to its end -/
theorem c_queue (C : CSt σ0 ts) (hts : ts.length < 999999999) : ∀ m (p q : List Nat) (x1 : Option Nat) (σ : cl_S) (v : Nat → Option Nat), ts.length - p.length = m → BF (grC σ0 ts) v p q → JS σ0 σ ts v (p ++ q) → Lst (fun a => σ.2.2.1 a 11) x1 q → ∃ (σ' : cl_S) (v' : Nat → Option Nat) (p' : List Nat) (y : (Option Nat) × Int32), lp (fun z : ((Option Nat) × Int32 × cl_S) => lc_X10_judge_89 31 z.1 z.2.1 z.2.2) (x1, nI p.length, σ) = some (y.1, y.2, σ') ∧ JS σ0 σ' ts v' p' ∧ BF (grC σ0 ts) v' p' [] := by
  intro m
  induction m with
  | zero =>
    intro p q x1 σ v hm B S H
    have l1 := nd_len (p ++ q) ts B.nd S.ql
    rw [List.length_append] at l1
    have q0 : q = [] := List.eq_nil_of_length_eq_zero (by omega)
    subst q0
    rw [List.append_nil] at S
    refine ⟨σ, v, p, (x1, nI p.length), lp_end (s := (x1, nI p.length, σ)) ?_, S, B⟩
    show lc_X10_judge_89 31 x1 (nI p.length) σ = _
    unfold lc_X10_judge_89
    rw [S.I 31 2 (fun w => absurd w.2 (by decide)), C.cnt, if_pos ((n_le (by omega) (by omega)).mpr (by omega))]
  | succ m ih =>
    intro p q x1 σ v hm B S H
    have hc : σ.1 31 2 = nI ts.length := by rw [S.I 31 2 (fun w => absurd w.2 (by decide)), C.cnt]
    have nle : ¬ nI ts.length ≤ nI p.length := fun w => by have := (n_le (by omega) (by omega)).mp w; omega
    cases q with
    | nil =>
      cases (show x1 = none from H)
      rw [List.append_nil] at S
      refine ⟨σ, v, p, (none, nI p.length), lp_end (s := ((none : Option Nat), nI p.length, σ)) ?_, S, B⟩
      show lc_X10_judge_89 31 none (nI p.length) σ = _
      unfold lc_X10_judge_89
      rw [hc, if_neg nle, if_pos rfl]
    | cons y q =>
      obtain ⟨rfl, H⟩ := H
      have yL : y ∈ p ++ y :: q := by simp
      have hy := S.ql y yL
      have y31 : y ≠ 31 := fun w => by have := (C.mem y hy).1; omega
      obtain ⟨r, er⟩ := (B.kn y).mp yL
      have vr : vv v y = r := by unfold vv; rw [er]; rfl
      have hr := B.sm y r er
      have X : JX σ0 ts r v (p ++ y :: q) := ⟨C, by omega, B.kn, B.so⟩
      have J : JG σ0 σ ts r v (p ++ y :: q) [] := ⟨v, by rw [List.append_nil]; exact S, Gw.refl B.nd⟩
      obtain ⟨σ1, E1, e1, J1, a1, b1⟩ := J.apart X hy er
      rw [List.nil_append] at J1 a1 b1
      obtain ⟨σ2, E2, e2, J2, k2⟩ := J1.together X hy er
      have hdp : ∀ k, k ∈ p ++ [y] → hd v r k := by
        intro k hk
        have kL : k ∈ p ++ y :: q := by
          simp only [List.mem_append, List.mem_cons, List.not_mem_nil, or_false] at hk ⊢
          rcases hk with h | h
          · exact Or.inl h
          · exact Or.inr (Or.inl h)
        obtain ⟨s, es⟩ := (B.kn k).mp kL
        refine Or.inr ⟨s, es, ?_⟩
        rcases List.mem_append.mp hk with h | h
        · have := (List.pairwise_append.mp B.mo).2.2 k h y List.mem_cons_self
          rw [vr] at this
          unfold vv at this; rw [es] at this; exact this
        · rw [List.mem_singleton.mp h, er] at es; cases es; exact Nat.le_refl _
      obtain ⟨v2, S2, W2⟩ := id J2
      have up : ∀ x, x ∈ p ++ y :: q ++ E1 → x ∈ p ++ y :: q ++ (E1 ++ E2) := fun x hx => by
        rw [← List.append_assoc]; exact List.mem_append.mpr (Or.inl hx)
      have B2 : BF (grC σ0 ts) v2 (p ++ [y]) (q ++ (E1 ++ E2)) := by
        refine B.step (by rw [vr]; exact W2) (grC_cmP C) (fun x hV ho => up x (a1 x hV ho)) (fun k hk x hV ho => ?_) (fun x hV hcm hP hz => ?_)
        · rcases ho with ho | ho
          · exact up x (b1 k x (hdp k hk) hV ho)
          · obtain ⟨hk', h8, h3, h5⟩ := ho
            exact (k2 k hk' (Or.inl h3)).2 h8 h3 (hdp k hk) x h5 hV
        · obtain ⟨hx, -, hp⟩ := hP
          refine (k2 x hx hp).1 (fun z hz' => ?_)
          by_cases c : z = 33
          · exact Or.inl c
          · exact hdp z (hz z ⟨hx, c, hz'⟩)
      have ap : (p ++ [y]) ++ (q ++ (E1 ++ E2)) = p ++ y :: q ++ (E1 ++ E2) := by simp
      have H2 : Lst (fun a => σ2.2.2.1 a 11) (σ2.2.2.1 y 11) (q ++ (E1 ++ E2)) := by
        have := S2.q
        rw [show p ++ y :: q ++ (E1 ++ E2) = p ++ y :: (q ++ (E1 ++ E2)) by simp] at this
        exact lst_at p _ this
      obtain ⟨σ', v', p', z, e', S', B'⟩ := ih (p ++ [y]) (q ++ (E1 ++ E2)) (σ2.2.2.1 y 11) σ2 v2 (by rw [List.length_append, List.length_singleton]; omega) B2 (by rw [ap]; exact S2) H2
      refine ⟨σ', v', p', z, ?_, S', B'⟩
      have st : lc_X10_judge_89 31 (some y) (nI p.length) σ = some (.inl (σ2.2.2.1 y 11, nI (p ++ [y]).length, σ2)) := by
        unfold lc_X10_judge_89
        rw [hc, if_neg nle, if_neg (fun w => by cases w), e1, bd1_eq, e2, bd1_eq]
        simp only [nn_eq, vl_eq]
        rw [show nI p.length + (1:Int32) = nI (p.length + 1) from n_add _ 1, List.length_append, List.length_singleton]
      rw [lp_next (s := (some y, nI p.length, σ)) st]
      exact e'
/-- the first loop: nothing is known -/
theorem c_wipe : ∀ (l : List Nat) (x1 : Option Nat) (σ : cl_S), Lst (fun a => σ.2.2.1 a 8) x1 l → ∃ σ', lp (fun z : ((Option Nat) × cl_S) => lc_X10_judge_15 31 z.1 z.2) (x1, σ) = some (none, σ') ∧ (∀ d j, ¬ (d ∈ l ∧ j = 10) → σ'.1 d j = σ.1 d j) ∧ (∀ d, d ∈ l → σ'.1 d 10 = -1) ∧ σ'.2.1 = σ.2.1 ∧ (∀ d j, ¬ (d ∈ l ∧ j = 11) → σ'.2.2.1 d j = σ.2.2.1 d j) ∧ (∀ d, d ∈ l → σ'.2.2.1 d 11 = none) ∧ σ'.2.2.2 = σ.2.2.2 := by
  intro l
  induction l with
  | nil =>
    intro x1 σ H
    cases (show x1 = none from H)
    refine ⟨σ, lp_end (s := ((none : Option Nat), σ)) ?_, fun _ _ _ => rfl, fun d hd => absurd hd List.not_mem_nil, rfl, fun _ _ _ => rfl, fun d hd => absurd hd List.not_mem_nil, rfl⟩
    show lc_X10_judge_15 31 none σ = _
    unfold lc_X10_judge_15
    rw [if_pos rfl]
  | cons a l ih =>
    intro x1 σ H
    obtain ⟨rfl, H⟩ := H
    have e8 : ∀ b, (cl_wr (cl_w σ a 10 (-1:Int32)) a 11 none).2.2.1 b 8 = σ.2.2.1 b 8 := fun b => by rw [g_r, if_neg (fun w => absurd w.2 (by decide))]; rfl
    obtain ⟨σ', e, i1, i2, i3, i4, i5, i6⟩ := ih (σ.2.2.1 a 8) (cl_wr (cl_w σ a 10 (-1:Int32)) a 11 none) (by
      refine Lst.congr (nx := fun a => σ.2.2.1 a 8) H (fun b _ => ?_)
      exact e8 b)
    refine ⟨σ', ?_, fun d j q => ?_, fun d hd => ?_, by rw [i3]; rfl, fun d j q => ?_, fun d hd => ?_, by rw [i6]; rfl⟩
    · have st : lc_X10_judge_15 31 (some a) σ = some (.inl (σ.2.2.1 a 8, cl_wr (cl_w σ a 10 (-1:Int32)) a 11 none)) := by
        unfold lc_X10_judge_15
        rw [if_neg (fun w => by cases w)]
        simp only [nn_eq, vl_eq]
        rw [e8]
      rw [lp_next (s := (some a, σ)) st]; exact e
    · rw [i1 d j (fun w => q ⟨List.mem_cons_of_mem _ w.1, w.2⟩), r_rI, g_w, if_neg (fun w => q ⟨by rw [w.1]; exact List.mem_cons_self, w.2⟩)]
    · by_cases c : d ∈ l
      · exact i2 d c
      · rw [i1 d 10 (fun w => c w.1), r_rI, g_w, if_pos ⟨(List.mem_cons.mp hd).resolve_right c, rfl⟩]
    · rw [i4 d j (fun w => q ⟨List.mem_cons_of_mem _ w.1, w.2⟩), g_r, if_neg (fun w => q ⟨by rw [w.1]; exact List.mem_cons_self, w.2⟩)]; rfl
    · by_cases c : d ∈ l
      · exact i5 d c
      · rw [i4 d 11 (fun w => c w.1), g_r, if_pos ⟨(List.mem_cons.mp hd).resolve_right c, rfl⟩]
/-- the second loop: what is known at first -/
theorem c_first (C : CSt σ0 ts) : ∀ (l : List Nat) (x1 : Option Nat) (σ : cl_S) (v : Nat → Option Nat) (L : List Nat), Lst (fun a => σ0.2.2.1 a 8) x1 l → (∀ a, a ∈ l → a ∈ ts) → JS σ0 σ ts v L → (∀ a, v a = if a ∈ L then some 0 else none) → ∃ σ' v' L', lp (fun z : ((Option Nat) × cl_S) => lc_X10_judge_42 31 z.1 z.2) (x1, σ) = some (none, σ') ∧ JS σ0 σ' ts v' L' ∧ (∀ a, v' a = if a ∈ L' then some 0 else none) ∧ (∀ a, a ∈ L' ↔ a ∈ L ∨ (a ∈ l ∧ (grC σ0 ts).bs a)) := by
  intro l
  induction l with
  | nil =>
    intro x1 σ v L H hl S hv
    cases (show x1 = none from H)
    refine ⟨σ, v, L, lp_end (s := ((none : Option Nat), σ)) ?_, S, hv, fun a => by simp⟩
    show lc_X10_judge_42 31 none σ = _
    unfold lc_X10_judge_42
    rw [if_pos rfl]
  | cons a l ih =>
    intro x1 σ v L H hl S hv
    obtain ⟨rfl, H⟩ := H
    have ha := hl a List.mem_cons_self
    have a31 : a ≠ 31 := fun w => by have := (C.mem a ha).1; omega
    have nxt : ∀ {σ' : cl_S} {v' : Nat → Option Nat} {L' : List Nat}, JS σ0 σ' ts v' L' → bc_X10_judge_74i42 31 (some a) σ' = some (.inl (σ0.2.2.1 a 8, σ')) := by
      intro σ' v' L' S'
      unfold bc_X10_judge_74i42
      simp only [nn_eq, vl_eq]
      rw [S'.R a 8 (fun w => absurd w.2 (by decide)) (fun w => a31 w.1)]
    have i0 := S.I a 0 (fun w => absurd w.2 (by decide))
    have i9 := S.I a 9 (fun w => absurd w.2 (by decide))
    by_cases hb : (grC σ0 ts).bs a
    · obtain ⟨σ1, e1, h1⟩ := S.learn C ha (show 0 < 1000000000 by omega)
      have go : bc_X10_judge_68i42 31 (some a) σ = some (.inl (σ0.2.2.1 a 8, σ1)) ∧ ∃ v1 L1, JS σ0 σ1 ts v1 L1 ∧ (∀ b, v1 b = if b ∈ L1 then some 0 else none) ∧ ∀ b, b ∈ L1 ↔ b ∈ L ∨ b = a := by
        unfold bc_X10_judge_68i42
        rw [show (0:Int32) = nI 0 from rfl, e1, bd1_eq]
        rcases h1 with ⟨hL, rfl⟩ | ⟨hL, S1⟩
        · exact ⟨nxt S, v, L, S, hv, fun b => ⟨Or.inl, fun q => q.elim id (fun q => by rw [q]; exact hL)⟩⟩
        · refine ⟨nxt S1, _, _, S1, fun b => ?_, fun b => by rw [List.mem_append, List.mem_singleton]⟩
          by_cases cb : b = a
          · rw [vset_s cb, if_pos (by rw [cb]; simp)]
          · rw [vset_n cb, hv b]
            by_cases cL : b ∈ L
            · rw [if_pos cL, if_pos (List.mem_append.mpr (Or.inl cL))]
            · rw [if_neg cL, if_neg (fun q => by rcases List.mem_append.mp q with q | q; exact cL q; exact cb (List.mem_singleton.mp q))]
      obtain ⟨g1, v1, L1, S1, hv1, m1⟩ := go
      obtain ⟨σ', v', L', e, S', hv', m'⟩ := ih _ σ1 v1 L1 H (fun b hb => hl b (List.mem_cons_of_mem _ hb)) S1 hv1
      refine ⟨σ', v', L', ?_, S', hv', fun b => ?_⟩
      · have st : lc_X10_judge_42 31 (some a) σ = some (.inl (σ0.2.2.1 a 8, σ1)) := by
          unfold lc_X10_judge_42
          rw [if_neg (fun w => by cases w)]
          simp only [nn_eq]
          rw [i9, i0, g1]
          by_cases c9 : σ0.1 a 9 = 0
          · rw [if_pos c9]
            by_cases c0 : σ0.1 a 0 = 0
            · rw [if_pos c0]
            · rw [if_neg c0]
              by_cases c1 : σ0.1 a 0 = (1:Int32)
              · rw [if_pos c1]
              · obtain ⟨-, q | q | q⟩ := hb
                · exact absurd c9 q
                · exact absurd q c0
                · exact absurd q c1
          · rw [if_neg c9]
        rw [lp_next (s := (some a, σ)) st]; exact e
      · rw [m', m1, List.mem_cons]
        refine ⟨?_, ?_⟩
        · rintro ((q | q) | q)
          · exact Or.inl q
          · exact Or.inr ⟨Or.inl q, by rw [q]; exact hb⟩
          · exact Or.inr ⟨Or.inr q.1, q.2⟩
        · rintro (q | ⟨q | q, w⟩)
          · exact Or.inl (Or.inl q)
          · exact Or.inl (Or.inr q)
          · exact Or.inr ⟨q, w⟩
    · obtain ⟨σ', v', L', e, S', hv', m'⟩ := ih _ σ v L H (fun b hb => hl b (List.mem_cons_of_mem _ hb)) S hv
      refine ⟨σ', v', L', ?_, S', hv', fun b => ?_⟩
      · have st : lc_X10_judge_42 31 (some a) σ = some (.inl (σ0.2.2.1 a 8, σ)) := by
          unfold lc_X10_judge_42
          rw [if_neg (fun w => by cases w)]
          simp only [nn_eq]
          rw [i9, i0, nxt S]
          rw [if_pos (Classical.byContradiction fun q => hb ⟨ha, Or.inl q⟩), if_neg (fun q => hb ⟨ha, Or.inr (Or.inl q)⟩), if_neg (fun q => hb ⟨ha, Or.inr (Or.inr q)⟩)]
        rw [lp_next (s := (some a, σ)) st]; exact e
      · rw [m', List.mem_cons]
        refine ⟨?_, ?_⟩
        · rintro (q | q)
          · exact Or.inl q
          · exact Or.inr ⟨Or.inr q.1, q.2⟩
        · rintro (q | ⟨q | q, w⟩)
          · exact Or.inl q
          · rw [q] at w; exact absurd w hb
          · exact Or.inr ⟨q, w⟩
/-- judging -/
theorem c_judge (C : CSt σ ts) (hts : ts.length < 999999999) : ∃ σ' v L, fc_X10_judge 31 σ = some σ' ∧ JS σ σ' ts v L ∧ ∀ a, a ∈ ts → rdR (grC σ ts) (-1) (σ'.1 a 10) a := by
  have n31 : ∀ a, a ∈ ts → a ≠ 31 := fun a ha q => by have := (C.mem a ha).1; omega
  have o1 : ∀ b, (cl_wr (cl_wr σ 31 9 none) 31 10 none).2.2.1 b 8 = σ.2.2.1 b 8 := fun b => by
    rw [g_r, if_neg (fun w => absurd w.2 (by decide)), g_r, if_neg (fun w => absurd w.2 (by decide))]
  obtain ⟨σ1, e1, i1, i2, i3, i4, i5, i6⟩ := c_wipe ts (σ.2.2.1 31 1) (cl_wr (cl_wr σ 31 9 none) 31 10 none) (Lst.congr (nx := fun a => σ.2.2.1 a 8) C.old (fun b _ => o1 b))
  have S1 : JS σ σ1 ts (fun _ => none) [] := by
    refine ⟨fun d j q => by rw [i1 d j q]; rfl, by rw [i3]; rfl, fun d j q1 q2 => ?_, by rw [i6]; rfl, fun a ha _ => i2 a ha, fun a s _ e => (by cases e), fun a => ⟨fun q => absurd q List.not_mem_nil, fun ⟨s, e⟩ => by cases e⟩, fun a s e => (by cases e), ?_, List.nodup_nil, fun a ha => absurd ha List.not_mem_nil, ?_, fun a ha _ => i5 a ha⟩
    · rw [i4 d j q1, g_r, if_neg (fun w => q2 ⟨w.1, Or.inr w.2⟩), g_r, if_neg (fun w => q2 ⟨w.1, Or.inl w.2⟩)]
    · show σ1.2.2.1 31 9 = none
      rw [i4 31 9 (fun w => absurd w.2 (by decide)), g_r, if_neg (by decide), g_r, if_pos ⟨rfl, rfl⟩]
    · show σ1.2.2.1 31 10 = none
      rw [i4 31 10 (fun w => absurd w.2 (by decide)), g_r, if_pos ⟨rfl, rfl⟩]
  have r1 : σ1.2.2.1 31 1 = σ.2.2.1 31 1 := S1.R 31 1 (fun w => absurd w.2 (by decide)) (fun w => absurd w.2 (by decide))
  obtain ⟨σ2, v2, L2, e2, S2, hv2, m2⟩ := c_first C ts (σ.2.2.1 31 1) σ1 (fun _ => none) [] C.old (fun _ h => h) S1 (fun a => by simp)
  have B2 : BF (grC σ ts) v2 [] L2 := by
    refine BF.start S2.nd (fun x => ?_) (fun x => ?_) (grC_cmP C)
    · rw [m2]
      exact ⟨fun q => q.elim (fun q => absurd q List.not_mem_nil) (fun q => ⟨q.1, q.2⟩), fun q => Or.inr ⟨q.1, q.2⟩⟩
    · rw [hv2]
  obtain ⟨σ3, v3, p3, z, e3, S3, B3⟩ := c_queue C hts ts.length [] L2 (σ2.2.2.1 31 9) σ2 v2 (by simp) B2 S2 S2.q
  refine ⟨σ3, v3, p3, ?_, S3, fun a ha => ?_⟩
  · unfold fc_X10_judge bc_X10_judge_0
    simp only [vl_eq]
    rw [show (cl_wr (cl_wr σ 31 9 none) 31 10 none).2.2.1 31 1 = σ.2.2.1 31 1 by rw [g_r, if_neg (by decide), g_r, if_neg (by decide)]]
    unfold bc_X10_judge_15
    rw [e1, Option.bind_some]
    unfold ec_X10_judge_15
    simp only [vl_eq]
    rw [r1]
    unfold bc_X10_judge_42
    rw [e2, Option.bind_some]
    unfold ec_X10_judge_42
    simp only [vl_eq]
    unfold bc_X10_judge_89
    rw [show ((σ2.2.2.1 31 9, (0:Int32), σ2) : (Option Nat) × Int32 × cl_S) = (σ2.2.2.1 31 9, nI ([] : List Nat).length, σ2) from rfl, e3, Option.bind_some]
    rfl
  · rcases B3.fin a with ⟨e, k⟩ | ⟨s, e, k1, k2⟩
    · exact Or.inl ⟨S3.v0 a ha e, k⟩
    · exact Or.inr ⟨s, S3.sm a s e, S3.v1 a s ha e, k1, k2⟩
end Z2_Y6
