section Z2_G2
variable {K : Bd} {W W' : Wd} {b : Bool} {k s p : Nat} {σ σ' : cl_S} {ρ ρ' : rf_S}
theorem q_rowh {fr n : Nat} (h : fr + n ≤ 17000) : ∀ m j, n - j = m → j ≤ n → lp (fun z : (Int32 × Int32 × rf_S) => lq_rowTerm_5 (nI fr) (nI n) z.1 z.2.1 z.2.2) (rowH (fun j => ρ.1 26 (fr + j)) n j, nI j, ρ) = some (rowH (fun j => ρ.1 26 (fr + j)) n n, nI n, ρ) := by
  intro m
  induction m with
  | zero =>
    intro j hm hj
    have : j = n := by omega
    subst this
    have eb : lq_rowTerm_5 (nI fr) (nI j) (rowH (fun j => ρ.1 26 (fr + j)) j j) (nI j) ρ = some (.inr (rowH (fun j => ρ.1 26 (fr + j)) j j, nI j, ρ)) := by
      unfold lq_rowTerm_5
      rw [if_pos ((n_le (by omega) (by omega)).mpr (Nat.le_refl _))]
    exact lp_end eb
  | succ m ih =>
    intro j hm hj
    have eb : lq_rowTerm_5 (nI fr) (nI n) (rowH (fun j => ρ.1 26 (fr + j)) n j) (nI j) ρ = some (.inl (rowH (fun j => ρ.1 26 (fr + j)) n (j + 1), nI (j + 1), ρ)) := by
      unfold lq_rowTerm_5
      rw [if_neg (fun q => by have := (n_le (by omega) (by omega)).mp q; omega), n_add, n_ix (show fr + j < 17000 by omega) (by omega), n_cl (show fr + j < 2147483648 by omega), vln, vln, show nI j + (1:Int32) = nI (j + 1) from n_add j 1]
      rfl
    rw [lp_next eb]
    exact ih (j + 1) (by omega) (by omega)
/-- has a term of the reference these words -/
def rwQ (ρ : rf_S) (t n : Nat) (f : Nat → Int32) : Prop := ρ.1 1 t = nI 1 ∧ ρ.1 3 t = nI n ∧ ∃ o, o + n ≤ 690000 ∧ ρ.1 2 t = nI o ∧ ∀ j, j < n → ρ.1 12 (o + j) = f j
theorem q_rowsame {fr n t N : Nat} (Q : RSt0 ρ N) (ht : t < N) (h : fr + n ≤ 17000) : (rwQ ρ t n (fun j => ρ.1 26 (fr + j)) ∧ ∀ x3, lq_rowTerm_48 (nI fr) (nI n) x3 (nI t) ρ = some (.inr (.inl (nI t, ρ)))) ∨ (¬ rwQ ρ t n (fun j => ρ.1 26 (fr + j)) ∧ ∀ x3, lq_rowTerm_48 (nI fr) (nI n) x3 (nI t) ρ = some (.inl (ρ.1 5 t, ρ))) := by
  have hN := Q.n.2
  have it : ∀ {α : Type} (z : Option α), ix (nI t) 112000 z = z := fun z => n_ix (by omega) (by omega)
  have ct : (nI t).toNatClampNeg = t := n_cl (by omega)
  -- where it isn't the same from the start
  have no : ∀ x3, bq_rowTerm_79i48 (nI fr) (nI n) x3 (nI t) ρ = some (.inl (ρ.1 5 t, ρ)) := by
    intro x3
    unfold bq_rowTerm_79i48 bq_rowTerm_80i48 bq_rowTerm_85i48
    have eb : lq_rowTerm_85i48 (nI fr) (nI n) x3 (nI t) (0:Int32) (0:Int32) ρ = some (.inr ((0:Int32), (0:Int32), ρ)) := by
      unfold lq_rowTerm_85i48
      by_cases q : nI n ≤ (0:Int32)
      · rw [if_pos q]
      · rw [if_neg q, if_pos rfl]
    rw [lp_end (s := ((0:Int32), (0:Int32), ρ)) eb, Option.bind_some]
    unfold eq_rowTerm_85i48 bq_rowTerm_136i48
    rw [if_pos rfl, it, ct, vln]
  by_cases c1 : ρ.1 1 t = (1:Int32)
  · by_cases c3 : ρ.1 3 t = nI n
    · obtain ⟨E, -, hE, kd⟩ := Q.e
      obtain ⟨kk, hk, ek, rs⟩ := kd t ht
      have k1 : kk = 1 := (n_eq (by omega) (by omega)).mp (ek.symm.trans c1)
      subst k1
      unfold rsh at rs
      rw [if_neg (by omega), if_pos rfl] at rs
      obtain ⟨o, l, e2, e3, e4, hol, hl⟩ := rs
      have el : l = n := (n_eq (by omega) (by omega)).mp (e3.symm.trans c3)
      subst el
      have lpp : ∀ x3, ∀ m j, l - j = m → j ≤ l → (∀ i, i < j → ρ.1 12 (o + i) = ρ.1 26 (fr + i)) → ((∀ i, i < l → ρ.1 12 (o + i) = ρ.1 26 (fr + i)) ∧ ∃ z, lp (fun z : (Int32 × Int32 × rf_S) => lq_rowTerm_85i48 (nI fr) (nI l) x3 (nI t) z.1 z.2.1 z.2.2) (1, nI j, ρ) = some ((1:Int32), z, ρ)) ∨ ((¬ ∀ i, i < l → ρ.1 12 (o + i) = ρ.1 26 (fr + i)) ∧ ∃ z, lp (fun z : (Int32 × Int32 × rf_S) => lq_rowTerm_85i48 (nI fr) (nI l) x3 (nI t) z.1 z.2.1 z.2.2) (1, nI j, ρ) = some ((0:Int32), z, ρ)) := by
        intro x3 m
        induction m with
        | zero =>
          intro j hm hj he
          have : j = l := by omega
          subst this
          have eb : lq_rowTerm_85i48 (nI fr) (nI j) x3 (nI t) 1 (nI j) ρ = some (.inr (1, nI j, ρ)) := by
            unfold lq_rowTerm_85i48
            rw [if_pos ((n_le (by omega) (by omega)).mpr (Nat.le_refl _))]
          exact Or.inl ⟨he, _, lp_end eb⟩
        | succ m ih =>
          intro j hm hj he
          have hd : lq_rowTerm_85i48 (nI fr) (nI l) x3 (nI t) 1 (nI j) ρ = if ρ.1 12 (o + j) = ρ.1 26 (fr + j) then some (.inl (1, nI (j + 1), ρ)) else some (.inl (0, nI (j + 1), ρ)) := by
            unfold lq_rowTerm_85i48 bq_rowTerm_128i85
            rw [if_neg (fun q => by have := (n_le (by omega) (by omega)).mp q; omega), if_neg (by decide), it, ct, e2, n_add, n_add, n_ix (show o + j < 690000 by omega) (by omega), n_ix (show fr + j < 17000 by omega) (by omega), n_cl (show o + j < 2147483648 by omega), n_cl (show fr + j < 2147483648 by omega), vln, show nI j + (1:Int32) = nI (j + 1) from n_add j 1, vln]
          by_cases q : ρ.1 12 (o + j) = ρ.1 26 (fr + j)
          · rw [if_pos q] at hd
            rw [lp_next (s := (1, nI j, ρ)) hd]
            refine ih (j + 1) (by omega) (by omega) (fun i hi => ?_)
            by_cases e : i = j
            · subst e; exact q
            · exact he i (by omega)
          · rw [if_neg q] at hd
            have eb : lq_rowTerm_85i48 (nI fr) (nI l) x3 (nI t) 0 (nI (j + 1)) ρ = some (.inr (0, nI (j + 1), ρ)) := by
              unfold lq_rowTerm_85i48
              by_cases w : nI l ≤ nI (j + 1)
              · rw [if_pos w]
              · rw [if_neg w, if_pos rfl]
            refine Or.inr ⟨fun z => q (z j (by omega)), nI (j + 1), ?_⟩
            rw [lp_next (s := (1, nI j, ρ)) hd]
            exact lp_end (s := (0, nI (j + 1), ρ)) eb
      have un : ∀ x3, lq_rowTerm_48 (nI fr) (nI l) x3 (nI t) ρ = bq_rowTerm_80i48 (nI fr) (nI l) x3 (nI t) (1:Int32) ρ := by
        intro x3
        unfold lq_rowTerm_48
        rw [if_neg (n_nneg (by omega)), it, ct, if_pos c1, it, if_pos c3]
      by_cases all : ∀ i, i < l → ρ.1 12 (o + i) = ρ.1 26 (fr + i)
      · left
        refine ⟨⟨c1, c3, o, by omega, e2, all⟩, fun x3 => ?_⟩
        rcases lpp x3 l 0 (by omega) (by omega) (fun i hi => by omega) with ⟨-, z, e⟩ | ⟨q, -⟩
        · rw [un]
          unfold bq_rowTerm_80i48 bq_rowTerm_85i48
          have e' : lp (fun z : (Int32 × Int32 × rf_S) => lq_rowTerm_85i48 (nI fr) (nI l) x3 (nI t) z.1 z.2.1 z.2.2) ((1:Int32), (0:Int32), ρ) = _ := e
          rw [e', Option.bind_some]
          unfold eq_rowTerm_85i48 bq_rowTerm_136i48
          rw [if_neg (show ¬ (1:Int32) = 0 by decide)]
        · exact absurd all q
      · right
        refine ⟨?_, fun x3 => ?_⟩
        · rintro ⟨-, -, o', ho', q2, q3⟩
          have : o' = o := (n_eq (by omega) (by omega)).mp (q2.symm.trans e2)
          subst this
          exact all q3
        rcases lpp x3 l 0 (by omega) (by omega) (fun i hi => by omega) with ⟨q, -⟩ | ⟨-, z, e⟩
        · exact absurd q all
        · rw [un]
          unfold bq_rowTerm_80i48 bq_rowTerm_85i48
          have e' : lp (fun z : (Int32 × Int32 × rf_S) => lq_rowTerm_85i48 (nI fr) (nI l) x3 (nI t) z.1 z.2.1 z.2.2) ((1:Int32), (0:Int32), ρ) = _ := e
          rw [e', Option.bind_some]
          unfold eq_rowTerm_85i48 bq_rowTerm_136i48
          rw [if_pos rfl, it, ct, vln]
    · right
      refine ⟨fun q => c3 q.2.1, fun x3 => ?_⟩
      unfold lq_rowTerm_48
      rw [if_neg (n_nneg (by omega)), it, ct, if_pos c1, it, if_neg c3]
      exact no x3
  · right
    refine ⟨fun q => c1 q.1, fun x3 => ?_⟩
    unfold lq_rowTerm_48
    rw [if_neg (n_nneg (by omega)), it, ct, if_neg c1]
    exact no x3
theorem q_row_lp {fr n N : Nat} (Q : RSt0 ρ N) (h : fr + n ≤ 17000) (x3 : Int32) : ∀ (l : List Nat) (r : Int32), RL (ρ.1 5) r l → (∀ t ∈ l, t < N) →
    (∃ t, t ∈ l ∧ rwQ ρ t n (fun j => ρ.1 26 (fr + j)) ∧ lp (fun w : (Int32 × rf_S) => lq_rowTerm_48 (nI fr) (nI n) x3 w.1 w.2) (r, ρ) = some (.inl (nI t, ρ))) ∨ ((∀ t ∈ l, ¬ rwQ ρ t n (fun j => ρ.1 26 (fr + j))) ∧ ∃ w, lp (fun w : (Int32 × rf_S) => lq_rowTerm_48 (nI fr) (nI n) x3 w.1 w.2) (r, ρ) = some (.inr (w, ρ))) := by
  intro l r hl
  induction hl using RL.ind with
  | @nil v hv =>
    intro _
    refine Or.inr ⟨fun a ha => (List.not_mem_nil ha).elim, v, lp_end ?_⟩
    show lq_rowTerm_48 (nI fr) (nI n) x3 v ρ = _
    unfold lq_rowTerm_48
    rw [if_pos hv]
  | @cons t l hl ih =>
    intro hin
    have ht := hin t List.mem_cons_self
    rcases q_rowsame Q ht h with ⟨q, e⟩ | ⟨q, e⟩
    · exact Or.inl ⟨t, List.mem_cons_self, q, lp_end (e x3)⟩
    · rcases ih (fun c hc => hin c (List.mem_cons_of_mem _ hc)) with ⟨c, hc, h1, e2⟩ | ⟨hn, w, e2⟩
      · exact Or.inl ⟨c, List.mem_cons_of_mem _ hc, h1, (lp_next (s := (nI t, ρ)) (e x3)).trans e2⟩
      · refine Or.inr ⟨fun c hc => ?_, w, (lp_next (s := (nI t, ρ)) (e x3)).trans e2⟩
        rcases List.mem_cons.mp hc with rfl | hc
        · exact q
        · exact hn c hc
theorem q_row_find {fr n N : Nat} (Q : RSt0 ρ N) (h : fr + n ≤ 17000) : ∃ m, m < 16384 ∧ hQ (nI 1) (rowH (fun j => ρ.1 26 (fr + j)) n n) (nI n) 0 = nI m ∧ ((∃ t, t < N ∧ rwQ ρ t n (fun j => ρ.1 26 (fr + j)) ∧ fq_rowTerm (nI fr) (nI n) ρ = some (nI t, ρ)) ∨ ((∀ t, t < N → ¬ rwQ ρ t n (fun j => ρ.1 26 (fr + j))) ∧ fq_rowTerm (nI fr) (nI n) ρ = bq_rowTerm_159 (nI fr) (nI n) (nI m) (0:Int32) ρ)) := by
  obtain ⟨m, hm, em⟩ := hQ_lt (nI 1) (rowH (fun j => ρ.1 26 (fr + j)) n n) (nI n) 0
  refine ⟨m, hm, em, ?_⟩
  obtain ⟨l, hl, ml, -⟩ := Q.ch m hm
  have e0 : fq_rowTerm (nI fr) (nI n) ρ = bq_rowTerm_48 (nI fr) (nI n) (nI m) (ρ.1 11 m) ρ := by
    unfold fq_rowTerm bq_rowTerm_0 bq_rowTerm_5
    have := q_rowh (ρ := ρ) h n 0 (by omega) (by omega)
    rw [show (nI n, (0:Int32), ρ) = (rowH (fun j => ρ.1 26 (fr + j)) n 0, nI 0, ρ) from rfl, this, Option.bind_some]
    show eq_rowTerm_5 (nI fr) (nI n) (rowH (fun j => ρ.1 26 (fr + j)) n n) (nI n) ρ = _
    unfold eq_rowTerm_5
    have eh : fq_hash (1:Int32) (rowH (fun j => ρ.1 26 (fr + j)) n n) (nI n) (0:Int32) ρ = some (nI m, ρ) := by rw [q_hash]; exact congrArg (fun z => some (z, ρ)) em
    rw [eh, bd2n, n_ix hm (by omega), n_cl (show m < 2147483648 by omega), vln]
  rw [e0]
  unfold bq_rowTerm_48
  rcases q_row_lp Q h (nI m) l _ hl (fun t ht => ((ml t).mp ht).1) with ⟨t, ht, h1, e⟩ | ⟨hno, w, e⟩
  · exact Or.inl ⟨t, ((ml t).mp ht).1, h1, by rw [e, Option.bind_some, Sum.elim_inl]⟩
  · refine Or.inr ⟨fun t ht hq => ?_, by rw [e, Option.bind_some, Sum.elim_inr]; rfl⟩
    refine hno t ((ml t).mpr ⟨ht, ?_⟩) hq
    obtain ⟨q1, q2, o, ho, q3, q4⟩ := hq
    refine Or.inr ⟨q1, o, n, by omega, by omega, q3, q2, ?_⟩
    rw [rowH_cg n q4]; exact em
/-- the words of a new row -/
theorem q_row_cp {fr n E m : Nat} (h : fr + n ≤ 17000) (hE : E + n ≤ 690000) : ∀ u j (ρ : rf_S), n - j = u → j ≤ n → ρ.1 0 18 = nI E → ∃ ρ', lp (fun z : (Int32 × rf_S) => lq_rowTerm_159 (nI fr) (nI n) (nI m) z.1 z.2) (nI j, ρ) = some (nI n, ρ') ∧ ρ'.2 = ρ.2 ∧ (∀ c, c ≠ 12 → ρ'.1 c = ρ.1 c) ∧ (∀ i, (i < E + j ∨ E + n ≤ i) → ρ'.1 12 i = ρ.1 12 i) ∧ (∀ i, j ≤ i → i < n → ρ'.1 12 (E + i) = ρ.1 26 (fr + i)) := by
  intro u
  induction u with
  | zero =>
    intro j ρ hu hj h18
    have : j = n := by omega
    subst this
    have eb : lq_rowTerm_159 (nI fr) (nI j) (nI m) (nI j) ρ = some (.inr (nI j, ρ)) := by
      unfold lq_rowTerm_159
      rw [if_pos ((n_le (by omega) (by omega)).mpr (Nat.le_refl _))]
    exact ⟨ρ, lp_end eb, rfl, fun _ _ => rfl, fun _ _ => rfl, fun i h1 h2 => by omega⟩
  | succ u ih =>
    intro j ρ hu hj h18
    have eb : lq_rowTerm_159 (nI fr) (nI n) (nI m) (nI j) ρ = some (.inl (nI (j + 1), rf_w ρ 12 (E + j) (ρ.1 26 (fr + j)))) := by
      unfold lq_rowTerm_159
      rw [if_neg (fun q => by have := (n_le (by omega) (by omega)).mp q; omega), h18, n_add, n_add, n_ix (show fr + j < 17000 by omega) (by omega), n_ix (show E + j < 690000 by omega) (by omega), n_cl (show E + j < 2147483648 by omega), n_cl (show fr + j < 2147483648 by omega), vln, vln, show nI j + (1:Int32) = nI (j + 1) from n_add j 1]
    obtain ⟨ρ', f1, f2, f3, f4, f5⟩ := ih (j + 1) (rf_w ρ 12 (E + j) (ρ.1 26 (fr + j))) (by omega) (by omega) (by rw [q_w (by decide)]; exact h18)
    refine ⟨ρ', by rw [lp_next eb]; exact f1, by rw [f2]; rfl, fun c hc => by rw [f3 c hc, q_w hc], fun i hi => by rw [f4 i (by omega), q_wk (by omega)], fun i h1 h2 => ?_⟩
    by_cases c : i = j
    · subst c; rw [f4 _ (by omega), q_ws]
    · rw [f5 i (by omega) h2, q_w (by decide)]
end Z2_G2
