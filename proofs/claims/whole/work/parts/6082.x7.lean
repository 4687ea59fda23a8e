section Z2_X7
variable {σ σ' : cl_S} {ρ ρ' : rf_S}
variable {n T s : Nat} {h st : Nat → Nat} {L L1 L2 : Option Nat} {G : Nat → Prop} {f : Nat → Int32} {vb : Nat → Int32} {M : Nat → Prop} {w : Nat}
/-- the least of L and of G -/
def Fin' (L : Option Nat) (G : Nat → Prop) (L' : Option Nat) : Prop := (∀ i, G i → ∃ l, L' = some l ∧ l ≤ i) ∧ (∀ v, L = some v → ∃ l, L' = some l ∧ l ≤ v) ∧ (L' = L ∨ ∃ i, G i ∧ L' = some i)
theorem Fin'.un (a : Fin' L G L1) (b : Fin' L G L2) : L1 = L2 := by
  have le : ∀ {A B : Option Nat}, Fin' L G A → Fin' L G B → ∀ v, A = some v → ∃ l, B = some l ∧ l ≤ v := by
    intro A B ha hb v hv
    rcases ha.2.2 with q | ⟨i, q1, q2⟩
    · exact hb.2.1 v (by rw [← q]; exact hv)
    · rw [q2] at hv
      obtain ⟨l, e1, e2⟩ := hb.1 i q1
      exact ⟨l, e1, by have := Option.some.inj hv; omega⟩
  cases e1 : L1 with
  | none =>
    cases e2 : L2 with
    | none => rfl
    | some v =>
      obtain ⟨l, q, -⟩ := le b a v e2
      rw [e1] at q; cases q
  | some u =>
    obtain ⟨l, q, hl⟩ := le a b u e1
    obtain ⟨l', q', hl'⟩ := le b a l q
    rw [e1] at q'
    have := Option.some.inj q'
    rw [q]
    exact congrArg some (by omega)
theorem Fin'.add {i : Nat} {G' : Nat → Prop} (a : Fin' L G L1) (hG : ∀ j, G' j → G j ∨ j = i) (hG' : ∀ j, G j → G' j) (hi : G' i) (hl : ∀ l, L1 = some l → i < l) : Fin' L G' (some i) := by
  refine ⟨fun j hj => ⟨i, rfl, ?_⟩, fun v hv => ⟨i, rfl, ?_⟩, Or.inr ⟨i, hi, rfl⟩⟩
  · rcases hG j hj with q | q
    · obtain ⟨l, e1, e2⟩ := a.1 j q
      have := hl l e1; omega
    · omega
  · obtain ⟨l, e1, e2⟩ := a.2.1 v hv
    have := hl l e1; omega
theorem Fin'.skip {G' : Nat → Prop} (a : Fin' L G L1) (hG : ∀ j, G' j → G j ∨ ∃ l, L1 = some l ∧ l ≤ j) (hG' : ∀ j, G j → G' j) : Fin' L G' L1 := by
  refine ⟨fun j hj => ?_, a.2.1, a.2.2.imp id (fun ⟨i, q1, q2⟩ => ⟨i, hG' i q1, q2⟩)⟩
  rcases hG j hj with q | q
  · exact a.1 j q
  · exact q
def E15 (σ σ' : cl_S) : Prop := (∀ d j, ¬ (d = 15 ∧ j = 4) → σ'.1 d j = σ.1 d j) ∧ σ'.2 = σ.2
/-- the class looks for a bad word -/
theorem c_scan {xx : Int32} (hn : n ≤ 2048) (c3 : σ.1 15 3 = nI n) (hT : (σ.2.2.2.1 w).2 = 2048) (hw0 : w ≠ 15) (hw : ∀ k, k < n → σ.1 w k = f k) (m1 : ∀ i, i < n → M i → σ.1 16 i = 1) (m0 : ∀ i, i < n → ¬ M i → σ.1 16 i = 0) (hb : ∀ σ', E15 σ σ' → ∀ i, i < n → fc_X7_isBad 15 (f i) xx σ' = some (vb i, σ')) : ∀ m x (σ' : cl_S) L', n - x = m → x ≤ n → E15 σ σ' → σ'.1 15 4 = L'.elim 2147483647 nI → (∀ l, L' = some l → l < 1000000) → Fin' L (fun i => i < x ∧ M i ∧ ¬ vb i = 0) L' → ∃ σ'' L'' y, lp (fun z : (Int32 × cl_S) => lc_X7_leastBad_80 15 (some w) xx z.1 z.2) (nI x, σ') = some (y, σ'') ∧ E15 σ σ'' ∧ σ''.1 15 4 = L''.elim 2147483647 nI ∧ (∀ l, L'' = some l → l < 1000000) ∧ Fin' L (fun i => i < n ∧ M i ∧ ¬ vb i = 0) L'' := by
  intro m
  induction m with
  | zero =>
    intro x σ' L' hm hx E l4 lb F
    have : x = n := by omega
    subst this
    have e : lc_X7_leastBad_80 15 (some w) xx (nI x) σ' = some (.inr (nI x, σ')) := by
      unfold lc_X7_leastBad_80
      rw [E.1 15 3 (by omega), c3, if_pos ((n_le (by omega) (by omega)).mpr (Nat.le_refl _))]
    exact ⟨σ', L', _, lp_end (s := (nI x, σ')) e, E, l4, lb, F⟩
  | succ m ih =>
    intro x σ' L' hm hx E l4 lb F
    have t1 : nI x + (1:Int32) = nI (x + 1) := n_add x 1
    by_cases cl : ∃ l, L' = some l ∧ l ≤ x
    · obtain ⟨l, el, hl⟩ := cl
      have e : lc_X7_leastBad_80 15 (some w) xx (nI x) σ' = some (.inr (nI x, σ')) := by
        unfold lc_X7_leastBad_80
        rw [E.1 15 3 (by omega), c3, if_neg (fun q => by have := (n_le (by omega) (by omega)).mp q; omega), l4, el]
        exact if_pos ((n_le (a := l) (b := x) (by omega) (by omega)).mpr hl)
      refine ⟨σ', L', _, lp_end (s := (nI x, σ')) e, E, l4, lb, F.skip (fun j hj => ?_) (fun j hj => ⟨by omega, hj.2⟩)⟩
      by_cases c : j < x
      · exact Or.inl ⟨c, hj.2⟩
      · exact Or.inr ⟨l, el, by omega⟩
    · have hlt : ∀ l, L' = some l → x < l := fun l el => by
        apply Classical.byContradiction
        intro q
        exact cl ⟨l, el, by omega⟩
      have nle : ¬ L'.elim 2147483647 nI ≤ nI x := by
        cases eL : L' with
        | none => exact fun q => by have := (n_le (a := 2147483647) (b := x) (by omega) (by omega)).mp q; omega
        | some l => exact fun q => by have := (n_le (a := l) (b := x) (by have := lb l eL; omega) (by omega)).mp q; have := hlt l eL; omega
      have hd : lc_X7_leastBad_80 15 (some w) xx (nI x) σ' = if σ.1 16 x = (1:Int32) then (if vb x = 0 then some (.inl (nI (x + 1), σ')) else some (.inl (nI (x + 1), cl_w σ' 15 4 (nI x)))) else some (.inl (nI (x + 1), σ')) := by
        unfold lc_X7_leastBad_80 bc_X7_leastBad_127i80
        simp only [Nat.reduceAdd]
        rw [E.1 15 3 (by omega), c3, if_neg (fun q => by have := (n_le (by omega) (by omega)).mp q; omega), l4, if_neg nle, n_ix (show x < 2048 by omega) (by omega), n_cl (show x < 2147483648 by omega), E.1 16 x (by omega), nnn, E.2, hT, n_ix (show x < 2048 by omega) (by omega), E.1 w x (by omega), hw x (by omega), hb σ' E x (by omega), bd2n, vln, vln, vln, t1]
      by_cases cM : M x
      · rw [m1 x (by omega) cM, if_pos rfl] at hd
        by_cases cv : vb x = 0
        · rw [if_pos cv] at hd
          obtain ⟨σ'', L'', y, g1, g2⟩ := ih (x + 1) σ' L' (by omega) (by omega) E l4 lb (F.skip (fun j hj => by
            have : j ≠ x := fun e => hj.2.2 (by rw [e]; exact cv)
            exact Or.inl ⟨by have := hj.1; omega, hj.2⟩) (fun j hj => ⟨by have := hj.1; omega, hj.2⟩))
          exact ⟨σ'', L'', y, by rw [lp_next (s := (nI x, σ')) hd]; exact g1, g2⟩
        · rw [if_neg cv] at hd
          obtain ⟨σ'', L'', y, g1, g2⟩ := ih (x + 1) (cl_w σ' 15 4 (nI x)) (some x) (by omega) (by omega) ⟨fun d j q => by rw [g_w, if_neg q]; exact E.1 d j q, E.2⟩ r_ws (fun l q => by have := Option.some.inj q; omega) (F.add (fun j hj => by
            by_cases c : j = x
            · exact Or.inr c
            · exact Or.inl ⟨by have := hj.1; omega, hj.2⟩) (fun j hj => ⟨by have := hj.1; omega, hj.2⟩) ⟨by omega, cM, cv⟩ hlt)
          exact ⟨σ'', L'', y, by rw [lp_next (s := (nI x, σ')) hd]; exact g1, g2⟩
      · rw [m0 x (by omega) cM, if_neg (by decide)] at hd
        obtain ⟨σ'', L'', y, g1, g2⟩ := ih (x + 1) σ' L' (by omega) (by omega) E l4 lb (F.skip (fun j hj => by
          have : j ≠ x := fun e => cM (by rw [← e]; exact hj.2.1)
          exact Or.inl ⟨by have := hj.1; omega, hj.2⟩) (fun j hj => ⟨by have := hj.1; omega, hj.2⟩))
        exact ⟨σ'', L'', y, by rw [lp_next (s := (nI x, σ')) hd]; exact g1, g2⟩
def Q114 (ρ ρ' : rf_S) : Prop := (∀ c j, ¬ (c = 0 ∧ j = 114) → ρ'.1 c j = ρ.1 c j) ∧ ρ'.2 = ρ.2
theorem q_scan {xx : Int32} {p : Nat} (hn : n ≤ 2048) (hp : p < 8) (tn : T ≤ n) (c3 : ρ.1 0 113 = nI T) (hq : ∀ k, k < T → ρ.1 78 k = nI (h k) ∧ h k < n) (hw : ∀ k, k < n → ρ.1 26 (2048 * p + k) = f k) (hb : ∀ ρ', Q114 ρ ρ' → ∀ i, i < n → fq_isBadWord (f i) xx ρ' = some (vb i, ρ')) : ∀ m a (ρ' : rf_S) L', T - a = m → a ≤ T → Q114 ρ ρ' → ρ'.1 0 114 = L'.elim 1000000 nI → (∀ l, L' = some l → l < 1000000) → Fin' L (fun i => (∃ k, k < a ∧ h k = i) ∧ ¬ vb i = 0) L' → ∃ ρ'' L'' y, lp (fun z : (Int32 × rf_S) => lq_safe_187 (nI p) xx z.1 z.2) (nI a, ρ') = some (y, ρ'') ∧ Q114 ρ ρ'' ∧ ρ''.1 0 114 = L''.elim 1000000 nI ∧ (∀ l, L'' = some l → l < 1000000) ∧ Fin' L (fun i => (∃ k, k < T ∧ h k = i) ∧ ¬ vb i = 0) L'' := by
  intro m
  induction m with
  | zero =>
    intro a ρ' L' hm ha E l4 lb F
    have : a = T := by omega
    subst this
    have e : lq_safe_187 (nI p) xx (nI a) ρ' = some (.inr (nI a, ρ')) := by
      unfold lq_safe_187
      rw [E.1 0 113 (by omega), c3, if_pos ((n_le (by omega) (by omega)).mpr (Nat.le_refl _))]
    exact ⟨ρ', L', _, lp_end (s := (nI a, ρ')) e, E, l4, lb, F⟩
  | succ m ih =>
    intro a ρ' L' hm ha E l4 lb F
    have t1 : nI a + (1:Int32) = nI (a + 1) := n_add a 1
    obtain ⟨q1, q2⟩ := hq a (by omega)
    have t2 : (2048:Int32) * nI p + nI (h a) = nI (2048 * p + h a) := by rw [show (2048:Int32) = nI 2048 from rfl, n_mul, n_add]
    have hd : lq_safe_187 (nI p) xx (nI a) ρ' = if L'.elim 1000000 nI ≤ nI (h a) then some (.inl (nI (a + 1), ρ')) else if vb (h a) = 0 then some (.inl (nI (a + 1), ρ')) else some (.inl (nI (a + 1), rf_w ρ' 0 114 (nI (h a)))) := by
      unfold lq_safe_187 bq_safe_247i187
      rw [E.1 0 113 (by omega), c3, if_neg (fun q => by have := (n_le (by omega) (by omega)).mp q; omega), n_ix (show a < 4100 by omega) (by omega), n_cl (show a < 2147483648 by omega), E.1 78 a (by omega), q1, l4, n_ix (show a < 4100 by omega) (by omega), t2, n_ix (show 2048 * p + h a < 17000 by omega) (by omega), n_cl (show 2048 * p + h a < 2147483648 by omega), E.1 26 _ (by omega), hw (h a) q2, hb ρ' E (h a) q2, bd2n, E.1 78 a (by omega), q1, n_ix (show a < 4100 by omega) (by omega), vln, vln, vln, t1]
    have st : ∀ j, (∃ k, k < a + 1 ∧ h k = j) → (∃ k, k < a ∧ h k = j) ∨ j = h a := by
      rintro j ⟨k, k1, k2⟩
      by_cases c : k = a
      · right; rw [← k2, c]
      · exact Or.inl ⟨k, by omega, k2⟩
    have up : ∀ j, (∃ k, k < a ∧ h k = j) → ∃ k, k < a + 1 ∧ h k = j := fun j ⟨k, k1, k2⟩ => ⟨k, by omega, k2⟩
    by_cases cl : ∃ l, L' = some l ∧ l ≤ h a
    · obtain ⟨l, el, hl⟩ := cl
      rw [if_pos (by rw [el]; exact (n_le (a := l) (b := h a) (by have := lb l el; omega) (by omega)).mpr hl)] at hd
      obtain ⟨ρ'', L'', y, g1, g2⟩ := ih (a + 1) ρ' L' (by omega) (by omega) E l4 lb (F.skip (fun j hj => by
        rcases st j hj.1 with q | q
        · exact Or.inl ⟨q, hj.2⟩
        · exact Or.inr ⟨l, el, by rw [q]; exact hl⟩) (fun j hj => ⟨up j hj.1, hj.2⟩))
      exact ⟨ρ'', L'', y, by rw [lp_next (s := (nI a, ρ')) hd]; exact g1, g2⟩
    · have hlt : ∀ l, L' = some l → h a < l := fun l el => by
        apply Classical.byContradiction
        intro q
        exact cl ⟨l, el, by omega⟩
      have nle : ¬ L'.elim 1000000 nI ≤ nI (h a) := by
        cases eL : L' with
        | none => exact fun q => by have := (n_le (a := 1000000) (b := h a) (by omega) (by omega)).mp q; omega
        | some l => exact fun q => by have := (n_le (a := l) (b := h a) (by have := lb l eL; omega) (by omega)).mp q; have := hlt l eL; omega
      rw [if_neg nle] at hd
      by_cases cv : vb (h a) = 0
      · rw [if_pos cv] at hd
        obtain ⟨ρ'', L'', y, g1, g2⟩ := ih (a + 1) ρ' L' (by omega) (by omega) E l4 lb (F.skip (fun j hj => by
          rcases st j hj.1 with q | q
          · exact Or.inl ⟨q, hj.2⟩
          · exact absurd cv (by rw [← q]; exact hj.2)) (fun j hj => ⟨up j hj.1, hj.2⟩))
        exact ⟨ρ'', L'', y, by rw [lp_next (s := (nI a, ρ')) hd]; exact g1, g2⟩
      · rw [if_neg cv] at hd
        obtain ⟨ρ'', L'', y, g1, g2⟩ := ih (a + 1) (rf_w ρ' 0 114 (nI (h a))) (some (h a)) (by omega) (by omega) ⟨fun d j q => by rw [g_q, if_neg q]; exact E.1 d j q, E.2⟩ q_ws (fun l q => by have := Option.some.inj q; omega) (F.add (fun j hj => by
          rcases st j hj.1 with q | q
          · exact Or.inl ⟨q, hj.2⟩
          · exact Or.inr q) (fun j hj => ⟨up j hj.1, hj.2⟩) ⟨⟨a, by omega, rfl⟩, cv⟩ hlt)
        exact ⟨ρ'', L'', y, by rw [lp_next (s := (nI a, ρ')) hd]; exact g1, g2⟩
end Z2_X7
