section Z2_G
variable {K : Bd} {W W' : Wd} {b : Bool} {k s p : Nat} {σ σ' : cl_S} {ρ ρ' : rf_S}
/-! LAYER 2: rows as terms -/
theorem rowH_cg {f g : Nat → Int32} {n : Nat} : ∀ j, (∀ i, i < j → f i = g i) → rowH f n j = rowH g n j := by
  intro j
  induction j with
  | zero => intro _; rfl
  | succ j ih => intro h; show rowH f n j * (31:Int32) + f j = rowH g n j * (31:Int32) + g j; rw [ih (fun i hi => h i (by omega)), h j (by omega)]
theorem c_rowh {a0 cap n : Nat} (hT : (σ.2.2.2.1 a0).2 = cap) (hc : n ≤ cap) (hn : n ≤ 2048) (hcap : cap ≤ 2048) : ∀ m j, n - j = m → j ≤ n → lp (fun z : (Int32 × Int32 × cl_S) => lc_X10_row_5 31 (some a0) (nI n) z.1 z.2.1 z.2.2) (rowH (σ.1 a0) n j, nI j, σ) = some (rowH (σ.1 a0) n n, nI n, σ) := by
  intro m
  induction m with
  | zero =>
    intro j hm hj
    have : j = n := by omega
    subst this
    have eb : lc_X10_row_5 31 (some a0) (nI j) (rowH (σ.1 a0) j j) (nI j) σ = some (.inr (rowH (σ.1 a0) j j, nI j, σ)) := by
      unfold lc_X10_row_5
      rw [if_pos ((n_le (by omega) (by omega)).mpr (Nat.le_refl _))]
    exact lp_end eb
  | succ m ih =>
    intro j hm hj
    have eb : lc_X10_row_5 31 (some a0) (nI n) (rowH (σ.1 a0) n j) (nI j) σ = some (.inl (rowH (σ.1 a0) n (j + 1), nI (j + 1), σ)) := by
      unfold lc_X10_row_5
      rw [if_neg (fun q => by have := (n_le (by omega) (by omega)).mp q; omega), nnn, hT, n_ix (show j < cap by omega) (by omega), n_cl (show j < 2147483648 by omega), vln, vln, show nI j + (1:Int32) = nI (j + 1) from n_add j 1]
      rfl
    rw [lp_next eb]
    exact ih (j + 1) (by omega) (by omega)
/-- has the term these words -/
theorem c_hasW {a0 cap n a l : Nat} {g : Nat → Int32} (hT : (σ.2.2.2.1 a0).2 = cap) (hc : n ≤ cap) (hcap : cap ≤ 2048) (hw : wdL σ a l g) (hl : l ≤ 2048) : (wdL σ a n (σ.1 a0) ∧ fc_X10_hasWords (some a) (some a0) (nI n) σ = some (1, σ)) ∨ (¬ wdL σ a n (σ.1 a0) ∧ fc_X10_hasWords (some a) (some a0) (nI n) σ = some (0, σ)) := by
  obtain ⟨w, w1, w2, w3, w4, w5⟩ := hw
  unfold fc_X10_hasWords bc_X10_hasWords_0
  rw [nnn, w1, nnn, w4]
  by_cases c : l = n
  · subst c
    rw [if_pos rfl]
    unfold bc_X10_hasWords_13
    have lpp : ∀ m j, l - j = m → j ≤ l → (∀ i, i < j → σ.1 w i = σ.1 a0 i) → ((∀ i, i < l → σ.1 w i = σ.1 a0 i) ∧ lp (fun z : (Int32 × cl_S) => lc_X10_hasWords_13 (some a) (some a0) (nI l) z.1 z.2) (nI j, σ) = some (.inr (nI l, σ))) ∨ ((¬ ∀ i, i < l → σ.1 w i = σ.1 a0 i) ∧ lp (fun z : (Int32 × cl_S) => lc_X10_hasWords_13 (some a) (some a0) (nI l) z.1 z.2) (nI j, σ) = some (.inl (0, σ))) := by
      intro m
      induction m with
      | zero =>
        intro j hm hj he
        have : j = l := by omega
        subst this
        have eb : lc_X10_hasWords_13 (some a) (some a0) (nI j) (nI j) σ = some (.inr (.inr (nI j, σ))) := by
          unfold lc_X10_hasWords_13
          rw [if_pos ((n_le (by omega) (by omega)).mpr (Nat.le_refl _))]
        exact Or.inl ⟨he, lp_end eb⟩
      | succ m ih =>
        intro j hm hj he
        have hd : lc_X10_hasWords_13 (some a) (some a0) (nI l) (nI j) σ = if σ.1 w j = σ.1 a0 j then some (.inl (nI (j + 1), σ)) else some (.inr (.inl (0, σ))) := by
          unfold lc_X10_hasWords_13
          rw [if_neg (fun q => by have := (n_le (by omega) (by omega)).mp q; omega), nnn, w1, nnn, w4, n_ix (show j < l by omega) (by omega), nnn, hT, n_ix (show j < cap by omega) (by omega), n_cl (show j < 2147483648 by omega), vln, show nI j + (1:Int32) = nI (j + 1) from n_add j 1]
        by_cases q : σ.1 w j = σ.1 a0 j
        · rw [if_pos q] at hd
          rw [lp_next hd]
          refine ih (j + 1) (by omega) (by omega) (fun i hi => ?_)
          by_cases e : i = j
          · subst e; exact q
          · exact he i (by omega)
        · rw [if_neg q] at hd
          exact Or.inr ⟨fun z => q (z j (by omega)), lp_end hd⟩
    have h0 := lpp l 0 (by omega) (by omega) (fun i hi => by omega)
    have z0 : ((0:Int32), σ) = (nI 0, σ) := rfl
    rw [z0]
    rcases h0 with ⟨h1, e⟩ | ⟨h1, e⟩
    · left; rw [e]; exact ⟨⟨w, w1, w2, w3, w4, h1⟩, rfl⟩
    · right; rw [e]
      refine ⟨?_, rfl⟩
      rintro ⟨w', b1, -, -, -, b5⟩
      rw [w1] at b1
      cases b1
      exact h1 b5
  · right
    rw [if_neg (fun q => c ((n_eq (by omega) (by omega)).mp q))]
    refine ⟨?_, rfl⟩
    rintro ⟨w', b1, -, -, b4, -⟩
    rw [w1] at b1
    cases b1
    rw [w4] at b4
    exact c (Prod.mk.inj b4).2
theorem wdL.cgf {a n : Nat} {f g : Nat → Int32} (h : wdL σ a n f) (e : ∀ j, j < n → f j = g j) : wdL σ a n g := by
  obtain ⟨w, w1, w2, w3, w4, w5⟩ := h
  exact ⟨w, w1, w2, w3, w4, fun j hj => (w5 j hj).trans (e j hj)⟩
theorem wdL.un {a n l : Nat} {f g : Nat → Int32} (h : wdL σ a n f) (h' : wdL σ a l g) : n = l ∧ ∀ j, j < n → f j = g j := by
  obtain ⟨w, w1, w2, w3, w4, w5⟩ := h
  obtain ⟨v, v1, v2, v3, v4, v5⟩ := h'
  rw [w1] at v1
  cases v1
  rw [w4] at v4
  have e : n = l := (Prod.mk.inj v4).2
  subst e
  exact ⟨rfl, fun j hj => by rw [← w5 j hj, v5 j hj]⟩
/-- walking a bucket for a row -/
theorem c_row_lp {a0 cap n : Nat} {ts : List Nat} (C : CSt σ ts) (hT : (σ.2.2.2.1 a0).2 = cap) (hc : n ≤ cap) (hcap : cap ≤ 2048) (x3 : Int32) : ∀ (l : List Nat) (r : Option Nat), Lst (fun a => σ.2.2.1 a 7) r l → (∀ a ∈ l, a ∈ ts) →
    (∃ a, a ∈ l ∧ σ.1 a 0 = nI 1 ∧ σ.1 a 1 = x3 ∧ wdL σ a n (σ.1 a0) ∧ lp (fun w : ((Option Nat) × cl_S) => lc_X10_row_51 31 (some a0) (nI n) x3 w.1 w.2) (r, σ) = some (.inl (some a, σ))) ∨ ((∀ a ∈ l, ¬ (σ.1 a 0 = nI 1 ∧ σ.1 a 1 = x3 ∧ wdL σ a n (σ.1 a0))) ∧ lp (fun w : ((Option Nat) × cl_S) => lc_X10_row_51 31 (some a0) (nI n) x3 w.1 w.2) (r, σ) = some (.inr (none, σ))) := by
  intro l r h
  induction h using Lst.ind with
  | nil =>
    intro _
    refine Or.inr ⟨fun a ha => (List.not_mem_nil ha).elim, lp_end ?_⟩
    show lc_X10_row_51 31 (some a0) (nI n) x3 none σ = _
    unfold lc_X10_row_51
    rw [if_pos rfl]
  | @cons a l h ih =>
    intro hin
    have ha := hin a List.mem_cons_self
    have go : lc_X10_row_51 31 (some a0) (nI n) x3 (some a) σ = some (.inl (σ.2.2.1 a 7, σ)) → ¬ (σ.1 a 0 = nI 1 ∧ σ.1 a 1 = x3 ∧ wdL σ a n (σ.1 a0)) → (∃ c, c ∈ a :: l ∧ σ.1 c 0 = nI 1 ∧ σ.1 c 1 = x3 ∧ wdL σ c n (σ.1 a0) ∧ lp (fun w : ((Option Nat) × cl_S) => lc_X10_row_51 31 (some a0) (nI n) x3 w.1 w.2) (some a, σ) = some (.inl (some c, σ))) ∨ ((∀ c ∈ a :: l, ¬ (σ.1 c 0 = nI 1 ∧ σ.1 c 1 = x3 ∧ wdL σ c n (σ.1 a0))) ∧ lp (fun w : ((Option Nat) × cl_S) => lc_X10_row_51 31 (some a0) (nI n) x3 w.1 w.2) (some a, σ) = some (.inr (none, σ))) := by
      intro step q
      rcases ih (fun c hc => hin c (List.mem_cons_of_mem _ hc)) with ⟨c, hc, h1, h2, h3, e⟩ | ⟨hn, e⟩
      · exact Or.inl ⟨c, List.mem_cons_of_mem _ hc, h1, h2, h3, (lp_next (s := (some a, σ)) step).trans e⟩
      · refine Or.inr ⟨fun c hc => ?_, (lp_next (s := (some a, σ)) step).trans e⟩
        rcases List.mem_cons.mp hc with rfl | hc
        · exact q
        · exact hn c hc
    by_cases c1 : σ.1 a 0 = (1:Int32)
    · by_cases c2 : σ.1 a 1 = x3
      · obtain ⟨l', g, hw, hl', -⟩ := C.wd a ha c1
        rcases c_hasW hT hc hcap hw hl' with ⟨h1, e1⟩ | ⟨h1, e1⟩
        · refine Or.inl ⟨a, List.mem_cons_self, c1, c2, h1, lp_end ?_⟩
          show lc_X10_row_51 31 (some a0) (nI n) x3 (some a) σ = _
          unfold lc_X10_row_51
          rw [if_neg (fun q => by cases q), nnn, if_pos c1, if_pos c2, e1, bd2n, if_neg (by decide)]
        · refine go ?_ (fun q => h1 q.2.2)
          unfold lc_X10_row_51 bc_X10_row_87i51
          rw [if_neg (fun q => by cases q), nnn, if_pos c1, if_pos c2, e1, bd2n, if_pos rfl, nnn, vln]
      · refine go ?_ (fun q => c2 q.2.1)
        unfold lc_X10_row_51 bc_X10_row_87i51
        rw [if_neg (fun q => by cases q), nnn, if_pos c1, if_neg c2, nnn, vln]
    · refine go ?_ (fun q => c1 q.1)
      unfold lc_X10_row_51 bc_X10_row_87i51
      rw [if_neg (fun q => by cases q), nnn, if_neg c1, nnn, vln]
theorem c_row_e0 {a0 cap n m : Nat} {ts : List Nat} (C : CSt σ ts) (hT : (σ.2.2.2.1 a0).2 = cap) (hc : n ≤ cap) (hn : n ≤ 2048) (hcap : cap ≤ 2048) (hm : m < 4096) (em : hB (1:Int32) (rowH (σ.1 a0) n n) (σ.1 33 2) (σ.1 33 2) (σ.1 33 2) = nI m) : fc_X10_row 31 (some a0) (nI n) σ = bc_X10_row_51 31 (some a0) (nI n) (rowH (σ.1 a0) n n) (σ.2.2.1 32 m) σ := by
  have t1 := C.tms.1
  have t2 : (σ.2.2.2.1 32).2 = 4096 := by rw [C.tms.2.1]
  have t3 := C.tms.2.2.1
  have lph := c_rowh hT hc hn hcap n 0 (by omega) (by omega)
  have e5 : fc_X10_row 31 (some a0) (nI n) σ = ec_X10_row_5 31 (some a0) (nI n) (rowH (σ.1 a0) n n) (nI n) σ := by
    unfold fc_X10_row bc_X10_row_0 bc_X10_row_5
    rw [show (nI n, (0:Int32), σ) = (rowH (σ.1 a0) n 0, nI 0, σ) from rfl, lph, Option.bind_some]
  have eb : fc_X10_bucketOf (1:Int32) (rowH (σ.1 a0) n n) (some 33) (some 33) (some 33) σ = some (nI m, σ) := by
    rw [c_bucket, em]
  rw [e5]
  unfold ec_X10_row_5
  rw [t1, vln, t3, vln, vln, vln, eb, bd2n, nnn, t2, n_ix hm (by omega), n_cl (show m < 2147483648 by omega), vln]
theorem c_row_find {a0 cap n : Nat} {ts : List Nat} (C : CSt σ ts) (hT : (σ.2.2.2.1 a0).2 = cap) (hc : n ≤ cap) (hn : n ≤ 2048) (hcap : cap ≤ 2048) :
    (∃ a ∈ ts, σ.1 a 0 = nI 1 ∧ wdL σ a n (σ.1 a0) ∧ fc_X10_row 31 (some a0) (nI n) σ = some (some a, σ)) ∨ ((∀ a ∈ ts, σ.1 a 0 = nI 1 → ¬ wdL σ a n (σ.1 a0)) ∧ fc_X10_row 31 (some a0) (nI n) σ = ec_X10_row_51 31 (some a0) (nI n) (rowH (σ.1 a0) n n) none σ) := by
  obtain ⟨m, hm, em⟩ := hB_lt (1:Int32) (rowH (σ.1 a0) n n) (σ.1 33 2) (σ.1 33 2) (σ.1 33 2)
  obtain ⟨l, hl, ml⟩ := C.bk m hm
  rw [c_row_e0 C hT hc hn hcap hm em]
  unfold bc_X10_row_51
  rcases c_row_lp C hT hc hcap (rowH (σ.1 a0) n n) l _ hl (fun a ha => ((ml a).mp ha).1) with ⟨a, ha, h1, h2, h3, e⟩ | ⟨hno, e⟩
  · exact Or.inl ⟨a, ((ml a).mp ha).1, h1, h3, by rw [e, Option.bind_some, Sum.elim_inl]⟩
  · refine Or.inr ⟨fun a ha h1 hw => ?_, by rw [e, Option.bind_some, Sum.elim_inr]⟩
    obtain ⟨l', g, hw', hl', hr⟩ := C.wd a ha h1
    obtain ⟨el, eg⟩ := hw'.un hw
    subst el
    have e1 : σ.1 a 1 = rowH (σ.1 a0) l' l' := by rw [hr]; exact rowH_cg l' eg
    refine hno a ((ml a).mpr ⟨ha, ?_⟩) ⟨h1, e1, hw⟩
    obtain ⟨kd, hk, ek, hs, -⟩ := C.kd a ha
    have : kd = 1 := (n_eq (by omega) (by omega)).mp (ek.symm.trans h1)
    subst this
    unfold shp at hs
    rw [if_pos (by omega)] at hs
    obtain ⟨s1, s2, s3⟩ := hs
    have h1' : σ.1 a 0 = (1:Int32) := h1
    exact ⟨33, 33, 33, s1, s2, s3, by rw [h1', e1]; exact em⟩
end Z2_G
