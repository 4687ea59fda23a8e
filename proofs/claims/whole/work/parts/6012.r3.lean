section Z2_R3
theorem seg.out {W : Wd} {s p c j : Nat} (h : seg W s p c j) : (53 < c ∧ c < 71 ∧ c ≠ 60 ∧ c ≠ 62 ∧ c ≠ 63 ∧ c ≠ 65 ∧ c ≠ 67 ∧ j = 8 * s + p) ∨ (c = 53 ∧ 16 * (8 * s + p) ≤ j ∧ j < 16 * (8 * s + p) + 16) ∨ (c = 52 ∧ 8192 * s + W.bs p ≤ j ∧ j < 8192 * s + W.bs p + W.sz p) ∨ (c = 60 ∧ 100 * (8 * s + p) ≤ j ∧ j < 100 * (8 * s + p) + 100) ∨ ((c = 62 ∨ c = 63) ∧ 200 * (8 * s + p) ≤ j ∧ j < 200 * (8 * s + p) + 200) ∨ ((c = 65 ∨ c = 67) ∧ 64 * (8 * s + p) ≤ j ∧ j < 64 * (8 * s + p) + 64) ∨ ((c = 38 ∨ c = 39 ∨ c = 43) ∧ j = p) ∨ (c = 42 ∧ 100 * p ≤ j ∧ j < 100 * p + 100) := by
  rcases h with h | h | ⟨h, i, h'⟩ | ⟨h, i, h'⟩ | ⟨h, i, h'⟩ | ⟨h, i, h'⟩ | ⟨h, i, h'⟩ | h | ⟨h, i, h'⟩
  · left; omega
  · left; omega
  · right; left; omega
  · right; right; left; omega
  · right; right; right; left; omega
  · right; right; right; right; left; omega
  · right; right; right; right; right; left; omega
  · right; right; right; right; right; right; left; omega
  · right; right; right; right; right; right; right; omega
theorem seg_dj {W : Wd} {s p s' q c j : Nat} (hs : s < 2) (hs' : s' < 2) (hp : p < 8) (hq : q < 8) (dm : p ≠ q → W.bs p + W.sz p ≤ W.bs q ∨ W.bs q + W.sz q ≤ W.bs p) (hb : W.bs p + W.sz p ≤ 8192) (hb' : W.bs q + W.sz q ≤ 8192) (h : seg W s p c j) (k : seg W s' q c j) : (s = s' ∧ p = q) ∨ (p = q ∧ (c = 38 ∨ c = 39 ∨ c = 42 ∨ c = 43)) := by
  have h := h.out
  have k := k.out
  rcases h with h | h | h | h | h | h | h | h <;> rcases k with k | k | k | k | k | k | k | k <;> first | (exfalso; omega) | omega
theorem seg_S1 {W : Wd} {p c j : Nat} (h : seg W 1 p c j) (h38 : c ≠ 38) (h39 : c ≠ 39) (h42 : c ≠ 42) (h43 : c ≠ 43) : S1 c j := by
  have h := h.out
  unfold S1
  rcases h with h | h | h | h | h | h | h | h
  · right; right; right; left; omega
  · right; right; left; omega
  · right; left; omega
  · right; right; right; right; left; omega
  · right; right; right; right; right; left; omega
  · right; right; right; right; right; right; left; omega
  · exfalso; omega
  · exfalso; omega
/-- what a partition's own step may change -/
def segA (W : Wd) (b : Bool) (s p c j : Nat) : Prop := seg W s p c j ∧ c ≠ 38 ∧ c ≠ 39 ∧ (c = 42 ∨ c = 43 → s = 0 ∧ b = false)
def prt (s p : Nat) (a : Nat) : Prop := 83 + 135 * s + 12 * p ≤ a ∧ a < 95 + 135 * s + 12 * p
theorem MRel.fr {W W' : Wd} {s : Nat} {σ σ' : cl_S} {ρ ρ' : rf_S} (h : MRel W s σ ρ) (le : W.le W') (hs : s < 2) (hp : ∀ p, p < W.np → PRel W' s p σ' ρ') (h1 : ∀ j, j = 2 ∨ (8 < j ∧ j < 14) → σ'.1 (47 + 132 * s) j = σ.1 (47 + 132 * s) j) (h8 : s = 1 → σ'.1 179 8 = σ.1 179 8) (h2 : σ'.2.2.1 (47 + 132 * s) 3 = σ.2.2.1 (47 + 132 * s) 3) (h3 : ∀ a, 60 + 135 * s < a → a < 79 + 135 * s → σ'.1 a = σ.1 a ∧ σ'.2.2.1 a = σ.2.2.1 a) (h4 : σ'.1 (42 + 139 * s) = σ.1 (42 + 139 * s)) (h5 : σ'.2.2.1 (43 + 139 * s) = σ.2.2.1 (43 + 139 * s))
    (q1 : ∀ c, 47 < c → c < 52 → ρ'.1 c s = ρ.1 c s) (q2 : s = 0 → ρ'.1 0 54 = ρ.1 0 54) (q3 : ∀ j, 256 * s ≤ j → j < 256 * s + 256 → ρ'.1 71 j = ρ.1 71 j) (q4 : ∀ c j, c = 72 ∨ c = 73 → 16 * s ≤ j → j < 16 * s + 16 → ρ'.1 c j = ρ.1 c j) (q5 : ∀ c j, c = 74 ∨ c = 75 → 64 * s ≤ j → j < 64 * s + 64 → ρ'.1 c j = ρ.1 c j) : MRel W' s σ' ρ' := by
  refine ⟨?_, ?_, ?_, ?_, ?_, ?_, ?_, ?_, ?_, ?_, ?_, ?_⟩
  · intro p hp'; rw [le.np] at hp'; exact hp p hp'
  · rw [h2, le.cf]; exact h.cp
  · rw [h1 2 (by omega)]; exact h.re
  · rw [h1 9 (by omega), q1 48 (by omega) (by omega)]; exact h.tk
  · rw [h1 10 (by omega), h1 11 (by omega), q1 49 (by omega) (by omega), q1 50 (by omega) (by omega), le.np, le.ns, le.stp]; exact h.sl
  · rw [h1 12 (by omega), q1 51 (by omega) (by omega)]; exact h.yl
  · obtain ⟨n, e1, e2, e3, e4⟩ := h.ct
    exact ⟨n, e1, by rw [h1 13 (by omega)]; exact e2, fun q => by rw [q2 q]; exact e3 q, e4⟩
  · intro c i hc hi; rw [(h3 _ (by omega) (by omega)).1, q3 _ (by omega) (by omega)]; exact h.sn c i hc hi
  · intro c hc; rw [(h3 _ (by omega) (by omega)).1, q4 72 _ (by omega) (by omega) (by omega)]; exact h.ur c hc
  · intro c hc hn; rw [le.np] at hn; rw [(h3 _ (by omega) (by omega)).2, q4 73 _ (by omega) (by omega) (by omega)]; exact (h.st c hc hn).le le
  · intro b hb; rw [h4, h5, q5 74 _ (by omega) (by omega) (by omega), q5 75 _ (by omega) (by omega) (by omega)]; exact ⟨(h.dk b hb).1, (h.dk b hb).2.1.le le, (h.dk b hb).2.2⟩
  · intro q; rw [h8 q]; exact h.on q
theorem Rel.part {K K' : Bd} {W W' : Wd} {b : Bool} {k : Nat} {σ σ' : cl_S} {ρ ρ' : rf_S} (h : Rel K W b k σ ρ) {s p : Nat} (hs : s < 2) (hp : p < W.np) (F : Fr (prt s p) (segA W b s p) scr W W' σ σ' ρ ρ') (P : PRel W' s p σ' ρ') (T' : TermR W'.n0 σ' ρ' W'.ts W'.tm W'.N) (B' : Bud K' W' b σ' ρ') (hb1 : b = true → s = 1) : Rel K' W' b k σ' ρ' := by
  have hnp := h.cf.np.1
  have le := F.G.le
  have s01 : s = 0 ∨ s = 1 := by omega
  -- an int array's place that no partition's step changes
  have nY : ∀ c j, (c < 38 ∨ c = 40 ∨ c = 41 ∨ (43 < c ∧ c < 52) ∨ 70 < c) → ¬ segA W b s p c j := by
    intro c j hc qq
    have q := qq.1
    have := q.out
    omega
  have qa : ∀ c, 12 < c → (c < 38 ∨ c = 40 ∨ c = 41 ∨ (43 < c ∧ c < 52) ∨ 70 < c) → ρ'.1 c = ρ.1 c := fun c h1 h2 => funext fun j => F.q c j h1 (nY c j h2)
  have nX : ∀ a, a < 83 + 135 * s + 12 * p ∨ 95 + 135 * s + 12 * p ≤ a → ¬ prt s p a := fun a ha ⟨q1, q2⟩ => by omega
  have fI : ∀ a, (a < 31 ∨ 37 < a) → a < 325 → (a < 83 + 135 * s + 12 * p ∨ 95 + 135 * s + 12 * p ≤ a) → σ'.1 a = σ.1 a := fun a h1 h2 h3 => F.I a (nX a h3) h1 h2
  have fR : ∀ a, (a < 31 ∨ 37 < a) → a < 325 → (a < 83 + 135 * s + 12 * p ∨ 95 + 135 * s + 12 * p ≤ a) → σ'.2.2.1 a = σ.2.2.1 a := fun a h1 h2 h3 => F.R a (nX a h3) h1 h2
  have ns : ∀ j, j = 18 ∨ j = 26 ∨ j = 28 ∨ j = 41 ∨ j = 43 ∨ j = 51 ∨ j = 52 ∨ j = 53 ∨ j = 54 ∨ j = 55 ∨ j = 60 ∨ j = 64 ∨ j = 78 ∨ j = 110 → ρ'.1 0 j = ρ.1 0 j := fun j hj => F.f j (fun q => by unfold scr at q; omega)
  have M : ∀ s', s' < 2 → (s' = 0 ∨ b = true) → MRel W s' σ ρ → MRel W' s' σ' ρ' := by
    intro s' hs' hb m
    have s01' : s' = 0 ∨ s' = 1 := by omega
    refine m.fr le hs' ?_ ?_ ?_ ?_ ?_ ?_ ?_ ?_ ?_ ?_ ?_ ?_
    · intro q hq
      by_cases c : s' = s ∧ q = p
      · obtain ⟨rfl, rfl⟩ := c; exact P
      · refine (m.pr q hq).fr F.G (fun i hi => fI _ (by omega) (by omega) (by omega)) (fun i hi => fR _ (by omega) (by omega) (by omega)) (fun c' j hseg => ?_)
        have ho := hseg.out
        refine F.q c' j (by omega) (fun ⟨q1, q2, q3, q4⟩ => ?_)
        have pq := (h.cf.pa p hp).1
        have pq' := (h.cf.pa q hq).1
        have := seg_dj hs hs' (by omega) (by omega) (fun ne => h.cf.dj p q hp hq ne) (by omega) (by omega) q1 hseg
        rcases this with ⟨e1, e2⟩ | ⟨e1, e2⟩
        · omega
        · have e3 : c' = 42 ∨ c' = 43 := by omega
          obtain ⟨z1, z2⟩ := q4 e3
          rcases hb with hb | hb
          · omega
          · rw [hb] at z2; cases z2
    · intro j hj; rw [fI _ (by omega) (by omega) (by omega)]
    · intro e; rw [fI _ (by omega) (by omega) (by omega)]
    · rw [fR _ (by omega) (by omega) (by omega)]
    · intro a h1 h2; exact ⟨fI _ (by omega) (by omega) (by omega), fR _ (by omega) (by omega) (by omega)⟩
    · exact fI _ (by omega) (by omega) (by omega)
    · exact fR _ (by omega) (by omega) (by omega)
    · intro c h1 h2; rw [qa c (by omega) (by omega)]
    · intro e; exact ns 54 (by omega)
    · intro j h1 h2; rw [qa 71 (by omega) (by omega)]
    · intro c j hc h1 h2; rw [qa c (by omega) (by omega)]
    · intro c j hc h1 h2; rw [qa c (by omega) (by omega)]
  have hcf := h.cf.cf
  refine ⟨?_, ?_, ?_, ?_, ?_, ?_, ?_, ?_, ?_, ?_, ?_⟩
  · exact T'
  · exact h.st.fr (fR 19 (by omega) (by omega) (by omega)) (fun s' hs' => ⟨fR _ (by omega) (by omega) (by omega), fR _ (by omega) (by omega) (by omega), by rw [fR _ (by omega) (by omega) (by omega)]⟩) F.T (fun s' p' hs' hp' => by
      have s01' : s' = 0 ∨ s' = 1 := by omega
      by_cases c : s' = s ∧ p' = p
      · obtain ⟨rfl, rfl⟩ := c
        obtain ⟨z1, z2, z3⟩ := h.st.pi s' p' hs' hp'
        obtain ⟨⟨hh, B, -⟩, tf⟩ := P.tb
        exact ⟨by rw [z1]; exact P.co.ix, fun j hj => by
          rcases hj with rfl | rfl
          · rw [z2]; exact B.lm
          · rw [z3]; exact tf⟩
      · exact ⟨by rw [fI _ (by omega) (by omega) (by omega)], fun j hj => by rw [fI _ (by omega) (by omega) (by omega)]⟩) (by rw [fI 179 (by omega) (by omega) (by omega)]; exact h.st.re)
  · exact h.cf.fr le (fun i hi => fI _ (by omega) (by omega) (by omega)) (fun c h1 h2 => qa c (by omega) (by omega)) (fun j hj => ns j (by omega))
  · exact M 0 (by omega) (Or.inl rfl) h.m0
  · intro hb; exact M 1 (by omega) (Or.inr hb) (h.m1 hb)
  · exact h.oA.fr (fun a ha => fI a (by omega) (by omega) (by omega)) (fun c h1 h2 => qa c (by omega) (by omega)) (fun j hj => ns j (by omega))
  · refine h.oB.fr F.G (fI 0 (by omega) (by omega) (by omega)) (fR 0 (by omega) (by omega) (by omega)) (fun a ha => fI a (by omega) (by omega) (by omega)) (fun j hj => by rw [fI 47 (by omega) (by omega) (by omega)]) (fun a ha => fR a (by omega) (by omega) (by omega)) (fun c hc => qa c (by omega) (by omega)) (fun j hj => ns j (by omega)) ?_
    rw [qa 48 (by omega) (by omega)]; exact Nat.le_refl _
  · exact B'
  · rw [le.n0]; exact h.n0
  · exact h.nm.fr (F.L 7 (by omega)) (by rw [F.l]) (qa 14 (by omega) (by omega)) (qa 15 (by omega) (by omega))
  · intro eb
    have e1 := hb1 eb
    subst e1
    refine (h.fz eb).fr le.ln (fun c j h1 h2 h3 => F.q c j (by omega) (fun w => h3 ?_)) (ns 110 (by omega)) (ns 78 (by omega))
    obtain ⟨w1, w2, w3, w4⟩ := w
    exact seg_S1 w1 w2 w3 (fun q => by have := (w4 (Or.inl q)).1; omega) (fun q => by have := (w4 (Or.inr q)).1; omega)
/-- what a machine's step may change -/
def mrw (s : Nat) (a : Nat) : Prop := a = 47 + 132 * s ∨ (60 + 135 * s < a ∧ a < 79 + 135 * s) ∨ (40 + 139 * s < a ∧ a < 44 + 139 * s) ∨ (82 + 135 * s < a ∧ a < 179 + 135 * s)
def mpl (b : Bool) (s c j : Nat) : Prop := (47 < c ∧ c < 52 ∧ j = s) ∨ (c = 52 ∧ 8192 * s ≤ j ∧ j < 8192 * s + 8192) ∨ (c = 53 ∧ 128 * s ≤ j ∧ j < 128 * s + 128) ∨ (53 < c ∧ c < 71 ∧ c ≠ 60 ∧ c ≠ 62 ∧ c ≠ 63 ∧ c ≠ 65 ∧ c ≠ 67 ∧ 8 * s ≤ j ∧ j < 8 * s + 8) ∨ (c = 60 ∧ 800 * s ≤ j ∧ j < 800 * s + 800) ∨ ((c = 62 ∨ c = 63) ∧ 1600 * s ≤ j ∧ j < 1600 * s + 1600) ∨ ((c = 65 ∨ c = 67) ∧ 512 * s ≤ j ∧ j < 512 * s + 512) ∨ (c = 71 ∧ 256 * s ≤ j ∧ j < 256 * s + 256) ∨ ((c = 72 ∨ c = 73) ∧ 16 * s ≤ j ∧ j < 16 * s + 16) ∨ ((c = 74 ∨ c = 75) ∧ 64 * s ≤ j ∧ j < 64 * s + 64) ∨ ((c = 42 ∨ c = 43) ∧ s = 0 ∧ b = false)
theorem mpl_S1 {b : Bool} {c j : Nat} (h : mpl b 1 c j) : S1 c j := by
  unfold mpl at h
  unfold S1
  rcases h with h | h | h | h | h | h | h | h | h | h | h
  · left; omega
  · right; left; omega
  · right; right; left; omega
  · right; right; right; left; omega
  · right; right; right; right; left; omega
  · right; right; right; right; right; left; omega
  · right; right; right; right; right; right; left; omega
  · right; right; right; right; right; right; right; left; omega
  · right; right; right; right; right; right; right; right; left; omega
  · right; right; right; right; right; right; right; right; right; omega
  · exfalso; have := h.2.1; omega
def scm (s j : Nat) : Prop := scr j ∨ (s = 0 ∧ (j = 51 ∨ j = 53 ∨ j = 54))
theorem Rel.mach {K K' : Bd} {W W' : Wd} {b : Bool} {k : Nat} {σ σ' : cl_S} {ρ ρ' : rf_S} (h : Rel K W b k σ ρ) {s : Nat} (hs : s < 2) (F : Fr (mrw s) (mpl b s) (scm s) W W' σ σ' ρ ρ') (M : MRel W' s σ' ρ') (O : OthB W' k σ' ρ') (h3 : ∀ s', s' < 2 → σ'.2.2.1 (47 + 132 * s') 1 = σ.2.2.1 (47 + 132 * s') 1) (T' : TermR W'.n0 σ' ρ' W'.ts W'.tm W'.N) (B' : Bud K' W' b σ' ρ') (hx : ∀ p, p < 8 → σ'.1 (83 + 135 * s + 12 * p) 3 = σ.1 (83 + 135 * s + 12 * p) 3 ∧ ∀ j, j = 1 ∨ j = 2 → σ'.1 (92 + 135 * s + 12 * p) j = σ.1 (92 + 135 * s + 12 * p) j) (hb1 : b = true → s = 1) : Rel K' W' b k σ' ρ' := by
  have hnp := h.cf.np.1
  have le := F.G.le
  have s01 : s = 0 ∨ s = 1 := by omega
  have hcf := h.cf.cf
  have qa : ∀ c, 12 < c → (c < 42 ∨ (43 < c ∧ c < 48) ∨ 75 < c) → ρ'.1 c = ρ.1 c := fun c h1 h2 => funext fun j => F.q c j h1 (fun q => by unfold mpl at q; omega)
  have ns : ∀ j, j = 18 ∨ j = 26 ∨ j = 28 ∨ j = 41 ∨ j = 43 ∨ j = 55 ∨ j = 60 ∨ j = 64 → ρ'.1 0 j = ρ.1 0 j := fun j hj => F.f j (fun q => by unfold scm scr at q; omega)
  have N : ∀ s', s' < 2 → s' ≠ s → (s' = 0 ∨ b = true) → MRel W s' σ ρ → MRel W' s' σ' ρ' := by
    intro s' hs' hne hb m
    have s01' : s' = 0 ∨ s' = 1 := by omega
    have fI : ∀ a, (a < 31 ∨ 37 < a) → a < 325 → ¬ mrw s a → σ'.1 a = σ.1 a := fun a h1 h2 h3 => F.I a h3 h1 h2
    have fR : ∀ a, (a < 31 ∨ 37 < a) → a < 325 → ¬ mrw s a → σ'.2.2.1 a = σ.2.2.1 a := fun a h1 h2 h3 => F.R a h3 h1 h2
    refine m.fr le hs' ?_ ?_ ?_ ?_ ?_ ?_ ?_ ?_ ?_ ?_ ?_ ?_
    · intro q hq
      have pq' := (h.cf.pa q hq).1
      refine (m.pr q hq).fr F.G (fun i hi => fI _ (by omega) (by omega) (by unfold mrw; omega)) (fun i hi => fR _ (by omega) (by omega) (by unfold mrw; omega)) (fun c' j hseg => ?_)
      have ho := hseg.out
      refine F.q c' j (by omega) (fun q => ?_)
      unfold mpl at q
      have hb' : s = 0 → b = true := fun q => by rcases hb with hb | hb; omega; exact hb
      have nb : ¬ (s = 0 ∧ b = false) := fun ⟨q1, q2⟩ => by rw [hb' q1] at q2; cases q2
      rcases ho with ho | ho | ho | ho | ho | ho | ho | ho <;> rcases q with q | q | q | q | q | q | q | q | q | q | q <;> first | omega | exact nb q.2
    · intro j hj; rw [fI _ (by omega) (by omega) (by unfold mrw; omega)]
    · intro e; rw [fI _ (by omega) (by omega) (by unfold mrw; omega)]
    · rw [fR _ (by omega) (by omega) (by unfold mrw; omega)]
    · intro a h1 h2; exact ⟨fI _ (by omega) (by omega) (by unfold mrw; omega), fR _ (by omega) (by omega) (by unfold mrw; omega)⟩
    · exact fI _ (by omega) (by omega) (by unfold mrw; omega)
    · exact fR _ (by omega) (by omega) (by unfold mrw; omega)
    · intro c h1 h2; exact F.q c s' (by omega) (fun q => by unfold mpl at q; omega)
    · intro e; exact F.f 54 (fun q => by unfold scm scr at q; omega)
    · intro j h1 h2; exact F.q 71 j (by omega) (fun q => by unfold mpl at q; omega)
    · intro c j hc h1 h2; exact F.q c j (by omega) (fun q => by unfold mpl at q; omega)
    · intro c j hc h1 h2; exact F.q c j (by omega) (fun q => by unfold mpl at q; omega)
  refine ⟨?_, ?_, ?_, ?_, ?_, ?_, ?_, ?_, ?_, ?_, ?_⟩
  · exact T'
  · exact h.st.fr (F.R 19 (by unfold mrw; omega) (by omega) (by omega)) (fun s' hs' => by
      have s01' : s' = 0 ∨ s' = 1 := by omega
      exact ⟨F.R _ (by unfold mrw; omega) (by omega) (by omega), F.R _ (by unfold mrw; omega) (by omega) (by omega), h3 s' hs'⟩) F.T (fun s' p' hs' hp' => by
      have s01' : s' = 0 ∨ s' = 1 := by omega
      by_cases c : s' = s
      · subst c; exact hx p' hp'
      · exact ⟨by rw [F.I _ (by unfold mrw; omega) (by omega) (by omega)], fun j hj => by rw [F.I _ (by unfold mrw; omega) (by omega) (by omega)]⟩) (by
      rcases s01 with rfl | rfl
      · rw [F.I 179 (by unfold mrw; omega) (by omega) (by omega)]; exact h.st.re
      · exact M.re)
  · exact h.cf.fr le (fun i hi => F.I _ (by unfold mrw; omega) (by omega) (by omega)) (fun c h1 h2 => qa c (by omega) (by omega)) (fun j hj => ns j (by omega))
  · rcases s01 with rfl | rfl
    · exact M
    · exact N 0 (by omega) (by omega) (Or.inl rfl) h.m0
  · intro hb
    rcases s01 with rfl | rfl
    · exact N 1 (by omega) (by omega) (Or.inr hb) (h.m1 hb)
    · exact M
  · exact h.oA.fr (fun a ha => F.I a (by unfold mrw; omega) (by omega) (by omega)) (fun c h1 h2 => qa c (by omega) (by omega)) (fun j hj => ns j (by omega))
  · exact O
  · exact B'
  · rw [le.n0]; exact h.n0
  · exact h.nm.fr (F.L 7 (by omega)) (by rw [F.l]) (qa 14 (by omega) (by omega)) (qa 15 (by omega) (by omega))
  · intro eb
    have e1 := hb1 eb
    subst e1
    refine (h.fz eb).fr le.ln (fun c j h1 h2 h3 => F.q c j (by omega) (fun w => h3 ?_)) (F.f 110 (by unfold scm scr; omega)) (F.f 78 (by unfold scm scr; omega))
    exact mpl_S1 w
end Z2_R3
