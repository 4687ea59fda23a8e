section Z2_K
/-! LAYER 2: the asks -/
/-- the class's terms are the same -/
def SmT (σ σ' : cl_S) : Prop := (∀ b, (30 < b ∧ b < 38) ∨ 324 < b → σ'.1 b = σ.1 b ∧ σ'.2.2.1 b = σ.2.2.1 b) ∧ (σ'.2.2.2 = σ.2.2.2)
theorem SmT.r {σ σ' : cl_S} (hS : SmT σ σ') : ∀ b, (30 < b ∧ b < 38) ∨ 324 < b → σ'.1 b = σ.1 b ∧ σ'.2.2.1 b = σ.2.2.1 b := hS.1
theorem SmT.t {σ σ' : cl_S} (hS : SmT σ σ') : σ'.2.2.2 = σ.2.2.2 := hS.2
theorem wdL.sm {σ σ' : cl_S} (h : SmT σ σ') {a n : Nat} {f : Nat → Int32} (ha : (30 < a ∧ a < 38) ∨ 324 < a) : wdL σ' a n f ↔ wdL σ a n f := by
  unfold wdL
  rw [(h.r a ha).2, h.t]
  refine ⟨?_, ?_⟩
  · rintro ⟨w, a1, a2, a3, a4, a5⟩
    exact ⟨w, a1, a2, a3, a4, by rw [(h.r w (Or.inr a2)).1] at a5; exact a5⟩
  · rintro ⟨w, a1, a2, a3, a4, a5⟩
    exact ⟨w, a1, a2, a3, a4, by rw [(h.r w (Or.inr a2)).1]; exact a5⟩
theorem CSt.sm {σ σ' : cl_S} {ts : List Nat} (C : CSt σ ts) (h : SmT σ σ') : CSt σ' ts := by
  have lo : ∀ a, pt ts a → (30 < a ∧ a < 38) ∨ 324 < a := by
    intro a ha
    rcases ha with rfl | ha
    · omega
    · have := C.mem a ha; omega
  have I : ∀ a, pt ts a → σ'.1 a = σ.1 a := fun a ha => (h.r a (lo a ha)).1
  have R : ∀ a, pt ts a → σ'.2.2.1 a = σ.2.2.1 a := fun a ha => (h.r a (lo a ha)).2
  have p : ∀ a ∈ ts, pt ts a := fun a ha => Or.inr ha
  have r31 := h.r 31 (by omega)
  have r32 := h.r 32 (by omega)
  have bk : ∀ a ∈ ts, ∀ m, bkt σ' a m ↔ bkt σ a m := by
    intro a ha m
    obtain ⟨k, -, -, hs, -⟩ := C.kd a ha
    obtain ⟨u, v, w, e3, e4, e5, p3, p4, p5⟩ := shp_pt hs
    unfold bkt
    rw [R a (p a ha), I a (p a ha), e3, e4, e5]
    refine ⟨?_, ?_⟩
    · rintro ⟨u', v', w', q3, q4, q5, q⟩
      cases q3; cases q4; cases q5
      rw [I _ p3, I _ p4, I _ p5] at q
      exact ⟨u, v, w, rfl, rfl, rfl, q⟩
    · rintro ⟨u', v', w', q3, q4, q5, q⟩
      cases q3; cases q4; cases q5
      refine ⟨u, v, w, rfl, rfl, rfl, ?_⟩
      rw [I _ p3, I _ p4, I _ p5]; exact q
  refine ⟨?_, ?_, ?_, ?_⟩
  · refine ⟨?_, ?_, ?_, ?_, ?_, ?_, ?_, ?_, ?_, ?_, ?_⟩
    · rw [h.t]; exact C.mem
    · exact C.nd
    · rw [h.t]; exact C.top
    · intro a ha
      rw [I a (p a ha), R a (p a ha)]; exact C.kd a ha
    · rw [I 33 (Or.inl rfl), R 33 (Or.inl rfl)]; exact C.non
    · rw [h.t, r31.2]; exact C.tms
    · intro a ha b hb
      unfold kyE
      rw [I a (p a ha), R a (p a ha), I b (p b hb), R b (p b hb)]
      exact C.uq a ha b hb
    · intro m hm
      obtain ⟨l, hl, ml⟩ := C.bk m hm
      refine ⟨l, ?_, fun a => ?_⟩
      · rw [r32.2]
        exact hl.congr (fun a ha => by rw [R a (p a ((ml a).mp ha).1)])
      · rw [ml a]
        exact ⟨fun q => ⟨q.1, (bk a q.1 m).mpr q.2⟩, fun q => ⟨q.1, (bk a q.1 m).mp q.2⟩⟩
    · rw [r31.2]
      exact C.old.congr (fun a ha => by rw [R a (p a ha)])
    · rw [r31.1]; exact C.cnt
    · intro x hx
      obtain ⟨l, hl, ml⟩ := C.us x hx
      refine ⟨l, ?_, fun u => ?_⟩
      · rw [R x (p x hx)]
        refine hl.congr (fun u hu => ?_)
        unfold nxU
        rw [R u (p u ((ml u).mp hu).1)]
      · rw [ml u]
        refine ⟨?_, ?_⟩
        · rintro ⟨q1, q2⟩; exact ⟨q1, by rw [R u (p u q1)]; exact q2⟩
        · rintro ⟨q1, q2⟩; exact ⟨q1, by rw [R u (p u q1)] at q2; exact q2⟩
  · intro a ha q
    rw [I a (p a ha)] at q
    obtain ⟨n, f, w, hn, hr⟩ := C.wd a ha q
    exact ⟨n, f, (wdL.sm h (lo a (p a ha))).mpr w, hn, by rw [I a (p a ha)]; exact hr⟩
  · intro a ha b hb n f q1 q2 w1 w2
    rw [I a (p a ha)] at q1
    rw [I b (p b hb)] at q2
    exact C.uqr a ha b hb n f q1 q2 ((wdL.sm h (lo a (p a ha))).mp w1) ((wdL.sm h (lo b (p b hb))).mp w2)
  · obtain ⟨S, e1, e2, e3⟩ := C.sec
    refine ⟨S, by rw [r31.1]; exact e1, e2, fun a ha q => ?_⟩
    rw [I a (p a ha)] at q ⊢
    exact e3 a ha q
theorem TermR.sm {σ σ' : cl_S} {ρ ρ' : rf_S} {ts : List Nat} {tm : Nat → Nat} {N : Nat} {n0 : Nat} (T : TermR n0 σ ρ ts tm N) (h : SmT σ σ') (hq : ∀ c, 0 < c → c < 13 → ρ'.1 c = ρ.1 c) (hf : ∀ j, j = 12 ∨ j = 13 ∨ j = 14 ∨ j = 15 ∨ j = 16 ∨ j = 18 ∨ j = 19 ∨ j = 20 ∨ j = 21 → ρ'.1 0 j = ρ.1 0 j) : TermR n0 σ' ρ' ts tm N := by
  obtain ⟨C, Q, L, K, J1, J2, J3⟩ := T
  have lo : ∀ t, t < N → (30 < tm t ∧ tm t < 38) ∨ 324 < tm t := fun t ht => by have := C.mem _ (L.inm t ht); omega
  have lo' : ∀ a ∈ ts, (30 < a ∧ a < 38) ∨ 324 < a := fun a ha => by have := C.mem a ha; omega
  have d1 := hq 1 (by omega) (by omega)
  have d2 := hq 2 (by omega) (by omega)
  have d3 := hq 3 (by omega) (by omega)
  have d4 := hq 4 (by omega) (by omega)
  have d6 := hq 6 (by omega) (by omega)
  have d12 := hq 12 (by omega) (by omega)
  refine ⟨C.sm h, Q.cg (fun d hd => hq d (by omega) (by omega)) (fun j hj => hf j (by omega)), ?_, ?_, J1.cg (fun a ha => by rw [(h.r a (lo' a ha)).1]; exact ⟨rfl, rfl, rfl⟩) (fun a ha j _ _ => by rw [(h.r a (lo' a ha)).2]) (by rw [(h.r 31 (by omega)).1]), J2.cg (fun c hc t _ => by rw [hq c (by omega) (by omega)]) (fun j hj => hf j (by omega)), J3.cg (fun t _ => by rw [hq 1 (by omega) (by omega)]) (fun t _ => by rw [hq 2 (by omega) (by omega)]) (fun t _ _ => by rw [hq 6 (by omega) (by omega)])⟩
  · refine ⟨?_, ?_, ?_, ?_, ?_, ?_, ?_, ?_, ?_, ?_, ?_⟩
    · exact L.inm
    · exact L.inj
    · intro t ht; rw [(h.r _ (lo t ht)).1, d1]; exact L.kd t ht
    · intro t ht q; rw [d1] at q; rw [(h.r _ (lo t ht)).1, d2]; exact L.nu t ht q
    · intro t k a ht; rw [d1, d2, (h.r _ (lo t ht)).2]; exact L.pa t k a ht
    · intro t k a ht; rw [d1, d3, (h.r _ (lo t ht)).2]; exact L.pb t k a ht
    · intro t a ht; rw [d1, d4, (h.r _ (lo t ht)).2]; exact L.pc t a ht
    · intro t o l ht e1 e2 e3 ho hl
      rw [d1] at e1; rw [d2] at e2; rw [d3] at e3; rw [d12]
      exact (wdL.sm h (lo t ht)).mpr (L.rw t o l ht e1 e2 e3 ho hl)
    · intro a ha q; rw [(h.r a (lo' a ha)).1] at q; exact L.rall a ha q
    · intro t ht; rw [(h.r _ (lo t ht)).1, d6]; exact L.told t ht
    · intro a ha q; rw [(h.r a (lo' a ha)).1]; exact L.tex a ha q
  · rw [hf 19 (by omega), hf 20 (by omega), hf 21 (by omega)]; exact K
theorem phi_eq {s : Nat} {ρ ρ' : rf_S} (h1 : ∀ g, ρ'.1 61 g = ρ.1 61 g) (h2 : ∀ g, ρ'.1 69 g = ρ.1 69 g) : phi s ρ' = phi s ρ := by
  unfold phi phG
  simp only [h1, h2]
theorem phi_dec {s p d : Nat} {ρ ρ' : rf_S} (hp : p < 8) (h1 : ∀ g, g ≠ 8 * s + p → ρ'.1 61 g = ρ.1 61 g ∧ ρ'.1 69 g = ρ.1 69 g) (hd : phG ρ' (8 * s + p) + d ≤ phG ρ (8 * s + p)) : phi s ρ' + d ≤ phi s ρ := by
  have e : ∀ g, g ≠ 8 * s + p → phG ρ' g = phG ρ g := by
    intro g hg
    unfold phG
    rw [(h1 g hg).1, (h1 g hg).2]
  unfold phi
  have q : p = 0 ∨ p = 1 ∨ p = 2 ∨ p = 3 ∨ p = 4 ∨ p = 5 ∨ p = 6 ∨ p = 7 := by omega
  rcases q with rfl | rfl | rfl | rfl | rfl | rfl | rfl | rfl
  · rw [e (8 * s + 1) (by omega), e (8 * s + 2) (by omega), e (8 * s + 3) (by omega), e (8 * s + 4) (by omega), e (8 * s + 5) (by omega), e (8 * s + 6) (by omega), e (8 * s + 7) (by omega)]; rw [Nat.add_zero] at hd; omega
  · rw [e (8 * s) (by omega), e (8 * s + 2) (by omega), e (8 * s + 3) (by omega), e (8 * s + 4) (by omega), e (8 * s + 5) (by omega), e (8 * s + 6) (by omega), e (8 * s + 7) (by omega)]; omega
  · rw [e (8 * s) (by omega), e (8 * s + 1) (by omega), e (8 * s + 3) (by omega), e (8 * s + 4) (by omega), e (8 * s + 5) (by omega), e (8 * s + 6) (by omega), e (8 * s + 7) (by omega)]; omega
  · rw [e (8 * s) (by omega), e (8 * s + 1) (by omega), e (8 * s + 2) (by omega), e (8 * s + 4) (by omega), e (8 * s + 5) (by omega), e (8 * s + 6) (by omega), e (8 * s + 7) (by omega)]; omega
  · rw [e (8 * s) (by omega), e (8 * s + 1) (by omega), e (8 * s + 2) (by omega), e (8 * s + 3) (by omega), e (8 * s + 5) (by omega), e (8 * s + 6) (by omega), e (8 * s + 7) (by omega)]; omega
  · rw [e (8 * s) (by omega), e (8 * s + 1) (by omega), e (8 * s + 2) (by omega), e (8 * s + 3) (by omega), e (8 * s + 4) (by omega), e (8 * s + 6) (by omega), e (8 * s + 7) (by omega)]; omega
  · rw [e (8 * s) (by omega), e (8 * s + 1) (by omega), e (8 * s + 2) (by omega), e (8 * s + 3) (by omega), e (8 * s + 4) (by omega), e (8 * s + 5) (by omega), e (8 * s + 7) (by omega)]; omega
  · rw [e (8 * s) (by omega), e (8 * s + 1) (by omega), e (8 * s + 2) (by omega), e (8 * s + 3) (by omega), e (8 * s + 4) (by omega), e (8 * s + 5) (by omega), e (8 * s + 6) (by omega)]; omega
/-- the whole of what is left -/
def phA (b : Bool) (ρ : rf_S) : Nat := phi 0 ρ + (if b then phi 1 ρ else 0)
theorem phA_dec {b : Bool} {s p d : Nat} {ρ ρ' : rf_S} (hs : s = 0 ∨ (s = 1 ∧ b = true)) (hp : p < 8) (h1 : ∀ g, g ≠ 8 * s + p → ρ'.1 61 g = ρ.1 61 g ∧ ρ'.1 69 g = ρ.1 69 g) (hd : phG ρ' (8 * s + p) + d ≤ phG ρ (8 * s + p)) : phA b ρ' + d ≤ phA b ρ := by
  have o : ∀ s', s' ≠ s → s' < 2 → phi s' ρ' = phi s' ρ := by
    intro s' h2 h3
    unfold phi phG
    rw [(h1 (8 * s') (by omega)).1, (h1 (8 * s') (by omega)).2, (h1 (8 * s' + 1) (by omega)).1, (h1 (8 * s' + 1) (by omega)).2, (h1 (8 * s' + 2) (by omega)).1, (h1 (8 * s' + 2) (by omega)).2, (h1 (8 * s' + 3) (by omega)).1, (h1 (8 * s' + 3) (by omega)).2, (h1 (8 * s' + 4) (by omega)).1, (h1 (8 * s' + 4) (by omega)).2, (h1 (8 * s' + 5) (by omega)).1, (h1 (8 * s' + 5) (by omega)).2, (h1 (8 * s' + 6) (by omega)).1, (h1 (8 * s' + 6) (by omega)).2, (h1 (8 * s' + 7) (by omega)).1, (h1 (8 * s' + 7) (by omega)).2]
  have k := phi_dec hp h1 hd
  unfold phA
  rcases hs with rfl | ⟨rfl, rfl⟩
  · rw [o 1 (by omega) (by omega)]; omega
  · rw [o 0 (by omega) (by omega)]; simp only [if_true]; omega
/-- an ask is being answered -/
def Ak (K : Bd) (W : Wd) (b : Bool) (k s p : Nat) (σ : cl_S) (ρ : rf_S) : Prop := (Rel K W b k σ ρ) ∧ (s = 0 ∧ b = false ∨ s = 1 ∧ b = true) ∧ (p < W.np) ∧ (ρ.1 0 79 = nI s) ∧ (ρ.1 0 118 = nI p) ∧ (ρ.1 0 119 = nI (8 * s + p)) ∧ (ρ.1 0 120 = nI (8192 * s + W.bs p)) ∧ (ρ.1 0 108 = 0) ∧ (σ.1 (47 + 132 * s) 8 = 1) ∧ (s = 0 → ∃ n, ρ.1 0 52 = nI n ∧ 2 * n ≤ k ∧ ∃ E, ρ.1 0 18 = nI E ∧ E ≤ 16840 * n)
theorem Ak.R {K : Bd} {W : Wd} {b : Bool} {k s p : Nat} {σ : cl_S} {ρ : rf_S} (hS : Ak K W b k s p σ ρ) : Rel K W b k σ ρ := hS.1
theorem Ak.hs {K : Bd} {W : Wd} {b : Bool} {k s p : Nat} {σ : cl_S} {ρ : rf_S} (hS : Ak K W b k s p σ ρ) : s = 0 ∧ b = false ∨ s = 1 ∧ b = true := hS.2.1
theorem Ak.hp {K : Bd} {W : Wd} {b : Bool} {k s p : Nat} {σ : cl_S} {ρ : rf_S} (hS : Ak K W b k s p σ ρ) : p < W.np := hS.2.2.1
theorem Ak.sd {K : Bd} {W : Wd} {b : Bool} {k s p : Nat} {σ : cl_S} {ρ : rf_S} (hS : Ak K W b k s p σ ρ) : ρ.1 0 79 = nI s := hS.2.2.2.1
theorem Ak.me {K : Bd} {W : Wd} {b : Bool} {k s p : Nat} {σ : cl_S} {ρ : rf_S} (hS : Ak K W b k s p σ ρ) : ρ.1 0 118 = nI p := hS.2.2.2.2.1
theorem Ak.at' {K : Bd} {W : Wd} {b : Bool} {k s p : Nat} {σ : cl_S} {ρ : rf_S} (hS : Ak K W b k s p σ ρ) : ρ.1 0 119 = nI (8 * s + p) := hS.2.2.2.2.2.1
theorem Ak.gd {K : Bd} {W : Wd} {b : Bool} {k s p : Nat} {σ : cl_S} {ρ : rf_S} (hS : Ak K W b k s p σ ρ) : ρ.1 0 120 = nI (8192 * s + W.bs p) := hS.2.2.2.2.2.2.1
theorem Ak.pw {K : Bd} {W : Wd} {b : Bool} {k s p : Nat} {σ : cl_S} {ρ : rf_S} (hS : Ak K W b k s p σ ρ) : ρ.1 0 108 = 0 := hS.2.2.2.2.2.2.2.1
theorem Ak.on {K : Bd} {W : Wd} {b : Bool} {k s p : Nat} {σ : cl_S} {ρ : rf_S} (hS : Ak K W b k s p σ ρ) : σ.1 (47 + 132 * s) 8 = 1 := hS.2.2.2.2.2.2.2.2.1
theorem Ak.bk {K : Bd} {W : Wd} {b : Bool} {k s p : Nat} {σ : cl_S} {ρ : rf_S} (hS : Ak K W b k s p σ ρ) : s = 0 → ∃ n, ρ.1 0 52 = nI n ∧ 2 * n ≤ k ∧ ∃ E, ρ.1 0 18 = nI E ∧ E ≤ 16840 * n := hS.2.2.2.2.2.2.2.2.2
variable {K : Bd} {W W' : Wd} {b : Bool} {k s p : Nat} {σ σ' : cl_S} {ρ ρ' : rf_S}
theorem Ak.s2 (h : Ak K W b k s p σ ρ) : s < 2 := by rcases h.hs with q | q <;> omega
theorem Ak.M (h : Ak K W b k s p σ ρ) : MRel W s σ ρ := by
  rcases h.hs with ⟨rfl, -⟩ | ⟨rfl, q⟩
  · exact h.R.m0
  · exact h.R.m1 q
theorem Ak.P (h : Ak K W b k s p σ ρ) : PRel W s p σ ρ := h.M.pr p h.hp
theorem Ak.p8 (h : Ak K W b k s p σ ρ) : p < 8 := Nat.lt_of_lt_of_le h.hp h.R.cf.np.1
theorem Ak.ctx (h : Ak K W b k s p σ ρ) : Ctx W s p σ ρ := by
  have q := h.R.cf.pa p h.hp
  exact ⟨h.P.co, h.sd, h.me, h.at', h.gd, q.2.2.1, h.s2, h.p8, q.1.1, q.1.2.1, q.1.2.2.1⟩
/-- what an ask keeps for the end of the step -/
def Kp (s p : Nat) (ρ ρ' : rf_S) : Prop := ρ'.1 0 121 = ρ.1 0 121 ∧ ρ'.1 54 (8 * s + p) = ρ.1 54 (8 * s + p) ∧ ρ'.1 48 = ρ.1 48
theorem Ak.part {K' : Bd} (h : Ak K W b k s p σ ρ) (F : Fr (prt s p) (segA W b s p) scr W W' σ σ' ρ ρ') (P : PRel W' s p σ' ρ') (T' : TermR W'.n0 σ' ρ' W'.ts W'.tm W'.N) (B' : Bud K' W' b σ' ρ') (hf : ∀ j, j = 79 ∨ j = 108 ∨ j = 118 ∨ j = 119 ∨ j = 120 → ρ'.1 0 j = ρ.1 0 j) : Ak K' W' b k s p σ' ρ' := by
  have s2 := h.s2
  have p8 := h.p8
  refine ⟨h.R.part s2 h.hp F P T' B' (fun e => by rcases h.hs with q | q; exact absurd (q.2.symm.trans e) (by decide); exact q.1), h.hs, by rw [F.G.le.np]; exact h.hp, by rw [hf 79 (by omega)]; exact h.sd, by rw [hf 118 (by omega)]; exact h.me, by rw [hf 119 (by omega)]; exact h.at', by rw [hf 120 (by omega), F.G.le.bs]; exact h.gd, by rw [hf 108 (by omega)]; exact h.pw, ?_, by rw [F.f 52 (by unfold scr; omega), F.f 18 (by unfold scr; omega)]; exact h.bk⟩
  rw [F.I (47 + 132 * s) (by unfold prt; omega) (by omega) (by omega)]
  exact h.on
/-- a change of the partition's own rows alone -/
def Lc (W : Wd) (b : Bool) (s p : Nat) (σ σ' : cl_S) (ρ ρ' : rf_S) : Prop := (∀ a, ¬ prt s p a → σ'.1 a = σ.1 a) ∧ (σ'.2.1 = σ.2.1) ∧ (∀ a, ¬ prt s p a → σ'.2.2.1 a = σ.2.2.1 a) ∧ (σ'.2.2.2 = σ.2.2.2) ∧ (∀ c j, c ≠ 0 → ¬ segA W b s p c j → ρ'.1 c j = ρ.1 c j) ∧ (ρ'.2 = ρ.2) ∧ (∀ j, ρ'.1 0 j = ρ.1 0 j)
theorem Lc.cI {W : Wd} {b : Bool} {s p : Nat} {σ σ' : cl_S} {ρ ρ' : rf_S} (hS : Lc W b s p σ σ' ρ ρ') : ∀ a, ¬ prt s p a → σ'.1 a = σ.1 a := hS.1
theorem Lc.cL {W : Wd} {b : Bool} {s p : Nat} {σ σ' : cl_S} {ρ ρ' : rf_S} (hS : Lc W b s p σ σ' ρ ρ') : σ'.2.1 = σ.2.1 := hS.2.1
theorem Lc.cR {W : Wd} {b : Bool} {s p : Nat} {σ σ' : cl_S} {ρ ρ' : rf_S} (hS : Lc W b s p σ σ' ρ ρ') : ∀ a, ¬ prt s p a → σ'.2.2.1 a = σ.2.2.1 a := hS.2.2.1
theorem Lc.cT {W : Wd} {b : Bool} {s p : Nat} {σ σ' : cl_S} {ρ ρ' : rf_S} (hS : Lc W b s p σ σ' ρ ρ') : σ'.2.2.2 = σ.2.2.2 := hS.2.2.2.1
theorem Lc.q {W : Wd} {b : Bool} {s p : Nat} {σ σ' : cl_S} {ρ ρ' : rf_S} (hS : Lc W b s p σ σ' ρ ρ') : ∀ c j, c ≠ 0 → ¬ segA W b s p c j → ρ'.1 c j = ρ.1 c j := hS.2.2.2.2.1
theorem Lc.l {W : Wd} {b : Bool} {s p : Nat} {σ σ' : cl_S} {ρ ρ' : rf_S} (hS : Lc W b s p σ σ' ρ ρ') : ρ'.2 = ρ.2 := hS.2.2.2.2.2.1
theorem Lc.f {W : Wd} {b : Bool} {s p : Nat} {σ σ' : cl_S} {ρ ρ' : rf_S} (hS : Lc W b s p σ σ' ρ ρ') : ∀ j, ρ'.1 0 j = ρ.1 0 j := hS.2.2.2.2.2.2
theorem Lc.sm (h : Lc W b s p σ σ' ρ ρ') (hs : s < 2) (hp : p < 8) : SmT σ σ' := ⟨fun a ha => ⟨h.cI a (fun q => by unfold prt at q; omega), h.cR a (fun q => by unfold prt at q; omega)⟩, h.cT⟩
theorem Lc.fr (h : Lc W b s p σ σ' ρ ρ') (hs : s < 2) (hp : p < 8) (T : TermR W.n0 σ ρ W.ts W.tm W.N) : Fr (prt s p) (segA W b s p) scr W W σ σ' ρ ρ' := by
  have sm := h.sm hs hp
  have lo : ∀ a, pt W.ts a → (30 < a ∧ a < 38) ∨ 324 < a := by
    intro a ha
    rcases ha with rfl | ha
    · omega
    · have := T.C.mem a ha; omega
  exact ⟨⟨Wd.le.refl W, fun a ha j _ => by rw [(sm.r a (lo a ha)).1], fun a ha j _ _ => by rw [(sm.r a (lo a ha)).2], T.L.inm, fun b _ => by rw [sm.t], by rw [sm.t]; exact Nat.le_refl _⟩, fun a q _ _ => h.cI a q, fun a _ => by rw [h.cL], fun a q _ _ => h.cR a q, fun a _ => by rw [h.cT], fun c j hc q => h.q c j (by omega) q, h.l, fun j _ => h.f j⟩
theorem Lc.tm (h : Lc W b s p σ σ' ρ ρ') (hs : s < 2) (hp : p < 8) (T : TermR W.n0 σ ρ W.ts W.tm W.N) : TermR W.n0 σ' ρ' W.ts W.tm W.N := by
  refine T.sm (h.sm hs hp) (fun c h1 h2 => funext fun j => h.q c j (by omega) (fun q => ?_)) (fun j _ => h.f j)
  have := q.1.out
  omega
/-- no term comes, no handle, no seal -/
theorem Ak.loc (h : Ak K W b k s p σ ρ) (L : Lc W b s p σ σ' ρ ρ') (P : PRel W s p σ' ρ') (h61 : ρ'.1 61 = ρ.1 61) (h69 : ρ'.1 69 = ρ.1 69) : Ak K W b k s p σ' ρ' := by
  refine h.part (L.fr h.s2 h.p8 h.R.T) P (L.tm h.s2 h.p8 h.R.T) ?_ (fun j _ => L.f j)
  have B := h.R.bd
  have e0 : phi 0 ρ' = phi 0 ρ := phi_eq (fun g => by rw [h61]) (fun g => by rw [h69])
  have e1 : phi 1 ρ' = phi 1 ρ := phi_eq (fun g => by rw [h61]) (fun g => by rw [h69])
  exact ⟨by rw [e0, e1]; exact B.n, by rw [e0, e1]; exact B.l, by rw [L.cT]; exact B.c, by rw [L.cT]; exact B.s⟩
end Z2_K
