section Z2_G4
variable {K : Bd} {W W' : Wd} {b : Bool} {k s p : Nat} {σ σ' : cl_S} {ρ ρ' : rf_S}
theorem TFr.wk {ts ts' : List Nat} {c d c' d' : Nat} (F : TFr σ σ' ts ts' c d) (h1 : c ≤ c') (h2 : d ≤ d') : TFr σ σ' ts ts' c' d' := ⟨F.I, F.L, F.R, F.T, F.n, F.sub, F.len, F.fI, F.fR, F.w, F.R31, by have := F.rc; omega, by have := F.rs; omega⟩
/-- the reference's terms and rows change alone -/
def QFb (ρ ρ' : rf_S) : Prop := (∀ d, 12 < d → ρ'.1 d = ρ.1 d) ∧ (ρ'.2 = ρ.2) ∧ (∀ j, j ≠ 10 → j ≠ 12 → j ≠ 13 → j ≠ 14 → j ≠ 15 → j ≠ 16 → j ≠ 18 → ρ'.1 0 j = ρ.1 0 j)
theorem QFb.o {ρ ρ' : rf_S} (hS : QFb ρ ρ') : ∀ d, 12 < d → ρ'.1 d = ρ.1 d := hS.1
theorem QFb.l {ρ ρ' : rf_S} (hS : QFb ρ ρ') : ρ'.2 = ρ.2 := hS.2.1
theorem QFb.f {ρ ρ' : rf_S} (hS : QFb ρ ρ') : ∀ j, j ≠ 10 → j ≠ 12 → j ≠ 13 → j ≠ 14 → j ≠ 15 → j ≠ 16 → j ≠ 18 → ρ'.1 0 j = ρ.1 0 j := hS.2.2
theorem QFr.qb (h : QFr ρ ρ') : QFb ρ ρ' := ⟨h.o, h.l, fun j a1 a2 a3 a4 a5 a6 _ => h.f j a1 a2 a3 a4 a5 a6⟩
theorem QFb.trans {ρ'' : rf_S} (h : QFb ρ ρ') (k : QFb ρ' ρ'') : QFb ρ ρ'' := ⟨fun d hd => (k.o d hd).trans (h.o d hd), k.l.trans h.l, fun j a1 a2 a3 a4 a5 a6 a7 => (k.f j a1 a2 a3 a4 a5 a6 a7).trans (h.f j a1 a2 a3 a4 a5 a6 a7)⟩
/-- room for a row in the reference -/
theorem RSt0.rows {N E n : Nat} (Q : RSt0 ρ N) (hE : ρ.1 0 18 = nI E) (hE' : E + n ≤ 690000) (h12 : ∀ i, (i < E ∨ E + n ≤ i) → ρ'.1 12 i = ρ.1 12 i) (hq : ∀ c, c ≠ 0 → c ≠ 12 → ρ'.1 c = ρ.1 c) (hf : ∀ j, j ≠ 18 → ρ'.1 0 j = ρ.1 0 j) (h18 : ρ'.1 0 18 = nI (E + n)) : RSt0 ρ' N := by
  obtain ⟨E0, e1, e2, kd⟩ := Q.e
  have eE : E0 = E := (n_eq (by omega) (by omega)).mp (e1.symm.trans hE)
  subst eE
  have d1 := hq 1 (by decide) (by decide)
  have d2 := hq 2 (by decide) (by decide)
  have d3 := hq 3 (by decide) (by decide)
  have d4 := hq 4 (by decide) (by decide)
  have rb : ∀ t, t < N → ∀ i, (rbk ρ' t i ↔ rbk ρ t i) := by
    intro t ht i
    unfold rbk
    rw [d1, d2, d3, d4]
    refine ⟨?_, ?_⟩
    · rintro (q | ⟨q1, o, l, ho, hl, q2, q3, q4⟩)
      · exact Or.inl q
      · refine Or.inr ⟨q1, o, l, ho, hl, q2, q3, ?_⟩
        obtain ⟨kk, hk, ek, rs⟩ := kd t ht
        have k1 : kk = 1 := (n_eq (by omega) (by omega)).mp (ek.symm.trans q1)
        subst k1
        unfold rsh at rs
        rw [if_neg (by omega), if_pos rfl] at rs
        obtain ⟨o', l', f2, f3, f4, hol, hl'⟩ := rs
        have : o' = o := (n_eq (by omega) ho).mp (f2.symm.trans q2)
        have : l' = l := (n_eq (by omega) hl).mp (f3.symm.trans q3)
        subst o'; subst l'
        rw [← q4]
        congr 1
        exact (rowH_cg l (fun j hj => (h12 (o + j) (by omega)).symm))
    · rintro (q | ⟨q1, o, l, ho, hl, q2, q3, q4⟩)
      · exact Or.inl q
      · refine Or.inr ⟨q1, o, l, ho, hl, q2, q3, ?_⟩
        obtain ⟨kk, hk, ek, rs⟩ := kd t ht
        have k1 : kk = 1 := (n_eq (by omega) (by omega)).mp (ek.symm.trans q1)
        subst k1
        unfold rsh at rs
        rw [if_neg (by omega), if_pos rfl] at rs
        obtain ⟨o', l', f2, f3, f4, hol, hl'⟩ := rs
        have : o' = o := (n_eq (by omega) ho).mp (f2.symm.trans q2)
        have : l' = l := (n_eq (by omega) hl).mp (f3.symm.trans q3)
        subst o'; subst l'
        rw [← q4]
        congr 1
        exact (rowH_cg l (fun j hj => h12 (o + j) (by omega)))
  refine ⟨by rw [hf 12 (by decide)]; exact Q.n, ⟨E0 + n, h18, hE', fun t ht => ?_⟩, ?_, fun i hi => ?_⟩
  · obtain ⟨kk, hk, ek, rs⟩ := kd t ht
    rw [d1, d2, d3, d4]
    refine ⟨kk, hk, ek, ?_⟩
    unfold rsh at rs ⊢
    by_cases c0 : kk = 0
    · rw [if_pos c0] at rs ⊢; exact rs
    · rw [if_neg c0] at rs ⊢
      by_cases c1 : kk = 1
      · rw [if_pos c1] at rs ⊢
        obtain ⟨o, l, f2, f3, f4, hol, hl⟩ := rs
        exact ⟨o, l, f2, f3, f4, by omega, hl⟩
      · rw [if_neg c1] at rs ⊢; exact rs
  · intro t u ht hu h1 hk
    unfold kyQ at hk
    rw [d1, d2, d3, d4] at hk
    rw [d1] at h1
    exact Q.uq t u ht hu h1 hk
  · obtain ⟨l, hl, ml, pl⟩ := Q.ch i hi
    refine ⟨l, by rw [hq 5 (by decide) (by decide), hq 11 (by decide) (by decide)]; exact hl, fun t => ?_, pl⟩
    rw [ml t]
    exact ⟨fun q => ⟨q.1, (rb t q.1 i).mpr q.2⟩, fun q => ⟨q.1, (rb t q.1 i).mp q.2⟩⟩
theorem t_row {n0 N a0 cap fr n E : Nat} {ts : List Nat} {tm : Nat → Nat} (T : TermR n0 σ ρ ts tm N) (hT : (σ.2.2.2.1 a0).2 = cap) (hc : n ≤ cap) (hcap : cap ≤ 2048) (h0 : a0 < 325) (ha0 : a0 ≠ 31) (hf : ∀ j, j < n → σ.1 a0 j = ρ.1 26 (fr + j)) (hfr : fr + n ≤ 17000) (hN : N < 112000) (hn0 : 112000 ≤ n0 ∧ n0 < 1000000) (h18 : ρ.1 0 18 = nI E) (hE : E + n ≤ 690000) (h2 : 2 ≤ σ.2.2.2.2.2.1) (hs : 16 + n ≤ σ.2.2.2.2.2.2) :
    ∃ σ' ρ' ts' tm' N' t E', fc_X10_row 31 (some a0) (nI n) σ = some (some (tm' t), σ') ∧ fq_rowTerm (nI fr) (nI n) ρ = some (nI t, ρ') ∧ t < N' ∧ N ≤ N' ∧ N' ≤ N + 1 ∧ ts'.length ≤ ts.length + 1 ∧ (∀ u, u < N → tm' u = tm u) ∧ TFr σ σ' ts ts' 1 n ∧ QFb ρ ρ' ∧ TermR n0 σ' ρ' ts' tm' N' ∧ ρ'.1 0 18 = nI E' ∧ E' ≤ E + n ∧ ρ'.1 1 t = nI 1 ∧ ρ'.1 3 t = nI n := by
  obtain ⟨C, Q, L, K0, J1, J2, J3⟩ := T
  obtain ⟨m, hm, em, hq⟩ := q_row_find Q.toRSt0 hfr
  -- a row of the reference that has the words has them in the class
  have w1 : ∀ t, t < N → rwQ ρ t n (fun j => ρ.1 26 (fr + j)) → σ.1 (tm t) 0 = nI 1 ∧ wdL σ (tm t) n (σ.1 a0) := by
    rintro t ht ⟨q1, q2, o, ho, q3, q4⟩
    refine ⟨by rw [L.kd t ht]; exact q1, (L.rw t o n ht q1 q3 q2 (by omega) (by omega)).cgf (fun j hj => ?_)⟩
    rw [q4 j hj, hf j hj]
  have w2 : ∀ t, t < N → σ.1 (tm t) 0 = nI 1 → wdL σ (tm t) n (σ.1 a0) → rwQ ρ t n (fun j => ρ.1 26 (fr + j)) := by
    intro t ht h1 hw
    rw [L.kd t ht] at h1
    obtain ⟨E0, -, hE0, kd⟩ := Q.e
    obtain ⟨kk, hk, ek, rs⟩ := kd t ht
    have k1 : kk = 1 := (n_eq (by omega) (by omega)).mp (ek.symm.trans h1)
    subst k1
    unfold rsh at rs
    rw [if_neg (by omega), if_pos rfl] at rs
    obtain ⟨o, l, f2, f3, f4, hol, hl⟩ := rs
    obtain ⟨el, eg⟩ := (L.rw t o l ht h1 f2 f3 (by omega) (by omega)).un hw
    subst el
    exact ⟨h1, f3, o, by omega, f2, fun j hj => (eg j hj).trans (hf j hj)⟩
  rcases c_row_find C hT hc (by omega) hcap with ⟨a, ha, k1, hw, ec⟩ | ⟨hno, ec⟩
  · rcases hq with ⟨t, ht, hr, eq⟩ | ⟨hnq, -⟩
    · obtain ⟨v1, v2⟩ := w1 t ht hr
      have : tm t = a := C.uqr (tm t) (L.inm t ht) a ha n (σ.1 a0) v1 k1 v2 hw
      subst this
      exact ⟨σ, ρ, ts, tm, N, t, E, ec, eq, ht, Nat.le_refl _, Nat.le_succ _, Nat.le_succ _, fun _ _ => rfl, (TFr.refl σ ts).wk (by omega) (by omega), (QFr.refl ρ).qb, ⟨C, Q, L, K0, J1, J2, J3⟩, h18, by omega, hr.1, hr.2.1⟩
    · exfalso
      obtain ⟨t, ht, rfl⟩ := L.rall a ha k1
      exact hnq t ht (w2 t ht k1 hw)
  · rcases hq with ⟨t, ht, hr, eq⟩ | ⟨hnq, eq⟩
    · exfalso
      obtain ⟨v1, v2⟩ := w1 t ht hr
      exact hno (tm t) (L.inm t ht) v1 v2
    · obtain ⟨σ', ec', C', F, f9, a0', a9, j8, wa⟩ := c_row_add C hT hc hcap h0 ha0 h2 hs hno
      -- the reference
      obtain ⟨ρ1, g1, g2, g3, g4, g5⟩ := q_row_cp (m := m) hfr hE n 0 ρ (by omega) (by omega) h18
      have z18 : ρ1.1 0 18 = nI E := by rw [g3 0 (by decide)]; exact h18
      have Q2 : RSt0 (rf_w ρ1 0 18 (nI (E + n))) N := Q.toRSt0.rows h18 hE (fun i hi => by rw [q_w (by decide), g4 i (by omega)]) (fun c h1 h2 => by rw [q_w h1, g3 c h2]) (fun j hj => by rw [q_wk hj, g3 0 (by decide)]) q_ws
      obtain ⟨ρ3, ea, A⟩ := q_add (ρ := rf_w ρ1 0 18 (nI (E + n))) Q2.n.1 hN (show 1 < 10 by omega) (nI E) (nI n) 0 hm
      have eq' : fq_rowTerm (nI fr) (nI n) ρ = some (nI N, ρ3) := by
        rw [eq]
        unfold bq_rowTerm_159
        have g1' : lp (fun z : (Int32 × rf_S) => lq_rowTerm_159 (nI fr) (nI n) (nI m) z.1 z.2) ((0:Int32), ρ) = some (nI n, ρ1) := g1
        rw [g1', Option.bind_some]
        show eq_rowTerm_159 (nI fr) (nI n) (nI m) (nI n) ρ1 = _
        unfold eq_rowTerm_159
        have ea' : fq_add (1:Int32) (nI E) (nI n) (0:Int32) (nI m) (rf_w ρ1 0 18 (nI (E + n))) = some (nI N, ρ3) := ea
        rw [z18, n_add, vln, q_ws, n_sub (show n ≤ E + n by omega), show E + n - n = E by omega, ea', bd2n]
      have Q3 : RSt0 ρ3 (N + 1) := by
        refine q_add_st Q2 hN (show 1 < 10 by omega) (fun E' e1 e2 => ?_) hm (Or.inr ⟨rfl, E, n, by omega, by omega, rfl, rfl, ?_⟩) (fun q => absurd rfl q) A
        · have : E' = E + n := (n_eq (by omega) (by omega)).mp (e1.symm.trans q_ws)
          unfold rsh
          rw [if_neg (by omega), if_pos rfl]
          exact ⟨E, n, rfl, rfl, rfl, by omega, by omega⟩
        · rw [← em]
          congr 1
          refine rowH_cg n (fun j hj => ?_)
          rw [q_w (by decide)]; exact g5 j (by omega) hj
      have p3 : ∀ c, (c = 1 ∨ c = 2 ∨ c = 3 ∨ c = 4 ∨ c = 6) → ∀ t, t < N → ρ3.1 c t = ρ.1 c t := fun c hc t ht => by rw [A.p c t (by omega) (by omega), q_w (by omega), g3 c (by omega)]
      have q12 : ∀ i, (i < E ∨ E + n ≤ i) → ρ3.1 12 i = ρ.1 12 i := fun i hi => by rw [A.o 12 (by decide) (by decide) (by decide) (by decide) (by decide) (by decide) (by decide) (by decide), q_w (by decide), g4 i (by omega)]
      have q12' : ∀ j, j < n → ρ3.1 12 (E + j) = ρ.1 26 (fr + j) := fun j hj => by rw [A.o 12 (by decide) (by decide) (by decide) (by decide) (by decide) (by decide) (by decide) (by decide), q_w (by decide)]; exact g5 j (by omega) hj
      have f3 : ∀ j, j ≠ 12 → j ≠ 18 → ρ3.1 0 j = ρ.1 0 j := fun j h1 h2 => by rw [A.f j h1, q_wk h2, g3 0 (by decide)]
      obtain ⟨E0, eE0, hE0, kd⟩ := Q.e
      have eE : E0 = E := (n_eq (by omega) (by omega)).mp (eE0.symm.trans h18)
      subst eE
      have up : ∀ t, t < N → va_up tm N σ.2.2.2.2.1 t = tm t := fun t ht => up_n (by omega)
      have Lm : ∀ t, t < N → tm t < σ.2.2.2.2.1 := fun t ht => (C.mem _ (L.inm t ht)).2.1
      have pr : ∀ t x, t < N → ∀ kk, 2 < kk → kk < 10 → ρ.1 1 t = nI kk → (ρ.1 2 t = nI x → x < N + 1 → x < N) ∧ (kk ≠ 4 → kk ≠ 6 → ρ.1 3 t = nI x → x < N + 1 → x < N) ∧ (kk = 8 → ρ.1 4 t = nI x → x < N + 1 → x < N) := by
        intro t x ht kk h3 h10 e1
        obtain ⟨k', hk', ek, rs⟩ := kd t ht
        have : k' = kk := (n_eq (by omega) (by omega)).mp (ek.symm.trans e1)
        subst this
        unfold rsh at rs
        rw [if_neg (by omega), if_neg (by omega), if_neg (by omega)] at rs
        obtain ⟨⟨x1, ex1, hx1⟩, r2, r3⟩ := rs
        refine ⟨fun q hx => ?_, fun c4 c6 q hx => ?_, fun c8 q hx => ?_⟩
        · have := (n_eq (by omega) (by omega)).mp (ex1.symm.trans q); omega
        · rw [if_neg (by omega)] at r2
          obtain ⟨x2, ex2, hx2⟩ := r2
          have := (n_eq (by omega) (by omega)).mp (ex2.symm.trans q); omega
        · rw [if_pos c8] at r3
          obtain ⟨x3, ex3, hx3⟩ := r3
          have := (n_eq (by omega) (by omega)).mp (ex3.symm.trans q); omega
      have Nk : ρ3.1 1 N = nI 1 := A.p1
      have L' : TL σ' ρ3 (σ.2.2.2.2.1 :: ts) (va_up tm N σ.2.2.2.2.1) (N + 1) := by
        refine ⟨fun t ht => ?_, fun t u ht hu e => ?_, fun t ht => ?_, fun t ht e => ?_, fun t kk x ht h3 h10 e1 e2 hx => ?_, fun t kk x ht h3 h10 h4 h6 e1 e2 hx => ?_, fun t x ht e1 e2 hx => ?_, fun t o l ht e1 e2 e3 ho hl => ?_, fun d hd e => ?_, fun t ht => ?_, fun d hd hni => ?_⟩
        · by_cases c : t = N
          · subst c; rw [up_s]; exact List.mem_cons_self
          · rw [up t (by omega)]; exact List.mem_cons_of_mem _ (L.inm t (by omega))
        · by_cases c : t = N
          · by_cases c' : u = N
            · omega
            · subst c
              rw [up_s, up u (by omega)] at e
              have := Lm u (by omega); omega
          · by_cases c' : u = N
            · subst c'
              rw [up_s, up t (by omega)] at e
              have := Lm t (by omega); omega
            · rw [up t (by omega), up u (by omega)] at e
              exact L.inj t u (by omega) (by omega) e
        · by_cases c : t = N
          · subst c; rw [up_s, a0', Nk]
          · rw [up t (by omega), F.fI _ (Or.inr (L.inm t (by omega))) 0 (by omega), p3 1 (by omega) t (by omega)]; exact L.kd t (by omega)
        · by_cases c : t = N
          · subst c; rw [Nk] at e; exact absurd e (by decide)
          · rw [p3 1 (by omega) t (by omega)] at e
            rw [up t (by omega), F.fI _ (Or.inr (L.inm t (by omega))) 1 (by omega), p3 2 (by omega) t (by omega)]; exact L.nu t (by omega) e
        · by_cases c : t = N
          · subst c; rw [Nk] at e1; have := (n_eq (by omega) (by omega)).mp e1; omega
          · rw [p3 1 (by omega) t (by omega)] at e1
            rw [p3 2 (by omega) t (by omega)] at e2
            have hx' := (pr t x (by omega) kk h3 h10 e1).1 e2 hx
            rw [up t (by omega), up x hx', F.fR _ (Or.inr (L.inm t (by omega))) 3 (by omega) (by omega)]
            exact L.pa t kk x (by omega) h3 h10 e1 e2 hx'
        · by_cases c : t = N
          · subst c; rw [Nk] at e1; have := (n_eq (by omega) (by omega)).mp e1; omega
          · rw [p3 1 (by omega) t (by omega)] at e1
            rw [p3 3 (by omega) t (by omega)] at e2
            have hx' := (pr t x (by omega) kk h3 h10 e1).2.1 h4 h6 e2 hx
            rw [up t (by omega), up x hx', F.fR _ (Or.inr (L.inm t (by omega))) 4 (by omega) (by omega)]
            exact L.pb t kk x (by omega) h3 h10 h4 h6 e1 e2 hx'
        · by_cases c : t = N
          · subst c; rw [Nk] at e1; have := (n_eq (by omega) (by omega)).mp e1; omega
          · rw [p3 1 (by omega) t (by omega)] at e1
            rw [p3 4 (by omega) t (by omega)] at e2
            have hx' := (pr t x (by omega) 8 (by omega) (by omega) e1).2.2 rfl e2 hx
            rw [up t (by omega), up x hx', F.fR _ (Or.inr (L.inm t (by omega))) 5 (by omega) (by omega)]
            exact L.pc t x (by omega) e1 e2 hx'
        · by_cases c : t = N
          · subst c
            rw [A.p2] at e2
            rw [A.p3] at e3
            have h1 := (n_eq (by omega) ho).mp e2
            have h2' := (n_eq (by omega) hl).mp e3
            subst h1; subst h2'
            rw [up_s]
            exact wa.cgf (fun j hj => by rw [hf j hj, q12' j hj])
          · rw [p3 1 (by omega) t (by omega)] at e1
            rw [p3 2 (by omega) t (by omega)] at e2
            rw [p3 3 (by omega) t (by omega)] at e3
            rw [up t (by omega)]
            refine ((L.rw t o l (by omega) e1 e2 e3 ho hl).fr F (L.inm t (by omega))).cgf (fun j hj => ?_)
            obtain ⟨k', hk', ek, rs⟩ := kd t (by omega)
            have k1 : k' = 1 := (n_eq (by omega) (by omega)).mp (ek.symm.trans e1)
            subst k1
            unfold rsh at rs
            rw [if_neg (by omega), if_pos rfl] at rs
            obtain ⟨o', l', f2', f3', f4', hol, hl'⟩ := rs
            have : o' = o := (n_eq (by omega) ho).mp (f2'.symm.trans e2)
            have : l' = l := (n_eq (by omega) hl).mp (f3'.symm.trans e3)
            subst o'; subst l'
            rw [q12 (o + j) (by omega)]
        · rcases List.mem_cons.mp hd with rfl | hd'
          · exact ⟨N, by omega, up_s⟩
          · rw [F.fI d (Or.inr hd') 0 (by omega)] at e
            obtain ⟨t, ht, et⟩ := L.rall d hd' e
            exact ⟨t, by omega, by rw [up t ht]; exact et⟩
        · by_cases c : t = N
          · subst c; rw [up_s, a9, A.p6]; exact ⟨rfl, Or.inl rfl⟩
          · rw [up t (by omega), f9 _ (L.inm t (by omega)), p3 6 (by omega) t (by omega)]; exact L.told t (by omega)
        · rcases List.mem_cons.mp hd with rfl | hd'
          · exact absurd up_s (hni N (by omega))
          · rw [f9 d hd']
            exact L.tex d hd' (fun t ht q => hni t (by omega) (by rw [up t ht]; exact q))
      obtain ⟨k1, k2, k3, k4, k5, k6, k7⟩ := K0
      refine ⟨σ', ρ3, _, _, N + 1, N, E0 + n, by rw [ec, ec', up_s], eq', Nat.lt_succ_self _, Nat.le_succ _, Nat.le_refl _, by rw [List.length_cons]; exact Nat.le_refl _, up, F, ?_, ⟨C', ⟨Q3, ?_⟩, L', ⟨by omega, by rw [up 0 (by omega)]; exact k2, by rw [up 2 (by omega)]; exact k3, by rw [up 3 (by omega)]; exact k4, by rw [f3 19 (by decide) (by decide)]; exact k5, by rw [f3 20 (by decide) (by decide)]; exact k6, by rw [f3 21 (by decide) (by decide)]; exact k7⟩, Or.inl j8, ?_, ⟨fun t q1 q2 => by rw [nbd_s hn0] at q1; omega, fun w => by omega⟩⟩, by rw [A.f 18 (by decide)]; exact q_ws, Nat.le_refl _, Nk, A.p3⟩
      · exact ⟨fun d hd => by rw [A.o d (by omega) (by omega) (by omega) (by omega) (by omega) (by omega) (by omega) (by omega), q_w (by omega), g3 d (by omega)], by rw [A.l]; exact g2, fun j _ h2 _ _ _ _ h8 => f3 j h2 h8⟩
      · obtain ⟨S, s1, s2, s3⟩ := Q.sec
        refine ⟨S, by rw [f3 13 (by decide) (by decide)]; exact s1, by omega, fun t ht e => ?_⟩
        by_cases c : t = N
        · subst c; rw [Nk] at e; exact absurd e (by decide)
        · rw [p3 1 (by omega) t (by omega)] at e
          rw [p3 2 (by omega) t (by omega)]
          exact s3 t (by omega) e
      · refine JQ.add (ρ := rf_w ρ1 0 18 (nI (E0 + n))) ?_ hN A
        exact J2.cg (fun c hc t _ => by rw [q_w (by omega), g3 c (by omega)]) (fun j hj => by rw [q_wk (by omega), g3 0 (by decide)])
end Z2_G4
