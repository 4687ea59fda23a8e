section Z2_X8
variable {K : Bd} {W W' : Wd} {b : Bool} {k p : Nat} {σ σ' : cl_S} {ρ ρ' : rf_S}
variable {n : Nat} {f : Nat → Int32}
theorem Sf.start {tg : Nat → List Int32} {M P M' P' : Nat → Prop} {L' : Option Nat} (hn0 : 0 < n) (hn : n ≤ 2048) (h0 : ∀ j, ¬ M j) (R : RS n 0 M P none M' P' L') : Sf n tg M' P' L' n (fun _ => False) := by
  have no : ¬ outx n 0 := by
    intro q
    rcases q with q | q
    · exact absurd q (by decide)
    · exact q ((n_lt (a := 0) (b := n) (by omega) (by omega)).mpr hn0)
  have z : ∀ j, j < n → (0:Int32) = nI j → j = 0 := fun j hj e => ((n_eq (a := 0) (b := j) (by omega) (by omega)).mp e).symm
  refine ⟨fun j hj => ?_, ?_, fun j hj hp _ y hy => absurd (R.pn j (Or.inr ⟨hj, h0 j⟩)) hp, fun y q => absurd q id, fun v hv => ?_⟩
  · rcases R.nw j hj with q | ⟨a, e⟩
    · exact absurd q (h0 j)
    · rw [z j a e]; exact ⟨hn0, fun S hS => hS.1⟩
  · rcases R.ac with ⟨j, a, e, c⟩ | ⟨a, -⟩
    · rw [z j a e] at c; exact c
    · exact absurd a no
  · rcases R.ln with q | ⟨a, -⟩
    · rw [q] at hv; cases hv
    · exact absurd a no
theorem Fin'.cg {L L' : Option Nat} {G G' : Nat → Prop} (a : Fin' L G L') (e : ∀ i, G i ↔ G' i) : Fin' L G' L' := ⟨fun i hi => a.1 i ((e i).mpr hi), a.2.1, a.2.2.imp id (fun ⟨i, q1, q2⟩ => ⟨i, (e i).mp q1, q2⟩)⟩
/-- the class and the reference find the same -/
theorem sf_main {x w : Nat} (hn0 : 0 < n) (hn : n ≤ 2048) (hx : x ≤ 2048) (hp : p < 8) (t16 : (σ.2.2.2.1 16).2 = 2048) (hT : (σ.2.2.2.1 w).2 = 2048) (hw0 : w ≠ 15 ∧ w ≠ 16 ∧ w ≠ 17) (hw : ∀ j, j < n → σ.1 w j = f j) (hq : ∀ j, j < n → ρ.1 26 (2048 * p + j) = f j) : ∃ v σ' ρ', bd2 (fc_X7_leastBad 15 (some w) (nI n) (nI x) σ) (fun r_15 σ_14 => (if 0 ≤ r_15 then some (((-100:Int32) - r_15), σ_14) else some ((1:Int32), σ_14))) = some (v, σ') ∧ bq_safe_52 (nI p) (nI x) (nI n) (0:Int32) ρ = some (v, ρ') ∧ Fr3 σ σ' ∧ Fq3 ρ ρ' := by
  -- the class's search
  obtain ⟨σb, eb, ob, vb', cb⟩ := c_fill (σ := cl_w (cl_w (cl_w σ 15 3 (nI n)) 15 4 (2147483647:Int32)) 15 2 (0:Int32)) (a := 16) (n := 2048) (v := 0) t16 (by omega)
  have Cb : CS n σb 0 0 (fun _ => 0) (fun _ => 0) none := ⟨by rw [ob 15 (by decide), r_wk (by decide), r_wk (by decide), r_ws], by rw [ob 15 (by decide), r_ws]; rfl, by rw [ob 15 (by decide), r_wk (by decide), r_ws]; rfl, (fun l q => by cases q), fun k hk => absurd hk (by omega), fun k hk => absurd hk (by omega), fun k hk => absurd hk (by omega), fun i hi _ => by rw [vb' i, if_pos hi], fun k hk => absurd hk (by omega), fun a _ ha => absurd ha (by omega), Nat.le_refl _⟩
  have Fb : Fr3 σ σb := ⟨fun d h1 h2 h3 => by rw [ob d h2, r_w h1, r_w h1, r_w h1], by rw [cb]; rfl⟩
  obtain ⟨σc, T1, s1, h1, st1, L1, ec, Cc, Fc, hs1, Rc⟩ := Cb.reach hn 0 (by decide)
  have Sc : Sf n (tgs f) (Mof T1 h1) (Mof s1 st1) L1 n (fun _ => False) := Sf.start hn0 hn (fun j ⟨q, q1, _⟩ => absurd q1 (by omega)) Rc
  have Fbc := Fb.trans Fc
  obtain ⟨σd, T2, h2, st2, L2, y2, ed, Cd, Fd, Sd⟩ := c_search (w := w) (x3 := nI x) (f := f) hn hw0 2048 0 σc T1 s1 h1 st1 L1 (by omega) (by omega) Cc (by omega) Sc (by rw [Fbc.2]; exact hT) (fun j hj => by rw [Fbc.1 w hw0.1 hw0.2.1 hw0.2.2]; exact hw j hj)
  have Fbd := Fbc.trans Fd
  -- the reference's search
  obtain ⟨ρa, ea, a1, a2, a3⟩ := lp_cnt (f := lq_safe_52 (nI p) (nI x) (nI n)) (n := 2048) (fun i ρ' => (∀ c, c ≠ 77 → ρ'.1 c = ρ.1 c) ∧ ρ'.2 = ρ.2 ∧ ∀ j, j < i → ρ'.1 77 j = 0) (by
    rintro i τ hi ⟨k1, k2, k3⟩
    refine ⟨rf_w τ 77 i 0, ?_, fun c hc => by rw [q_w hc]; exact k1 c hc, k2, fun j hj => ?_⟩
    · unfold lq_safe_52
      rw [if_neg (show ¬ (2048:Int32) ≤ nI i from fun q => by have := (n_le (a := 2048) (b := i) (by omega) (by omega)).mp q; omega), n_ix hi (by omega), n_cl (show i < 2147483648 by omega), nar_0, vln, vln, show nI i + (1:Int32) = nI (i + 1) from n_add i 1]
    · by_cases c : j = i
      · subst c; exact q_ws
      · rw [q_wk c]; exact k3 j (by omega)) (by
    rintro τ -
    unfold lq_safe_52
    rw [if_pos (show (2048:Int32) ≤ nI 2048 from (n_le (a := 2048) (b := 2048) (by omega) (by omega)).mpr (by omega))]) 2048 0 ρ (by omega) (by omega) ⟨fun _ _ => rfl, rfl, fun j hj => absurd hj (by omega)⟩
  have Qb : QS n (rf_w (rf_w ρa 0 113 (0:Int32)) 0 114 (1000000:Int32)) 0 (fun _ => 0) none := ⟨by rw [q_wk (by decide), q_ws]; rfl, q_ws, (fun l q => by cases q), fun k hk => absurd hk (by omega), fun k hk => absurd hk (by omega), fun i hi _ => by rw [q_w (by decide), q_w (by decide)]; exact a3 i hi, fun k hk => absurd hk (by omega), fun a _ ha => absurd ha (by omega)⟩
  have Gb : Fq3 ρ (rf_w (rf_w ρa 0 113 (0:Int32)) 0 114 (1000000:Int32)) := ⟨fun c h1 h2 h3 => by rw [q_w h1, q_w h1]; exact a1 c h2, fun j h1 h2 => by rw [q_wk h2, q_wk h1, a1 0 (by decide)], a2⟩
  obtain ⟨ρc, T4, h4, L4, qc, Qc, Gc, hT4, RQ, -⟩ := Qb.reach hn (Nat.le_refl 0) 0 (by decide)
  have Sq : Sf n (tgs f) (Mof T4 h4) (Pof 0 T4 h4) L4 n (fun _ => False) := Sf.start hn0 hn (fun j ⟨q, q1, _⟩ => absurd q1 (by omega)) RQ
  have Gbc := Gb.trans Gc
  obtain ⟨ρd, T3, h3, L3, y3, qd, Qd, Gd, SQd⟩ := q_search (p := p) (x2 := nI x) (f := f) hn hp n 0 ρc T4 h4 L4 (by omega) (by omega) Qc Sq (fun j hj => by rw [Gbc.1 26 (by decide) (by decide) (by decide)]; exact hq j hj)
  have Gbd := Gbc.trans Gd
  obtain ⟨Me, Le⟩ := Sd.same SQd (by omega) (fun j ⟨q, q1, _⟩ => absurd q1 (by omega)) (fun j ⟨q, q0, q1, _⟩ => by omega)
  subst Le
  -- bad words
  have mk : ∀ j, j < n → (σd.1 16 j = 1 ∧ ρd.1 77 j = 1) ∨ (σd.1 16 j = 0 ∧ ρd.1 77 j = 0) := by
    intro j hj
    by_cases c : Mof T2 h2 j
    · obtain ⟨q, q1, q2⟩ := c
      obtain ⟨r, r1, r2⟩ := (Me j).mp ⟨q, q1, q2⟩
      exact Or.inl ⟨by rw [← q2]; exact Cd.m1 q q1, by rw [← r2]; exact Qd.m1 r r1⟩
    · exact Or.inr ⟨Cd.m0 j (by omega) (fun q q1 q2 => c ⟨q, q1, q2⟩), Qd.m0 j (by omega) (fun r r1 r2 => c ((Me j).mpr ⟨r, r1, r2⟩))⟩
  have mo : ∀ j, n ≤ j → j < 2048 → ρd.1 77 j = 0 := fun j h1 h2' => Qd.m0 j h2' (fun r r1 r2 => by have := Qd.hn r r1; omega)
  have bd : ∀ i, ∃ v, fc_X7_isBad 15 (f i) (nI x) σd = some (v, σd) ∧ fq_isBadWord (f i) (nI x) ρd = some (v, ρd) := fun i => by
    obtain ⟨v, -, e1, e2⟩ := bad_eq (f i) hx hn Cd.n3 mk mo
    exact ⟨v, e1, e2⟩
  have hbc : ∀ σ', E15 σd σ' → ∀ i, i < n → fc_X7_isBad 15 (f i) (nI x) σ' = some (Classical.choose (bd i), σ') := by
    intro σ' E i _
    obtain ⟨e1, e2⟩ := Classical.choose_spec (bd i)
    obtain ⟨v, -, d1, d2⟩ := bad_eq (σ := σ') (ρ := ρd) (f i) hx hn (by rw [E.1 15 3 (by omega)]; exact Cd.n3) (fun j hj => by rw [E.1 16 j (by omega)]; exact mk j hj) mo
    rw [e2] at d2
    rw [d1, (Prod.mk.inj (Option.some.inj d2)).1]
  have hbq : ∀ ρ', Q114 ρd ρ' → ∀ i, i < n → fq_isBadWord (f i) (nI x) ρ' = some (Classical.choose (bd i), ρ') := by
    intro ρ' E i _
    obtain ⟨e1, e2⟩ := Classical.choose_spec (bd i)
    obtain ⟨v, -, d1, d2⟩ := bad_eq (σ := σd) (ρ := ρ') (f i) hx hn Cd.n3 (fun j hj => by rw [E.1 77 j (by omega)]; exact mk j hj) (fun j h1 h2' => by rw [E.1 77 j (by omega)]; exact mo j h1 h2')
    rw [e1] at d1
    rw [d2, (Prod.mk.inj (Option.some.inj d1)).1]
  have f0 : ∀ {G : Nat → Prop}, (∀ i, ¬ G i) → Fin' L2 G L2 := fun q => ⟨fun i hi => absurd hi (q i), fun v hv => ⟨v, hv, Nat.le_refl _⟩, Or.inl rfl⟩
  obtain ⟨σe, L5, y5, ee, Ee, l5, lb5, F5⟩ := c_scan (σ := σd) (M := Mof T2 h2) (vb := fun i => Classical.choose (bd i)) (w := w) (xx := nI x) (f := f) (L := L2) hn Cd.n3 (by rw [Fbd.2]; exact hT) hw0.1 (fun j hj => by rw [Fbd.1 w hw0.1 hw0.2.1 hw0.2.2]; exact hw j hj) (fun i _ ⟨q, q1, q2⟩ => by rw [← q2]; exact Cd.m1 q q1) (fun i hi c => Cd.m0 i (by omega) (fun q q1 q2 => c ⟨q, q1, q2⟩)) hbc n 0 σd L2 (by omega) (by omega) ⟨fun _ _ _ => rfl, rfl⟩ Cd.l4 Cd.lb (f0 (fun i q => absurd q.1 (by omega)))
  have tn := pigeon n T3 h3 Qd.hn Qd.inj
  obtain ⟨ρe, L6, y6, qe, Qe, l6, lb6, F6⟩ := q_scan (ρ := ρd) (T := T3) (h := h3) (vb := fun i => Classical.choose (bd i)) (xx := nI x) (f := f) (L := L2) (p := p) hn hp tn Qd.n3 (fun j hj => ⟨Qd.stk j hj, Qd.hn j hj⟩) (fun j hj => by rw [Gbd.1 26 (by decide) (by decide) (by decide)]; exact hq j hj) hbq T3 0 ρd L2 (by omega) (by omega) ⟨fun _ _ _ => rfl, rfl⟩ Qd.l4 Qd.lb (f0 (fun i q => by obtain ⟨⟨q, q1, _⟩, _⟩ := q; omega))
  have L56 : L5 = L6 := F5.un (F6.cg (fun i => ⟨fun q => ⟨by obtain ⟨⟨r, r1, r2⟩, _⟩ := q; rw [← r2]; exact Qd.hn r r1, (Me i).mpr q.1, q.2⟩, fun q => ⟨(Me i).mp q.2.1, q.2.2⟩⟩))
  subst L56
  have ec1 : fc_X7_leastBad 15 (some w) (nI n) (nI x) σ = bc_X7_leastBad_133 15 σe := by
    unfold fc_X7_leastBad bc_X7_leastBad_0
    rw [vln, vln, vln, show fc_J7_fill_53178 (some (15 + 1)) (0:Int32) _ = some σb from eb, bd1n, ec, bd1n]
    unfold bc_X7_leastBad_32
    rw [show lp (fun z : (Int32 × cl_S) => lc_X7_leastBad_32 15 (some w) (nI x) z.1 z.2) ((0:Int32), σc) = _ from ed, Option.bind_some]
    unfold ec_X7_leastBad_32 bc_X7_leastBad_77 bc_X7_leastBad_80
    rw [show lp (fun z : (Int32 × cl_S) => lc_X7_leastBad_80 15 (some w) (nI x) z.1 z.2) ((0:Int32), σd) = _ from ee, Option.bind_some]
    rfl
  have eq1 : bq_safe_52 (nI p) (nI x) (nI n) (0:Int32) ρ = eq_safe_187 (nI p) (nI x) y6 ρe := by
    unfold bq_safe_52
    rw [show lp (fun z : (Int32 × rf_S) => lq_safe_52 (nI p) (nI x) (nI n) z.1 z.2) ((0:Int32), ρ) = _ from ea, Option.bind_some]
    unfold eq_safe_52
    rw [vln, vln, qc, bd1n]
    unfold bq_safe_95
    rw [show lp (fun z : (Int32 × rf_S) => lq_safe_95 (nI p) (nI x) (nI n) z.1 z.2) ((0:Int32), ρc) = _ from qd, Option.bind_some]
    unfold eq_safe_95 bq_safe_187
    rw [show lp (fun z : (Int32 × rf_S) => lq_safe_187 (nI p) (nI x) z.1 z.2) ((0:Int32), ρd) = _ from qe, Option.bind_some]
  have FF : Fr3 σ σe := Fbd.trans ⟨fun d h1 _ _ => funext fun j => Ee.1 d j (fun q => h1 q.1), Ee.2⟩
  have GG : Fq3 ρ ρe := Gbd.trans ⟨fun c h1 _ _ => funext fun j => Qe.1 c j (fun q => h1 q.1), fun j _ h2 => Qe.1 0 j (fun q => h2 q.2), Qe.2⟩
  rw [ec1, eq1]
  unfold bc_X7_leastBad_133 eq_safe_187
  rw [l5, l6]
  cases eL : L5 with
  | none =>
    refine ⟨1, σe, ρe, ?_, ?_, FF, GG⟩
    · show bd2 (if (2147483647:Int32) = 2147483647 then some ((-1:Int32), σe) else _) _ = _
      rw [if_pos rfl, bd2n, if_neg (by decide)]
    · show (if (1000000:Int32) = 1000000 then some ((1:Int32), ρe) else _) = _
      rw [if_pos rfl]
  | some l =>
    have hl := lb5 l eL
    refine ⟨(-100:Int32) - nI l, σe, ρe, ?_, ?_, FF, GG⟩
    · show bd2 (if nI l = (2147483647:Int32) then some ((-1:Int32), σe) else some (nI l, σe)) _ = _
      rw [if_neg (fun q => by have := (n_eq (a := l) (b := 2147483647) (by omega) (by omega)).mp q; omega), bd2n, if_pos (show (0:Int32) ≤ nI l from (n_le (a := 0) (b := l) (by omega) (by omega)).mpr (by omega))]
    · show (if nI l = (1000000:Int32) then some ((1:Int32), ρe) else some ((-100:Int32) - nI l, ρe)) = _
      rw [if_neg (fun q => by have := (n_eq (a := l) (b := 1000000) (by omega) (by omega)).mp q; omega)]
end Z2_X8
