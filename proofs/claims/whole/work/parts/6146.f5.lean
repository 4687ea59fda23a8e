section Z2_F5
variable {ρ ρ' : rf_S}
/-- the reference as it is made -/
def IniQ (ρ : rf_S) : Prop := (RSt ρ 4) ∧ (ρ.1 1 0 = nI 2) ∧ (ρ.1 1 1 = nI 0) ∧ (ρ.1 1 2 = nI 9) ∧ (ρ.1 1 3 = nI 6) ∧ (ρ.1 2 0 = nI 0) ∧ (ρ.1 2 1 = nI 1) ∧ (ρ.1 2 2 = nI 0) ∧ (ρ.1 2 3 = nI 2) ∧ (ρ.1 3 2 = nI 1) ∧ (ρ.1 6 0 = 0) ∧ (ρ.1 6 1 = 0) ∧ (ρ.1 6 2 = 0) ∧ (ρ.1 6 3 = 1) ∧ (ρ.1 0 19 = nI 0) ∧ (ρ.1 0 20 = nI 2) ∧ (ρ.1 0 21 = nI 3) ∧ (ρ.1 0 15 = -1) ∧ (ρ.1 0 16 = -1) ∧ (ρ.1 0 41 = -1) ∧ (∀ j, j ≠ 12 → j ≠ 13 → j ≠ 15 → j ≠ 16 → j ≠ 19 → j ≠ 20 → j ≠ 21 → j ≠ 41 → ρ.1 0 j = 0) ∧ (∀ c, 11 < c → c ≠ 14 → c ≠ 15 → c ≠ 75 → ∀ j, ρ.1 c j = 0) ∧ (∀ j, j < 128 → ρ.1 75 j = -1) ∧ (∀ op, 0 < op → op < 42 → ρ.2 13 op = Int64.ofNat (enc 128 (opN op)) ∧ ρ.1 14 op = nI (nfr op) ∧ ρ.1 15 op = nI (nfr op + (opN op).length))
theorem IniQ.Q {ρ : rf_S} (hS : IniQ ρ) : RSt ρ 4 := hS.1
theorem IniQ.k0 {ρ : rf_S} (hS : IniQ ρ) : ρ.1 1 0 = nI 2 := hS.2.1
theorem IniQ.k1 {ρ : rf_S} (hS : IniQ ρ) : ρ.1 1 1 = nI 0 := hS.2.2.1
theorem IniQ.k2 {ρ : rf_S} (hS : IniQ ρ) : ρ.1 1 2 = nI 9 := hS.2.2.2.1
theorem IniQ.k3 {ρ : rf_S} (hS : IniQ ρ) : ρ.1 1 3 = nI 6 := hS.2.2.2.2.1
theorem IniQ.a0 {ρ : rf_S} (hS : IniQ ρ) : ρ.1 2 0 = nI 0 := hS.2.2.2.2.2.1
theorem IniQ.a1 {ρ : rf_S} (hS : IniQ ρ) : ρ.1 2 1 = nI 1 := hS.2.2.2.2.2.2.1
theorem IniQ.a2 {ρ : rf_S} (hS : IniQ ρ) : ρ.1 2 2 = nI 0 := hS.2.2.2.2.2.2.2.1
theorem IniQ.a3 {ρ : rf_S} (hS : IniQ ρ) : ρ.1 2 3 = nI 2 := hS.2.2.2.2.2.2.2.2.1
theorem IniQ.b2 {ρ : rf_S} (hS : IniQ ρ) : ρ.1 3 2 = nI 1 := hS.2.2.2.2.2.2.2.2.2.1
theorem IniQ.s0 {ρ : rf_S} (hS : IniQ ρ) : ρ.1 6 0 = 0 := hS.2.2.2.2.2.2.2.2.2.2.1
theorem IniQ.s1 {ρ : rf_S} (hS : IniQ ρ) : ρ.1 6 1 = 0 := hS.2.2.2.2.2.2.2.2.2.2.2.1
theorem IniQ.s2 {ρ : rf_S} (hS : IniQ ρ) : ρ.1 6 2 = 0 := hS.2.2.2.2.2.2.2.2.2.2.2.2.1
theorem IniQ.s3 {ρ : rf_S} (hS : IniQ ρ) : ρ.1 6 3 = 1 := hS.2.2.2.2.2.2.2.2.2.2.2.2.2.1
theorem IniQ.f19 {ρ : rf_S} (hS : IniQ ρ) : ρ.1 0 19 = nI 0 := hS.2.2.2.2.2.2.2.2.2.2.2.2.2.2.1
theorem IniQ.f20 {ρ : rf_S} (hS : IniQ ρ) : ρ.1 0 20 = nI 2 := hS.2.2.2.2.2.2.2.2.2.2.2.2.2.2.2.1
theorem IniQ.f21 {ρ : rf_S} (hS : IniQ ρ) : ρ.1 0 21 = nI 3 := hS.2.2.2.2.2.2.2.2.2.2.2.2.2.2.2.2.1
theorem IniQ.f15 {ρ : rf_S} (hS : IniQ ρ) : ρ.1 0 15 = -1 := hS.2.2.2.2.2.2.2.2.2.2.2.2.2.2.2.2.2.1
theorem IniQ.f16 {ρ : rf_S} (hS : IniQ ρ) : ρ.1 0 16 = -1 := hS.2.2.2.2.2.2.2.2.2.2.2.2.2.2.2.2.2.2.1
theorem IniQ.f41 {ρ : rf_S} (hS : IniQ ρ) : ρ.1 0 41 = -1 := hS.2.2.2.2.2.2.2.2.2.2.2.2.2.2.2.2.2.2.2.1
theorem IniQ.z0 {ρ : rf_S} (hS : IniQ ρ) : ∀ j, j ≠ 12 → j ≠ 13 → j ≠ 15 → j ≠ 16 → j ≠ 19 → j ≠ 20 → j ≠ 21 → j ≠ 41 → ρ.1 0 j = 0 := hS.2.2.2.2.2.2.2.2.2.2.2.2.2.2.2.2.2.2.2.2.1
theorem IniQ.z {ρ : rf_S} (hS : IniQ ρ) : ∀ c, 11 < c → c ≠ 14 → c ≠ 15 → c ≠ 75 → ∀ j, ρ.1 c j = 0 := hS.2.2.2.2.2.2.2.2.2.2.2.2.2.2.2.2.2.2.2.2.2.1
theorem IniQ.d {ρ : rf_S} (hS : IniQ ρ) : ∀ j, j < 128 → ρ.1 75 j = -1 := hS.2.2.2.2.2.2.2.2.2.2.2.2.2.2.2.2.2.2.2.2.2.2.1
theorem IniQ.nm {ρ : rf_S} (hS : IniQ ρ) : ∀ op, 0 < op → op < 42 → ρ.2 13 op = Int64.ofNat (enc 128 (opN op)) ∧ ρ.1 14 op = nI (nfr op) ∧ ρ.1 15 op = nI (nfr op + (opN op).length) := hS.2.2.2.2.2.2.2.2.2.2.2.2.2.2.2.2.2.2.2.2.2.2.2
def ri_1 : rf_S := rf_w (rf_w (rf_w rf_0 0 15 (-1:Int32)) 0 16 (-1:Int32)) 0 41 (-1:Int32)
theorem ri_1z {c j : Nat} (h : c = 0 → j ≠ 15 ∧ j ≠ 16 ∧ j ≠ 41) : ri_1.1 c j = 0 := by
  unfold ri_1
  by_cases q : c = 0
  · subst q
    obtain ⟨h1, h2, h3⟩ := h rfl
    rw [q_wk h3, q_wk h2, q_wk h1]; rfl
  · rw [q_w q, q_w q, q_w q]; rfl
/-- before the terms -/
def IniP (ρ : rf_S) : Prop := (ρ.1 0 15 = -1) ∧ (ρ.1 0 16 = -1) ∧ (ρ.1 0 41 = -1) ∧ (∀ j, j ≠ 15 → j ≠ 16 → j ≠ 41 → ρ.1 0 j = 0) ∧ (∀ c, 0 < c → c ≠ 11 → c ≠ 14 → c ≠ 15 → c ≠ 75 → ∀ j, ρ.1 c j = 0) ∧ (∀ j, j < 16384 → ρ.1 11 j = -1) ∧ (∀ j, j < 128 → ρ.1 75 j = -1) ∧ (∀ op, 0 < op → op < 42 → ρ.2 13 op = Int64.ofNat (enc 128 (opN op)) ∧ ρ.1 14 op = nI (nfr op) ∧ ρ.1 15 op = nI (nfr op + (opN op).length))
theorem IniP.f15 {ρ : rf_S} (hS : IniP ρ) : ρ.1 0 15 = -1 := hS.1
theorem IniP.f16 {ρ : rf_S} (hS : IniP ρ) : ρ.1 0 16 = -1 := hS.2.1
theorem IniP.f41 {ρ : rf_S} (hS : IniP ρ) : ρ.1 0 41 = -1 := hS.2.2.1
theorem IniP.z0 {ρ : rf_S} (hS : IniP ρ) : ∀ j, j ≠ 15 → j ≠ 16 → j ≠ 41 → ρ.1 0 j = 0 := hS.2.2.2.1
theorem IniP.z {ρ : rf_S} (hS : IniP ρ) : ∀ c, 0 < c → c ≠ 11 → c ≠ 14 → c ≠ 15 → c ≠ 75 → ∀ j, ρ.1 c j = 0 := hS.2.2.2.2.1
theorem IniP.h {ρ : rf_S} (hS : IniP ρ) : ∀ j, j < 16384 → ρ.1 11 j = -1 := hS.2.2.2.2.2.1
theorem IniP.d {ρ : rf_S} (hS : IniP ρ) : ∀ j, j < 128 → ρ.1 75 j = -1 := hS.2.2.2.2.2.2.1
theorem IniP.nm {ρ : rf_S} (hS : IniP ρ) : ∀ op, 0 < op → op < 42 → ρ.2 13 op = Int64.ofNat (enc 128 (opN op)) ∧ ρ.1 14 op = nI (nfr op) ∧ ρ.1 15 op = nI (nfr op + (opN op).length) := hS.2.2.2.2.2.2.2
theorem q_pre : ∃ x2 ρ', fq_init = eq_init_775 x2 ρ' ∧ IniP ρ' := by
  obtain ⟨z, ez, H⟩ := q_nms (ρ := qF ri_1 11 16384) 41 1 (0:Int32) (qF ri_1 11 16384) (by omega) (by omega) (fun _ => by decide) ⟨fun _ _ _ => rfl, fun _ _ => rfl, fun op a b => by omega⟩
  have e1 : fq_init = eq_init_679 (nI 16384) (qF ri_1 11 16384) := by
    unfold fq_init bq_init_677 bq_init_679
    rw [show rf_w (rf_w (rf_w rf_0 0 15 (-1:Int32)) 0 16 (-1:Int32)) 0 41 (-1:Int32) = ri_1 from rfl, q_f11, Option.bind_some]
  have e2 : eq_init_679 (nI 16384) (qF ri_1 11 16384) = eq_init_703 z.1 z.2.1 z.2.2 := by
    unfold eq_init_679 bq_init_703
    rw [show lp (fun z : (Int32 × Int32 × rf_S) => lq_init_703 z.1 z.2.1 z.2.2) ((0:Int32), (1:Int32), qF ri_1 11 16384) = some z from ez, Option.bind_some]
  have e3 : eq_init_703 z.1 z.2.1 z.2.2 = eq_init_775 (nI 128) (qF z.2.2 75 128) := by
    unfold eq_init_703 bq_init_775
    rw [q_f75, Option.bind_some]
  have rd : ∀ c, c ≠ 14 → c ≠ 15 → c ≠ 75 → (qF z.2.2 75 128).1 c = (qF ri_1 11 16384).1 c := fun c a b d => by rw [qF_o d, H.o c a b]
  have rd0 : (qF z.2.2 75 128).1 0 = ri_1.1 0 := by rw [rd 0 (by decide) (by decide) (by decide), qF_o (by decide)]
  refine ⟨nI 128, qF z.2.2 75 128, e1.trans (e2.trans e3), ?_⟩
  refine ⟨?_, ?_, ?_, ?_, ?_, ?_, ?_, ?_⟩
  · rw [rd0]; unfold ri_1; rw [q_wk (by decide), q_wk (by decide), q_ws]
  · rw [rd0]; unfold ri_1; rw [q_wk (by decide), q_ws]
  · rw [rd0]; unfold ri_1; rw [q_ws]
  · intro j a b c; rw [rd0]; exact ri_1z (fun _ => ⟨a, b, c⟩)
  · intro c c0 c1 c2 c3 c4 j; rw [rd c c2 c3 c4, qF_o c1]; exact ri_1z (fun q => by omega)
  · intro j hj; rw [rd 11 (by decide) (by decide) (by decide)]; exact qF_i hj
  · intro j hj; exact qF_i hj
  · intro op a b
    rw [qF_o (show 14 ≠ 75 by decide), qF_o (show 15 ≠ 75 by decide)]
    exact H.d op a b
theorem q_ini : ∃ ρ, fq_init = some ρ ∧ IniQ ρ := by
  obtain ⟨x2, ρ0, e, P⟩ := q_pre
  have Q0 : RSt0 ρ0 0 := by
    refine ⟨?_, ?_, ?_, ?_⟩
    · exact ⟨P.z0 12 (by decide) (by decide) (by decide), by omega⟩
    · exact ⟨0, P.z0 18 (by decide) (by decide) (by decide), by omega, fun t ht => by omega⟩
    · intro t u ht; omega
    · intro i hi; exact ⟨[], RL.nil (by rw [P.h i hi]; decide), fun t => ⟨fun q => absurd q List.not_mem_nil, fun q => by omega⟩, List.Pairwise.nil⟩
  obtain ⟨ρ1, m1, t1, A1, Q1⟩ := q_tnew (k := 2) (a := 0) (b := 0) (c := 0) Q0 (by omega) (by omega) (by omega) (fun E => by unfold rsh; rw [if_neg (by decide), if_neg (by decide), if_pos rfl]; exact ⟨rfl, rfl⟩) (fun t ht => by omega)
  have f1 : ∀ {j : Nat} {v : Int32} {τ : rf_S} {k : Nat}, j ≠ k → (rf_w τ 0 k v).1 0 j = τ.1 0 j := fun h => q_wk h
  let ρ2 := rf_w (rf_w ρ1 0 19 (nI 0)) 0 13 (1:Int32)
  have o2 : ∀ c, c ≠ 0 → ρ2.1 c = ρ1.1 c := fun c hc => by show (rf_w (rf_w ρ1 0 19 (nI 0)) 0 13 (1:Int32)).1 c = _; rw [q_w hc, q_w hc]
  have g2 : ∀ j, j ≠ 13 → j ≠ 19 → ρ2.1 0 j = ρ1.1 0 j := fun j a b => by show (rf_w (rf_w ρ1 0 19 (nI 0)) 0 13 (1:Int32)).1 0 j = _; rw [q_wk a, q_wk b]
  have Q2 : RSt0 ρ2 1 := Q1.cg (fun c hc _ => o2 c hc) (g2 12 (by decide) (by decide)) (g2 18 (by decide) (by decide))
  obtain ⟨ρ3, m3, t3, A3, Q3⟩ := q_tnew (k := 0) (a := 1) (b := 0) (c := 0) Q2 (by omega) (by omega) (by omega) (fun E => by unfold rsh; rw [if_pos rfl]; exact ⟨rfl, rfl⟩) (fun t ht => by
    have : t = 0 := by omega
    subst this
    rw [o2 1 (by decide), A1.p1]; decide)
  have k30 : ρ3.1 1 0 = nI 2 := by rw [A3.p 1 0 (by omega) (by omega), o2 1 (by decide), A1.p1]
  have g19 : ρ2.1 0 19 = nI 0 := by show (rf_w (rf_w ρ1 0 19 (nI 0)) 0 13 (1:Int32)).1 0 19 = _; rw [q_wk (by decide), q_ws]
  obtain ⟨ρ4, m4, t4, A4, Q4⟩ := q_tnew (k := 9) (a := nI 0) (b := nI 1) (c := 0) Q3 (by omega) (by omega) (by omega) (fun E => by unfold rsh; rw [if_neg (by decide), if_neg (by decide), if_neg (by decide), if_neg (by decide), if_neg (by decide)]; exact ⟨⟨0, rfl, by omega⟩, ⟨1, rfl, by omega⟩, rfl⟩) (fun t ht => by
    rcases (show t = 0 ∨ t = 1 by omega) with rfl | rfl
    · rw [k30]; decide
    · rw [A3.p1]; decide)
  let ρ5 := rf_w ρ4 0 20 (nI 2)
  have o5 : ∀ c, c ≠ 0 → ρ5.1 c = ρ4.1 c := fun c hc => q_w hc
  have g5 : ∀ j, j ≠ 20 → ρ5.1 0 j = ρ4.1 0 j := fun j a => q_wk a
  have g20 : ρ5.1 0 20 = nI 2 := q_ws
  have Q5 : RSt0 ρ5 3 := Q4.cg (fun c hc _ => o5 c hc) (g5 12 (by decide)) (g5 18 (by decide))
  have k50 : ρ5.1 1 0 = nI 2 := by rw [o5 1 (by decide), A4.p 1 0 (by omega) (by omega), k30]
  have k51 : ρ5.1 1 1 = nI 0 := by rw [o5 1 (by decide), A4.p 1 1 (by omega) (by omega), A3.p1]
  have k52 : ρ5.1 1 2 = nI 9 := by rw [o5 1 (by decide), A4.p1]
  obtain ⟨ρ6, m6, t6, A6, Q6⟩ := q_tnew (k := 6) (a := nI 2) (b := 0) (c := 0) Q5 (by omega) (by omega) (by omega) (fun E => by unfold rsh; rw [if_neg (by decide), if_neg (by decide), if_neg (by decide), if_pos (by decide), if_neg (by decide)]; exact ⟨⟨2, rfl, by omega⟩, rfl, rfl⟩) (fun t ht => by
    rcases (show t = 0 ∨ t = 1 ∨ t = 2 by omega) with rfl | rfl | rfl
    · rw [k50]; decide
    · rw [k51]; decide
    · rw [k52]; decide)
  let ρ7 := rf_w ρ6 0 21 (nI 3)
  let ρ8 := rf_w ρ7 6 3 (1:Int32)
  have e' : eq_init_775 x2 ρ0 = some ρ8 := by
    unfold eq_init_775
    rw [show fq_term (2:Int32) (0:Int32) (0:Int32) (0:Int32) ρ0 = _ from t1, bd2n, vln, vln]
    rw [show fq_term (0:Int32) (1:Int32) (0:Int32) (0:Int32) (rf_w (rf_w ρ1 0 19 (nI 0)) 0 13 (1:Int32)) = _ from t3, bd2n, show (rf_w (rf_w ρ1 0 19 (nI 0)) 0 13 (1:Int32)).1 0 19 = _ from g19]
    rw [show fq_term (9:Int32) (nI 0) (nI 1) (0:Int32) ρ3 = _ from t4, bd2n, vln, show (rf_w ρ4 0 20 (nI 2)).1 0 20 = _ from g20]
    rw [show fq_term (6:Int32) (nI 2) (0:Int32) (0:Int32) (rf_w ρ4 0 20 (nI 2)) = _ from t6, bd2n, vln, show (rf_w ρ6 0 21 (nI 3)).1 0 21 = nI 3 from q_ws, n_ix (show 3 < 112000 by omega) (by omega), vln, nar_1]
    rfl
  have o7 : ∀ c, c ≠ 0 → ρ7.1 c = ρ6.1 c := fun c hc => q_w hc
  have g7 : ∀ j, j ≠ 21 → ρ7.1 0 j = ρ6.1 0 j := fun j a => q_wk a
  have o8 : ∀ c, c ≠ 6 → ρ8.1 c = ρ7.1 c := fun c hc => q_w hc
  have pr : ∀ d t, (d = 1 ∨ d = 2 ∨ d = 3 ∨ d = 4 ∨ d = 5) → ρ8.1 d t = ρ6.1 d t := fun d t h => by rw [o8 d (by omega), o7 d (by omega)]
  have p6 : ∀ d t, (d = 1 ∨ d = 2 ∨ d = 3 ∨ d = 4 ∨ d = 5 ∨ d = 6) → t ≠ 3 → ρ6.1 d t = ρ4.1 d t := fun d t h q => by rw [A6.p d t h q, o5 d (by omega)]
  have p4 : ∀ d t, (d = 1 ∨ d = 2 ∨ d = 3 ∨ d = 4 ∨ d = 5 ∨ d = 6) → t ≠ 2 → ρ4.1 d t = ρ3.1 d t := fun d t h q => A4.p d t h q
  have p3 : ∀ d t, (d = 1 ∨ d = 2 ∨ d = 3 ∨ d = 4 ∨ d = 5 ∨ d = 6) → t ≠ 1 → ρ3.1 d t = ρ1.1 d t := fun d t h q => by rw [A3.p d t h q, o2 d (by omega)]
  have n1 : ∀ {d : Nat}, d = 1 ∨ d = 2 → d = 1 ∨ d = 2 ∨ d = 3 ∨ d = 4 ∨ d = 5 ∨ d = 6 := fun h => by omega
  -- the ints
  have f0 : ∀ j, j ≠ 12 → j ≠ 13 → j ≠ 19 → j ≠ 20 → j ≠ 21 → ρ8.1 0 j = ρ0.1 0 j := fun j a b c d e => by
    rw [o8 0 (by decide), g7 j e, A6.f j a, g5 j d, A4.f j a, A3.f j a, g2 j b c, A1.f j a]
  have oth : ∀ c, 11 < c → ρ8.1 c = ρ0.1 c := fun c hc => by
    rw [o8 c (by omega), o7 c (by omega), A6.o c (by omega) (by omega) (by omega) (by omega) (by omega) (by omega) (by omega) (by omega), o5 c (by omega), A4.o c (by omega) (by omega) (by omega) (by omega) (by omega) (by omega) (by omega) (by omega), A3.o c (by omega) (by omega) (by omega) (by omega) (by omega) (by omega) (by omega) (by omega), o2 c (by omega), A1.o c (by omega) (by omega) (by omega) (by omega) (by omega) (by omega) (by omega) (by omega)]
  have lng : ρ8.2 = ρ0.2 := by
    show ρ6.2 = _
    rw [A6.l]
    show ρ4.2 = _
    rw [A4.l, A3.l]
    show ρ1.2 = _
    rw [A1.l]
  have K0 : ρ8.1 1 0 = nI 2 := by rw [pr 1 0 (by omega), p6 1 0 (by omega) (by omega), p4 1 0 (by omega) (by omega), k30]
  have K1 : ρ8.1 1 1 = nI 0 := by rw [pr 1 1 (by omega), p6 1 1 (by omega) (by omega), p4 1 1 (by omega) (by omega), A3.p1]
  have K2 : ρ8.1 1 2 = nI 9 := by rw [pr 1 2 (by omega), p6 1 2 (by omega) (by omega), A4.p1]
  have K3 : ρ8.1 1 3 = nI 6 := by rw [pr 1 3 (by omega), A6.p1]
  have B0 : ρ8.1 2 0 = nI 0 := by rw [pr 2 0 (by omega), p6 2 0 (by omega) (by omega), p4 2 0 (by omega) (by omega), p3 2 0 (by omega) (by omega), A1.p2]; rfl
  have f13 : ρ8.1 0 13 = nI 1 := by
    rw [o8 0 (by decide), g7 13 (by decide), A6.f 13 (by decide), g5 13 (by decide), A4.f 13 (by decide), A3.f 13 (by decide)]
    show (rf_w (rf_w ρ1 0 19 (nI 0)) 0 13 (1:Int32)).1 0 13 = _
    rw [q_ws]; rfl
  have Q8 : RSt0 ρ8 4 := by
    obtain ⟨n1, ⟨E, hE, hE', he⟩, uq, ch⟩ := Q6
    have r1 : ρ8.1 1 = ρ6.1 1 := funext fun t => pr 1 t (by omega)
    have r2 : ρ8.1 2 = ρ6.1 2 := funext fun t => pr 2 t (by omega)
    have r3 : ρ8.1 3 = ρ6.1 3 := funext fun t => pr 3 t (by omega)
    have r4 : ρ8.1 4 = ρ6.1 4 := funext fun t => pr 4 t (by omega)
    have r5 : ρ8.1 5 = ρ6.1 5 := funext fun t => pr 5 t (by omega)
    have r11 : ρ8.1 11 = ρ6.1 11 := by rw [o8 11 (by decide), o7 11 (by decide)]
    have r12 : ρ8.1 12 = ρ6.1 12 := by rw [o8 12 (by decide), o7 12 (by decide)]
    refine ⟨?_, ?_, ?_, ?_⟩
    · rw [o8 0 (by decide), g7 12 (by decide)]; exact n1
    · refine ⟨E, by rw [o8 0 (by decide), g7 18 (by decide)]; exact hE, hE', ?_⟩
      rw [r1, r2, r3, r4]; exact he
    · unfold kyQ at uq ⊢; rw [r1, r2, r3, r4]; exact uq
    · unfold rbk at ch ⊢; rw [r1, r2, r3, r4, r5, r11, r12]; exact ch
  refine ⟨ρ8, e.trans e', ?_⟩
  refine ⟨?_, ?_, ?_, ?_, ?_, ?_, ?_, ?_, ?_, ?_, ?_, ?_, ?_, ?_, ?_, ?_, ?_, ?_, ?_, ?_, ?_, ?_, ?_, ?_⟩
  · refine ⟨Q8, ?_⟩
    refine ⟨1, f13, by omega, fun t ht hk => ?_⟩
    rcases (show t = 0 ∨ t = 1 ∨ t = 2 ∨ t = 3 by omega) with rfl | rfl | rfl | rfl
    · exact ⟨0, by omega, B0⟩
    · rw [K1] at hk; exact absurd hk (by decide)
    · rw [K2] at hk; exact absurd hk (by decide)
    · rw [K3] at hk; exact absurd hk (by decide)
  · exact K0
  · exact K1
  · exact K2
  · exact K3
  · exact B0
  · rw [pr 2 1 (by omega), p6 2 1 (by omega) (by omega), p4 2 1 (by omega) (by omega), A3.p2]; rfl
  · rw [pr 2 2 (by omega), p6 2 2 (by omega) (by omega), A4.p2]
  · rw [pr 2 3 (by omega), A6.p2]
  · rw [pr 3 2 (by omega), p6 3 2 (by omega) (by omega), A4.p3]
  · show (rf_w ρ7 6 3 (1:Int32)).1 6 0 = _
    rw [q_wk (by decide), o7 6 (by decide), p6 6 0 (by omega) (by omega), p4 6 0 (by omega) (by omega), p3 6 0 (by omega) (by omega), A1.p6]
  · show (rf_w ρ7 6 3 (1:Int32)).1 6 1 = _
    rw [q_wk (by decide), o7 6 (by decide), p6 6 1 (by omega) (by omega), p4 6 1 (by omega) (by omega), A3.p6]
  · show (rf_w ρ7 6 3 (1:Int32)).1 6 2 = _
    rw [q_wk (by decide), o7 6 (by decide), p6 6 2 (by omega) (by omega), A4.p6]
  · exact q_ws
  · rw [o8 0 (by decide), g7 19 (by decide), A6.f 19 (by decide), g5 19 (by decide), A4.f 19 (by decide), A3.f 19 (by decide), g19]
  · rw [o8 0 (by decide), g7 20 (by decide), A6.f 20 (by decide), g20]
  · rw [o8 0 (by decide)]; exact q_ws
  · rw [f0 15 (by decide) (by decide) (by decide) (by decide) (by decide)]; exact P.f15
  · rw [f0 16 (by decide) (by decide) (by decide) (by decide) (by decide)]; exact P.f16
  · rw [f0 41 (by decide) (by decide) (by decide) (by decide) (by decide)]; exact P.f41
  · intro j a b c d e f g h
    rw [f0 j a b e f g]; exact P.z0 j c d h
  · intro c hc h1 h2 h3 j
    rw [oth c hc]; exact P.z c (by omega) (by omega) h1 h2 h3 j
  · intro j hj; rw [oth 75 (by omega)]; exact P.d j hj
  · intro op a b
    rw [lng, oth 14 (by omega), oth 15 (by omega)]; exact P.nm op a b
end Z2_F5
