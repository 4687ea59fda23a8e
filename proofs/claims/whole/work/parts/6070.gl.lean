section Z2_GL
variable {K : Bd} {W W' : Wd} {b : Bool} {k s p : Nat} {σ σ' : cl_S} {ρ ρ' : rf_S}
variable {X Y Z : Nat → Prop} {ts ts' ts'' : List Nat} {tm tm' tm'' : Nat → Nat} {N N' N'' n0 : Nat}
/-- a kept row as a term, as a step -/
theorem ms_row {a0 fr n E : Nat} (T : TermR n0 σ ρ ts tm N) (hT : (σ.2.2.2.1 a0).2 = 2048) (hc : n ≤ 2048) (h0 : a0 < 30) (hf : ∀ j, j < n → σ.1 a0 j = ρ.1 26 (fr + j)) (hfr : fr + n ≤ 17000) (hn0 : 112000 ≤ n0 ∧ n0 < 1000000) (h18 : ρ.1 0 18 = nI E) (hE : E + n ≤ 690000) (R : Rm σ N 1 2 (16 + n)) :
    ∃ σ' ρ' ts' tm' N' t, fc_X10_row 31 (some a0) (nI n) σ = some (some (tm' t), σ') ∧ fq_rowTerm (nI fr) (nI n) ρ = some (nI t, ρ') ∧ t < N' ∧ ρ'.1 1 t = nI 1 ∧ ρ'.1 3 t = nI n ∧ ∀ X Y Z, Msp X Y Z n0 σ ρ ts tm N σ' ρ' ts' tm' N' 1 1 1 n n := by
  obtain ⟨σ', ρ', ts', tm', N', t, E', e1, e2, h1, h2, h3, h4, h5, F, Q, T', e18, hE', k1, k3⟩ := t_row T hT hc (Nat.le_refl _) (by omega) (by omega) hf hfr (by have := R.n; omega) hn0 h18 hE (by have := R.c; omega) (by have := R.d; omega)
  exact ⟨σ', ρ', ts', tm', N', t, e1, e2, h1, k1, k3, fun X Y Z => ⟨h2, h3, h4, h5, F.ms, fun c a _ _ => Q.o c a, fun c j a _ => by rw [Q.o c (by omega)], Q.l, Q.f, fun E0 hE0 => by
    obtain ⟨E1, a1, a2, -⟩ := T.Q.e
    exact ⟨E', e18, by
      have : nI E0 = nI E := hE0.symm.trans h18
      obtain ⟨E2, b1, b2, -⟩ := T.Q.e
      by_cases w : E0 < 2147483648
      · have := (n_eq w (by omega)).mp this; omega
      · omega⟩, T'⟩⟩
/-- the boot's own term -/
theorem ms_head {n8 n9 E : Nat} (T : TermR n0 σ ρ ts tm N) (hn0 : 112000 ≤ n0 ∧ n0 < 1000000) (St : ∀ i, i < 10 → σ.2.2.1 19 i = some (20 + i) ∧ σ.2.2.2.1 (20 + i) = (1, 2048)) (l8 : n8 ≤ 256) (l9 : n9 ≤ 200) (c8 : σ.1 30 8 = nI n8) (c9 : σ.1 30 9 = nI n9) (q8 : ρ.1 27 8 = nI n8) (q9 : ρ.1 27 9 = nI n9) (w8 : ∀ j, j < n8 → σ.1 28 j = ρ.1 26 (16384 + j)) (w9 : ∀ j, j < n9 → σ.1 29 j = ρ.1 26 (16640 + j)) (h18 : ρ.1 0 18 = nI E) (hE : E + (n8 + n9) ≤ 690000) (R : Rm σ N 6 8 (96 + n8 + n9)) :
    ∃ σ' ρ' ts' tm' N' tb, (∀ G : Option Nat → cl_S → Option cl_S, ix (8:Int32) 10 (vl (σ.2.2.1 19 (8:Int32).toNatClampNeg) (fun r_33 => ix (8:Int32) 10 (bd2 (fc_X10_row 31 r_33 (σ.1 30 (8:Int32).toNatClampNeg) σ) (fun r_39 σ_38 => vl (σ_38.2.2.1 31 4) (fun r_46 => vl (σ_38.2.2.1 31 4) (fun r_51 => bd2 (fc_X10_made 31 (4:Int32) r_39 r_46 r_51 σ_38) (fun r_55 σ_54 => ix (9:Int32) 10 (vl (σ_54.2.2.1 19 (9:Int32).toNatClampNeg) (fun r_66 => ix (9:Int32) 10 (bd2 (fc_X10_row 31 r_66 (σ_54.1 30 (9:Int32).toNatClampNeg) σ_54) (fun r_72 σ_71 => vl (σ_71.2.2.1 31 4) (fun r_79 => vl (σ_71.2.2.1 31 4) (fun r_84 => bd2 (fc_X10_made 31 (4:Int32) r_72 r_79 r_84 σ_71) (fun r_88 σ_87 => vl (σ_87.2.2.1 31 4) (fun r_97 => bd2 (fc_X10_made 31 (3:Int32) r_55 r_88 r_97 σ_87) (fun r_101 σ_100 => vl (σ_100.2.2.1 31 4) (fun r_110 => vl (σ_100.2.2.1 31 4) (fun r_115 => bd2 (fc_X10_made 31 (4:Int32) r_101 r_110 r_115 σ_100) (fun r_119 σ_118 => G r_119 σ_118))))))))))))))))))) = G (some (tm' tb)) σ') ∧ fq_measureAll ρ = bq_measureAll_63 (nI tb) (0:Int32) ρ' ∧ tb < N' ∧ ∀ X Y Z, Msp X Y Z n0 σ ρ ts tm N σ' ρ' ts' tm' N' 6 6 2 (n8 + n9) (n8 + n9) := by
  have x8 : ∀ {α : Type} (z : Option α), ix (8:Int32) 10 z = z := fun z => n_ix (a := 8) (by omega) (by omega)
  have x9 : ∀ {α : Type} (z : Option α), ix (9:Int32) 10 z = z := fun z => n_ix (a := 9) (by omega) (by omega)
  have tp := T.C.top
  let f0 : Nat → Prop := fun _ => False
  obtain ⟨σ1, ρ1, ts1, tm1, N1, t1, a1, b1, d1, -, -, S1⟩ := ms_row (a0 := 28) (fr := 16384) (n := n8) T (by rw [(St 8 (by omega)).2]) (by omega) (by omega) w8 (by omega) hn0 h18 (by omega) ⟨by have := R.n; omega, by have := R.c; omega, by have := R.d; omega⟩
  have S1' := S1 (fun _ => False) (fun _ => False) (fun _ => False)
  have R1 := Rm.go (e0 := 1) (g := 1) (c := 1) (d := n8) (e1 := 5) (c1 := 6) (d1 := 80 + n9) ⟨by have := R.n; omega, by have := R.c; omega, by have := R.d; omega⟩ S1'
  obtain ⟨σ2, ρ2, ts2, tm2, N2, t2, a2, b2, d2, S2⟩ := (t_made S1'.T (show 4 < 10 by omega) (by omega) (ag4 d1) (by have := R1.n; omega) (by have := R1.c; omega) (by have := R1.d; omega)).stp
  have S12 := S1'.trans (S2 _ _ _)
  have R2 := Rm.go (e0 := 1) (g := 1) (c := 0) (d := 0) (e1 := 4) (c1 := 5) (d1 := 64 + n9) ⟨by have := R1.n; omega, by have := R1.c; omega, by have := R1.d; omega⟩ (S2 (fun _ => False) (fun _ => False) (fun _ => False))
  obtain ⟨E2, e2, hE2⟩ := S12.e E h18
  have I29 : σ2.1 29 = σ.1 29 := S12.F.I 29 (fun h => h) (by omega) (by omega)
  have I30 : σ2.1 30 = σ.1 30 := S12.F.I 30 (fun h => h) (by omega) (by omega)
  have R19 : σ2.2.2.1 19 = σ.2.2.1 19 := S12.F.R 19 (fun h => h) (by omega) (by omega)
  obtain ⟨σ3, ρ3, ts3, tm3, N3, t3, a3, b3, d3, -, -, S3⟩ := ms_row (a0 := 29) (fr := 16640) (n := n9) S12.T (by rw [S12.F.T 29 (by omega), (St 9 (by omega)).2]) (by omega) (by omega) (fun j hj => by rw [I29, S12.q 26 (by omega) (by omega) (by omega)]; exact w9 j hj) (by omega) hn0 e2 (by omega) ⟨by have := R2.n; omega, by have := R2.c; omega, by have := R2.d; omega⟩
  have R3 := Rm.go (e0 := 1) (g := 1) (c := 1) (d := n9) (e1 := 3) (c1 := 3) (d1 := 48) ⟨by have := R2.n; omega, by have := R2.c; omega, by have := R2.d; omega⟩ (S3 (fun _ => False) (fun _ => False) (fun _ => False))
  obtain ⟨σ4, ρ4, ts4, tm4, N4, t4, a4, b4, d4, S4⟩ := (t_made (S3 f0 f0 f0).T (show 4 < 10 by omega) (by omega) (ag4 d3) (by have := R3.n; omega) (by have := R3.c; omega) (by have := R3.d; omega)).stp
  have R4 := Rm.go (e0 := 1) (g := 1) (c := 0) (d := 0) (e1 := 2) (c1 := 2) (d1 := 32) ⟨by have := R3.n; omega, by have := R3.c; omega, by have := R3.d; omega⟩ (S4 (fun _ => False) (fun _ => False) (fun _ => False))
  have n24 : N2 ≤ N4 := Nat.le_trans (S3 f0 f0 f0).nn (S4 f0 f0 f0).nn
  obtain ⟨σ5, ρ5, ts5, tm5, N5, t5, a5, b5, d5, S5⟩ := (t_made (S4 f0 f0 f0).T (show 3 < 10 by omega) (by omega) (ag3 (show t2 < N4 from Nat.lt_of_lt_of_le d2 n24) d4) (by have := R4.n; omega) (by have := R4.c; omega) (by have := R4.d; omega)).stp
  have R5 := Rm.go (e0 := 1) (g := 1) (c := 0) (d := 0) (e1 := 1) (c1 := 1) (d1 := 16) ⟨by have := R4.n; omega, by have := R4.c; omega, by have := R4.d; omega⟩ (S5 (fun _ => False) (fun _ => False) (fun _ => False))
  obtain ⟨σ6, ρ6, ts6, tm6, N6, t6, a6, b6, d6, S6⟩ := (t_made (S5 f0 f0 f0).T (show 4 < 10 by omega) (by omega) (ag4 d5) (by have := R5.n; omega) (by have := R5.c; omega) (by have := R5.d; omega)).stp
  have m2 : tm4 t2 = tm2 t2 := by rw [(S4 f0 f0 f0).mt t2 (Nat.lt_of_lt_of_le d2 (S3 f0 f0 f0).nn), (S3 f0 f0 f0).mt t2 d2]
  rw [m2] at a5
  have e1 := S1'.T.C.tms.2.2.1
  have e3 := (S3 f0 f0 f0).T.C.tms.2.2.1
  have e4 := (S4 f0 f0 f0).T.C.tms.2.2.1
  have e5 := (S5 f0 f0 f0).T.C.tms.2.2.1
  refine ⟨σ6, ρ6, ts6, tm6, N6, t6, fun G => ?_, ?_, d6, fun X Y Z => ?_⟩
  · rw [x8, vln, show σ.2.2.1 19 (8:Int32).toNatClampNeg = some 28 from (St 8 (by omega)).1, x8, show σ.1 30 (8:Int32).toNatClampNeg = nI n8 from c8, a1, bd2n, e1, vln, vln, show (4:Int32) = nI 4 from rfl, a2, bd2n, x9, vln, show σ2.2.2.1 19 (9:Int32).toNatClampNeg = some 29 from by rw [R19]; exact (St 9 (by omega)).1, x9, show σ2.1 30 (9:Int32).toNatClampNeg = nI n9 from by rw [I30]; exact c9, a3, bd2n, e3, vln, vln, a4, bd2n, e4, vln, show (3:Int32) = nI 3 from rfl, a5, bd2n, e5, vln, vln, a6, bd2n]
  · unfold fq_measureAll bq_measureAll_0
    rw [x8, show ρ.1 27 (8:Int32).toNatClampNeg = nI n8 from q8, show fq_rowTerm (16384:Int32) (nI n8) ρ = _ from b1, bd2n, show fq_term (4:Int32) (nI t1) (0:Int32) (0:Int32) ρ1 = _ from b2, bd2n, x9, show ρ2.1 27 (9:Int32).toNatClampNeg = nI n9 from by rw [S12.q 27 (by omega) (by omega) (by omega)]; exact q9, show fq_rowTerm (16640:Int32) (nI n9) ρ2 = _ from b3, bd2n, show fq_term (4:Int32) (nI t3) (0:Int32) (0:Int32) ρ3 = _ from b4, bd2n, show fq_term (3:Int32) (nI t2) (nI t4) (0:Int32) ρ4 = _ from b5, bd2n, show fq_term (4:Int32) (nI t5) (0:Int32) (0:Int32) ρ5 = _ from b6, bd2n]
  · have Q := (((((S1 X Y Z).trans (S2 X Y Z)).trans (S3 X Y Z)).trans (S4 X Y Z)).trans (S5 X Y Z)).trans (S6 X Y Z)
    rw [show 1 + 1 + 1 + 1 + 1 + 1 = 6 from rfl, show 1 + 0 + 1 + 0 + 0 + 0 = 2 from rfl] at Q
    simpa using Q
end Z2_GL
