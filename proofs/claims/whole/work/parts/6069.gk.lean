section Z2_GK
variable {K : Bd} {W W' : Wd} {b : Bool} {k s p : Nat} {σ σ' : cl_S} {ρ ρ' : rf_S}
variable {X Y Z : Nat → Prop} {ts ts' ts'' : List Nat} {tm tm' tm'' : Nat → Nat} {N N' N'' n0 : Nat}
/-- a step of measuring on both sides -/
def Msp (X Y Z : Nat → Prop) (n0 : Nat) (σ : cl_S) (ρ : rf_S) (ts : List Nat) (tm : Nat → Nat) (N : Nat) (σ' : cl_S) (ρ' : rf_S) (ts' : List Nat) (tm' : Nat → Nat) (N' : Nat) (e g c d r : Nat) : Prop := (N ≤ N') ∧ (N' ≤ N + e) ∧ (ts'.length ≤ ts.length + g) ∧ (∀ u, u < N → tm' u = tm u) ∧ (MsF X Y σ σ' ts ts' c d) ∧ (∀ c, 12 < c → c ≠ 38 → c ≠ 39 → ρ'.1 c = ρ.1 c) ∧ (∀ c j, c = 38 ∨ c = 39 → ¬ Z j → ρ'.1 c j = ρ.1 c j) ∧ (ρ'.2 = ρ.2) ∧ (∀ j, j ≠ 10 → j ≠ 12 → j ≠ 13 → j ≠ 14 → j ≠ 15 → j ≠ 16 → j ≠ 18 → ρ'.1 0 j = ρ.1 0 j) ∧ (∀ E, ρ.1 0 18 = nI E → ∃ E', ρ'.1 0 18 = nI E' ∧ E' ≤ E + r) ∧ (TermR n0 σ' ρ' ts' tm' N')
theorem Msp.nn {X Y Z : Nat → Prop} {n0 : Nat} {σ : cl_S} {ρ : rf_S} {ts : List Nat} {tm : Nat → Nat} {N : Nat} {σ' : cl_S} {ρ' : rf_S} {ts' : List Nat} {tm' : Nat → Nat} {N' : Nat} {e g c d r : Nat} (hS : Msp X Y Z n0 σ ρ ts tm N σ' ρ' ts' tm' N' e g c d r) : N ≤ N' := hS.1
theorem Msp.ne {X Y Z : Nat → Prop} {n0 : Nat} {σ : cl_S} {ρ : rf_S} {ts : List Nat} {tm : Nat → Nat} {N : Nat} {σ' : cl_S} {ρ' : rf_S} {ts' : List Nat} {tm' : Nat → Nat} {N' : Nat} {e g c d r : Nat} (hS : Msp X Y Z n0 σ ρ ts tm N σ' ρ' ts' tm' N' e g c d r) : N' ≤ N + e := hS.2.1
theorem Msp.ll {X Y Z : Nat → Prop} {n0 : Nat} {σ : cl_S} {ρ : rf_S} {ts : List Nat} {tm : Nat → Nat} {N : Nat} {σ' : cl_S} {ρ' : rf_S} {ts' : List Nat} {tm' : Nat → Nat} {N' : Nat} {e g c d r : Nat} (hS : Msp X Y Z n0 σ ρ ts tm N σ' ρ' ts' tm' N' e g c d r) : ts'.length ≤ ts.length + g := hS.2.2.1
theorem Msp.mt {X Y Z : Nat → Prop} {n0 : Nat} {σ : cl_S} {ρ : rf_S} {ts : List Nat} {tm : Nat → Nat} {N : Nat} {σ' : cl_S} {ρ' : rf_S} {ts' : List Nat} {tm' : Nat → Nat} {N' : Nat} {e g c d r : Nat} (hS : Msp X Y Z n0 σ ρ ts tm N σ' ρ' ts' tm' N' e g c d r) : ∀ u, u < N → tm' u = tm u := hS.2.2.2.1
theorem Msp.F {X Y Z : Nat → Prop} {n0 : Nat} {σ : cl_S} {ρ : rf_S} {ts : List Nat} {tm : Nat → Nat} {N : Nat} {σ' : cl_S} {ρ' : rf_S} {ts' : List Nat} {tm' : Nat → Nat} {N' : Nat} {e g c d r : Nat} (hS : Msp X Y Z n0 σ ρ ts tm N σ' ρ' ts' tm' N' e g c d r) : MsF X Y σ σ' ts ts' c d := hS.2.2.2.2.1
theorem Msp.q {X Y Z : Nat → Prop} {n0 : Nat} {σ : cl_S} {ρ : rf_S} {ts : List Nat} {tm : Nat → Nat} {N : Nat} {σ' : cl_S} {ρ' : rf_S} {ts' : List Nat} {tm' : Nat → Nat} {N' : Nat} {e g c d r : Nat} (hS : Msp X Y Z n0 σ ρ ts tm N σ' ρ' ts' tm' N' e g c d r) : ∀ c, 12 < c → c ≠ 38 → c ≠ 39 → ρ'.1 c = ρ.1 c := hS.2.2.2.2.2.1
theorem Msp.qz {X Y Z : Nat → Prop} {n0 : Nat} {σ : cl_S} {ρ : rf_S} {ts : List Nat} {tm : Nat → Nat} {N : Nat} {σ' : cl_S} {ρ' : rf_S} {ts' : List Nat} {tm' : Nat → Nat} {N' : Nat} {e g c d r : Nat} (hS : Msp X Y Z n0 σ ρ ts tm N σ' ρ' ts' tm' N' e g c d r) : ∀ c j, c = 38 ∨ c = 39 → ¬ Z j → ρ'.1 c j = ρ.1 c j := hS.2.2.2.2.2.2.1
theorem Msp.l {X Y Z : Nat → Prop} {n0 : Nat} {σ : cl_S} {ρ : rf_S} {ts : List Nat} {tm : Nat → Nat} {N : Nat} {σ' : cl_S} {ρ' : rf_S} {ts' : List Nat} {tm' : Nat → Nat} {N' : Nat} {e g c d r : Nat} (hS : Msp X Y Z n0 σ ρ ts tm N σ' ρ' ts' tm' N' e g c d r) : ρ'.2 = ρ.2 := hS.2.2.2.2.2.2.2.1
theorem Msp.f {X Y Z : Nat → Prop} {n0 : Nat} {σ : cl_S} {ρ : rf_S} {ts : List Nat} {tm : Nat → Nat} {N : Nat} {σ' : cl_S} {ρ' : rf_S} {ts' : List Nat} {tm' : Nat → Nat} {N' : Nat} {e g c d r : Nat} (hS : Msp X Y Z n0 σ ρ ts tm N σ' ρ' ts' tm' N' e g c d r) : ∀ j, j ≠ 10 → j ≠ 12 → j ≠ 13 → j ≠ 14 → j ≠ 15 → j ≠ 16 → j ≠ 18 → ρ'.1 0 j = ρ.1 0 j := hS.2.2.2.2.2.2.2.2.1
theorem Msp.e {X Y Z : Nat → Prop} {n0 : Nat} {σ : cl_S} {ρ : rf_S} {ts : List Nat} {tm : Nat → Nat} {N : Nat} {σ' : cl_S} {ρ' : rf_S} {ts' : List Nat} {tm' : Nat → Nat} {N' : Nat} {e g c d r : Nat} (hS : Msp X Y Z n0 σ ρ ts tm N σ' ρ' ts' tm' N' e g c d r) : ∀ E, ρ.1 0 18 = nI E → ∃ E', ρ'.1 0 18 = nI E' ∧ E' ≤ E + r := hS.2.2.2.2.2.2.2.2.2.1
theorem Msp.T {X Y Z : Nat → Prop} {n0 : Nat} {σ : cl_S} {ρ : rf_S} {ts : List Nat} {tm : Nat → Nat} {N : Nat} {σ' : cl_S} {ρ' : rf_S} {ts' : List Nat} {tm' : Nat → Nat} {N' : Nat} {e g c d r : Nat} (hS : Msp X Y Z n0 σ ρ ts tm N σ' ρ' ts' tm' N' e g c d r) : TermR n0 σ' ρ' ts' tm' N' := hS.2.2.2.2.2.2.2.2.2.2
theorem Msp.refl (T : TermR n0 σ ρ ts tm N) : Msp X Y Z n0 σ ρ ts tm N σ ρ ts tm N 0 0 0 0 0 := ⟨Nat.le_refl _, by omega, by omega, fun _ _ => rfl, (TFr.refl σ ts).ms, fun _ _ _ _ => rfl, fun _ _ _ _ => rfl, rfl, fun _ _ _ _ _ _ _ _ => rfl, fun E h => ⟨E, h, by omega⟩, T⟩
theorem Msp.trans {σ'' : cl_S} {ρ'' : rf_S} {e g c d r e' g' c' d' r' : Nat} (h : Msp X Y Z n0 σ ρ ts tm N σ' ρ' ts' tm' N' e g c d r) (k : Msp X Y Z n0 σ' ρ' ts' tm' N' σ'' ρ'' ts'' tm'' N'' e' g' c' d' r') : Msp X Y Z n0 σ ρ ts tm N σ'' ρ'' ts'' tm'' N'' (e + e') (g + g') (c + c') (d + d') (r + r') := by
  refine ⟨Nat.le_trans h.nn k.nn, by have := h.ne; have := k.ne; omega, by have := h.ll; have := k.ll; omega, fun u hu => (k.mt u (Nat.lt_of_lt_of_le hu h.nn)).trans (h.mt u hu), h.F.trans k.F, fun c a1 a2 a3 => (k.q c a1 a2 a3).trans (h.q c a1 a2 a3), fun c j a1 a2 => (k.qz c j a1 a2).trans (h.qz c j a1 a2), k.l.trans h.l, fun j a1 a2 a3 a4 a5 a6 a7 => (k.f j a1 a2 a3 a4 a5 a6 a7).trans (h.f j a1 a2 a3 a4 a5 a6 a7), fun E hE => ?_, k.T⟩
  obtain ⟨E1, e1, b1⟩ := h.e E hE
  obtain ⟨E2, e2, b2⟩ := k.e E1 e1
  exact ⟨E2, e2, by omega⟩
/-- room for what is to come -/
def Rm (σ : cl_S) (N : Nat) (e c d : Nat) : Prop := (N + e ≤ 112000) ∧ (c ≤ σ.2.2.2.2.2.1) ∧ (d ≤ σ.2.2.2.2.2.2)
theorem Rm.n {σ : cl_S} {N : Nat} {e c d : Nat} (hS : Rm σ N e c d) : N + e ≤ 112000 := hS.1
theorem Rm.c {σ : cl_S} {N : Nat} {e c d : Nat} (hS : Rm σ N e c d) : c ≤ σ.2.2.2.2.2.1 := hS.2.1
theorem Rm.d {σ : cl_S} {N : Nat} {e c d : Nat} (hS : Rm σ N e c d) : d ≤ σ.2.2.2.2.2.2 := hS.2.2
theorem Rm.go {e0 g c d r e1 c1 d1 : Nat} (h : Rm σ N (e0 + e1) (c + g + c1) (d + 16 * g + d1)) (S : Msp X Y Z n0 σ ρ ts tm N σ' ρ' ts' tm' N' e0 g c d r) : Rm σ' N' e1 c1 d1 := by
  have h1 := h.n
  have h2 := h.c
  have h3 := h.d
  have k1 := S.ne
  have k2 := S.ll
  have k3 := S.F.rc
  have k4 := S.F.rs
  exact ⟨by omega, by omega, by omega⟩
theorem MkR.stp {fc : Option (Option Nat × cl_S)} {fq : Option (Int32 × rf_S)} (h : MkR n0 σ ρ ts tm N fc fq) : ∃ σ' ρ' ts' tm' N' t, fc = some (some (tm' t), σ') ∧ fq = some (nI t, ρ') ∧ t < N' ∧ ∀ X Y Z, Msp X Y Z n0 σ ρ ts tm N σ' ρ' ts' tm' N' 1 1 0 0 0 := by
  obtain ⟨σ', ρ', ts', tm', N', t, e1, e2, h1, h2, h3, h4, h5, F, Q, T⟩ := h
  exact ⟨σ', ρ', ts', tm', N', t, e1, e2, h1, fun X Y Z => ⟨h2, h3, h4, h5, F.ms, fun c a _ _ => Q.o c a, fun c j a _ => by rw [Q.o c (by omega)], Q.l, fun j a1 a2 a3 a4 a5 a6 _ => Q.f j a1 a2 a3 a4 a5 a6, fun E hE => ⟨E, by rw [Q.f 18 (by decide) (by decide) (by decide) (by decide) (by decide) (by decide)]; exact hE, by omega⟩, T⟩⟩
theorem ag4 {t : Nat} (ht : t < N) : argR tm N 4 0 (tm t) 33 33 (nI t) 0 0 := by
  unfold argR
  rw [if_neg (by omega), if_pos (Or.inl rfl), if_neg (by omega)]
  exact ⟨rfl, ⟨t, ht, rfl, rfl⟩, ⟨rfl, rfl⟩, rfl, rfl⟩
theorem ag3 {t u : Nat} (ht : t < N) (hu : u < N) : argR tm N 3 0 (tm t) (tm u) 33 (nI t) (nI u) 0 := by
  unfold argR
  rw [if_neg (by omega), if_neg (by omega), if_neg (by omega)]
  exact ⟨rfl, ⟨t, ht, rfl, rfl⟩, ⟨u, hu, rfl, rfl⟩, rfl, rfl⟩
/-- a partition is measured -/
theorem ms_meas {tb t : Nat} (T : TermR n0 σ ρ ts tm N) (htb : tb < N) (ht : t < N) (R : Rm σ N 5 5 80) (p : Nat) : ∃ σ' ρ1 ρ2 ρ3 ρ4 ρ' v1 v2 v3 v4 ts' tm' N' m, fc_X10_measured 31 (some (tm tb)) (nI p) (some (tm t)) σ = some (some (tm' m), σ') ∧ fq_term (4:Int32) (nI t) (0:Int32) (0:Int32) ρ = some (v1, ρ1) ∧ fq_term (0:Int32) (nI p) (0:Int32) (0:Int32) ρ1 = some (v2, ρ2) ∧ fq_term (3:Int32) v2 v1 (0:Int32) ρ2 = some (v3, ρ3) ∧ fq_term (3:Int32) (nI tb) v3 (0:Int32) ρ3 = some (v4, ρ4) ∧ fq_term (4:Int32) v4 (0:Int32) (0:Int32) ρ4 = some (nI m, ρ') ∧ m < N' ∧ ∀ X Y Z, Msp X Y Z n0 σ ρ ts tm N σ' ρ' ts' tm' N' 5 5 0 0 0 := by
  obtain ⟨σ1, ρ1, ts1, tm1, N1, t1, c1, q1, b1, S1⟩ := (t_made T (show 4 < 10 by omega) (by omega) (ag4 ht) (by have := R.n; omega) (by have := R.c; omega) (by have := R.d; omega)).stp
  have S1' := S1 (fun _ => False) (fun _ => False) (fun _ => False)
  have R1 := Rm.go (e0 := 1) (g := 1) (c := 0) (d := 0) (e1 := 4) (c1 := 4) (d1 := 64) R S1'
  obtain ⟨σ2, ρ2, ts2, tm2, N2, t2, c2, q2, b2, S2⟩ := (t_number (nI p) S1'.T (by have := R1.n; omega) (by have := R1.c; omega) (by have := R1.d; omega)).stp
  have S2' := S2 (fun _ => False) (fun _ => False) (fun _ => False)
  have R2 := Rm.go (e0 := 1) (g := 1) (c := 0) (d := 0) (e1 := 3) (c1 := 3) (d1 := 48) R1 S2'
  obtain ⟨σ3, ρ3, ts3, tm3, N3, t3, c3, q3, b3, S3⟩ := (t_made S2'.T (show 3 < 10 by omega) (by omega) (ag3 b2 (show t1 < N2 from Nat.lt_of_lt_of_le b1 S2'.nn)) (by have := R2.n; omega) (by have := R2.c; omega) (by have := R2.d; omega)).stp
  have S3' := S3 (fun _ => False) (fun _ => False) (fun _ => False)
  have R3 := Rm.go (e0 := 1) (g := 1) (c := 0) (d := 0) (e1 := 2) (c1 := 2) (d1 := 32) R2 S3'
  have n13 : N ≤ N3 := Nat.le_trans S1'.nn (Nat.le_trans S2'.nn S3'.nn)
  obtain ⟨σ4, ρ4, ts4, tm4, N4, t4, c4, q4, b4, S4⟩ := (t_made S3'.T (show 3 < 10 by omega) (by omega) (ag3 (show tb < N3 from Nat.lt_of_lt_of_le htb n13) b3) (by have := R3.n; omega) (by have := R3.c; omega) (by have := R3.d; omega)).stp
  have S4' := S4 (fun _ => False) (fun _ => False) (fun _ => False)
  have R4 := Rm.go (e0 := 1) (g := 1) (c := 0) (d := 0) (e1 := 1) (c1 := 1) (d1 := 16) R3 S4'
  obtain ⟨σ5, ρ5, ts5, tm5, N5, t5, c5, q5, b5, S5⟩ := (t_made S4'.T (show 4 < 10 by omega) (by omega) (ag4 b4) (by have := R4.n; omega) (by have := R4.c; omega) (by have := R4.d; omega)).stp
  refine ⟨σ5, ρ1, ρ2, ρ3, ρ4, ρ5, nI t1, nI t2, nI t3, nI t4, ts5, tm5, N5, t5, ?_, q1, q2, q3, q4, q5, b5, fun X Y Z => ((((S1 X Y Z).trans (S2 X Y Z)).trans (S3 X Y Z)).trans (S4 X Y Z)).trans (S5 X Y Z)⟩
  have e0 := T.C.tms.2.2.1
  have e2 := S2'.T.C.tms.2.2.1
  have e3 := S3'.T.C.tms.2.2.1
  have e4 := S4'.T.C.tms.2.2.1
  have m1 : tm2 t1 = tm1 t1 := S2'.mt t1 b1
  have mb : tm3 tb = tm tb := by rw [S3'.mt tb (Nat.lt_of_lt_of_le htb (Nat.le_trans S1'.nn S2'.nn)), S2'.mt tb (Nat.lt_of_lt_of_le htb S1'.nn), S1'.mt tb htb]
  rw [m1] at c3
  rw [mb] at c4
  unfold fc_X10_measured bc_X10_measured_0
  rw [e0, vln, vln, show (4:Int32) = nI 4 from rfl, c1, bd2n, c2, bd2n, e2, vln, show (3:Int32) = nI 3 from rfl, c3, bd2n, e3, vln, c4, bd2n, e4, vln, vln, c5, bd2n]
end Z2_GK
