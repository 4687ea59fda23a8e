section Z2_GQ
variable {K : Bd} {W W' : Wd} {b : Bool} {k s p : Nat} {σ σ' : cl_S} {ρ ρ' : rf_S}
/-- BOOT -/
theorem call_boot (h : RC k σ ρ) (hk : k < 64) : CO k (fc_X11_boot 0 σ) (fq_boot ρ) := by
  obtain ⟨W, R⟩ := id h
  have x8 : ∀ {α : Type} (z : Option α), ix (8:Int32) 10 z = z := fun z => n_ix (a := 8) (by omega) (by omega)
  have x9 : ∀ {α : Type} (z : Option α), ix (9:Int32) 10 z = z := fun z => n_ix (a := 9) (by omega) (by omega)
  have hcf := R.cf.cf
  have kp : ∀ i, i < 10 → (σ.1 30 i).toNatClampNeg ≤ kap i ∧ σ.1 30 i = nI (σ.1 30 i).toNatClampNeg ∧ ρ.1 27 i = nI (σ.1 30 i).toNatClampNeg ∧ ∀ j, j < (σ.1 30 i).toNatClampNeg → σ.1 (20 + i) j = ρ.1 26 (kat i + j) := by
    intro i hi
    obtain ⟨n, ⟨n1, n2, n3⟩, n4⟩ := R.oA.kp i hi
    have : kap i ≤ 2048 := by
      unfold kap
      by_cases c : i < 8
      · rw [if_pos c]; omega
      · rw [if_neg c]
        by_cases c : i = 8
        · rw [if_pos c]; omega
        · rw [if_neg c]; omega
    have e : (σ.1 30 i).toNatClampNeg = n := by rw [n2, n_cl (by omega)]
    rw [e]
    exact ⟨n1, n2, n3, n4⟩
  obtain ⟨a8, c8, q8, w8⟩ := kp 8 (by omega)
  obtain ⟨a9, c9, q9, w9⟩ := kp 9 (by omega)
  unfold fc_X11_boot bc_X11_boot_0 fq_boot bq_boot_0
  refine CO.ite (by rw [R.oB.on.1]) (fun o1 o2 => ?_) (fun _ _ => CO.same h hk _)
  rw [x8, x8]
  refine CO.ite (show σ.1 30 8 = 0 ↔ ρ.1 27 8 = 0 by rw [c8, q8]) (fun _ _ => CO.same h hk _) (fun _ _ => ?_)
  rw [x9, x9]
  refine CO.ite (show σ.1 30 9 = 0 ↔ ρ.1 27 9 = 0 by rw [c9, q9]) (fun _ _ => CO.same h hk _) (fun _ _ => ?_)
  have onz : onF ρ = 0 := by unfold onF; rw [o2, if_pos rfl]
  rw [onz] at R
  obtain ⟨v, vq, σ1, ρ1, ec, eq, Kf1, cases⟩ := rd_all (σ := σ) (ρ := ρ) (sp := 362 - W.cf) (L := (σ.1 30 9).toNatClampNeg) (by omega) a9 (by have := (R.st.kp 9 (by omega)).2; rw [show (29:Nat) = 20 + 9 from rfl, this]) q9 w9
  have R1 : Rel (KB k 0) W false k σ1 ρ1 := R.rd Kf1
  have on1 : ρ1.1 0 51 = 0 := by rw [Kf1.i 51 (by decide) (by decide)]; exact o2
  have h1 : RC k σ1 ρ1 := ⟨W, by rw [show onF ρ1 = 0 from by unfold onF; rw [on1, if_pos rfl]]; exact R1⟩
  rw [vln, R.oB.sp, x9, vln, show σ.2.2.1 19 (9:Int32).toNatClampNeg = some 29 from (R.st.kp 9 (by omega)).1, x9, nnn, show σ.1 30 (9:Int32).toNatClampNeg = nI (σ.1 30 9).toNatClampNeg from c9, ec, bd2n, eq, bd2n]
  rcases cases with ⟨i, hi, rfl, rfl, e115⟩ | ⟨rfl, rfl, n, m, t, bs, sz, ar, fr, to, ln, who, stp, hn1, hn8, hm, ht1, ht, c0, c5, c9', q6, q7, q8', P, C, S⟩
  · rw [if_neg (n_nneg (by omega)), if_pos rfl, e115]
    exact CO.same h1 hk _
  · rw [if_pos (show (-1:Int32) < 0 by decide), if_neg (show ¬ (1:Int32) = 0 by decide)]
    have kI : ∀ i, i < 31 → σ1.1 i = σ.1 i := fun i hi => Kf1.I i (by omega)
    have kl : ∀ i, i < 10 → (σ.1 30 i).toNatClampNeg ≤ kap i ∧ σ1.1 30 i = nI (σ.1 30 i).toNatClampNeg ∧ ρ1.1 27 i = nI (σ.1 30 i).toNatClampNeg ∧ ∀ j, j < (σ.1 30 i).toNatClampNeg → σ1.1 (20 + i) j = ρ1.1 26 (kat i + j) := by
      intro i hi
      rw [kI 30 (by omega), kI (20 + i) (by omega), Kf1.q 27 (by decide) (by decide), Kf1.q 26 (by decide) (by decide)]
      exact kp i hi
    have r0 : σ1.2.2.1 0 13 = some (362 - W.cf) := R1.oB.sp
    rcases bt_imgs (σ := σ1) (ρ := ρ1) (sp := 362 - W.cf) (n := n) (sz := sz) (len := fun i => (σ.1 30 i).toNatClampNeg) hn8 r0 c0 q6 (fun q hq => ⟨(P.v q hq).2.2.1, (P.v q hq).2.2.2.1, (P.bd q hq).2.1⟩) (fun q hq => by
      obtain ⟨z1, z2, z3, z4⟩ := kl q (by omega)
      unfold kap at z1
      rw [if_pos hq] at z1
      exact ⟨z1, z2, z3⟩) n 0 (by omega) (by omega) with ⟨g1, g2, g3⟩ | ⟨v, g1, g2⟩
    · unfold bc_X11_boot_66 bq_boot_47
      rw [show lp (fun z : (Int32 × cl_S) => lc_X11_boot_66 0 z.1 z.2) ((0:Int32), σ1) = _ from g1, show lp (fun z : (Int32 × rf_S) => lq_boot_47 z.1 z.2) ((0:Int32), ρ1) = _ from g2, Option.bind_some, Option.bind_some, Sum.elim_inr, Sum.elim_inr]
      exact bt_ok (len := fun i => (σ.1 30 i).toNatClampNeg) R1 hk on1 rfl hn1 hn8 hm ht1 ht c0 c5 c9' q6 q7 q8' P C S kl (fun q hq => g3 q (by omega) hq) (nI n) (nI n)
    · unfold bc_X11_boot_66 bq_boot_47
      rw [show lp (fun z : (Int32 × cl_S) => lc_X11_boot_66 0 z.1 z.2) ((0:Int32), σ1) = _ from g1, show lp (fun z : (Int32 × rf_S) => lq_boot_47 z.1 z.2) ((0:Int32), ρ1) = _ from g2, Option.bind_some, Option.bind_some, Sum.elim_inl, Sum.elim_inl]
      exact CO.same h1 hk _
end Z2_GQ
