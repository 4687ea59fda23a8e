section Z2_DC
variable {K : Bd} {W W' : Wd} {b : Bool} {k s p q : Nat} {σ σ' : cl_S} {ρ ρ' : rf_S} {N : Nat}
/-- the two differ in what waits for the side that is run again -/
def Qw (ρ ρ' : rf_S) : Prop := (∀ c j, ¬ (64 < c ∧ c < 69 ∧ S1 c j) → ρ'.1 c j = ρ.1 c j) ∧ ρ'.2 = ρ.2
theorem Qw.refl (ρ : rf_S) : Qw ρ ρ := ⟨fun _ _ _ => rfl, rfl⟩
theorem Qw.trans {ρ1 ρ2 ρ3 : rf_S} (h : Qw ρ1 ρ2) (k : Qw ρ2 ρ3) : Qw ρ1 ρ3 := ⟨fun c j w => (k.1 c j w).trans (h.1 c j w), k.2.trans h.2⟩
theorem S1_65 {c j : Nat} (h : c = 65 ∨ c = 67) (hj : 512 ≤ j) : S1 c j := Or.inr (Or.inr (Or.inr (Or.inr (Or.inr (Or.inr (Or.inl ⟨h, hj⟩))))))
theorem S1_66 {c j : Nat} (h : c = 66 ∨ c = 68) (hj : 8 ≤ j) : S1 c j := Or.inr (Or.inr (Or.inr (Or.inl (by rcases h with rfl | rfl <;> exact ⟨by decide, by decide, by decide, by decide, by decide, by decide, by decide, hj⟩))))
theorem Tk.again (h : Tk K W true k 1 σ ρ) (R : Rel K W true k σ' ρ') (sd : ρ'.1 0 79 = ρ.1 0 79) : Tk K W true k 1 σ' ρ' := ⟨R, h.hs, h.np, by rw [sd]; exact h.sd, (R.m1 rfl).on rfl, fun e => absurd e (by decide)⟩
theorem dlv (h : Tk K W true k 1 σ ρ) (hk : k < 500) {i n : Nat} (hi : i < n) (en : ρ.1 0 78 = nI n) (hn : n < 500) : ∃ q, q < W.np ∧ ρ.1 45 i = nI q ∧ σ.1 80 i = nI q ∧ ∃ σ' ρ', fc_X5_repeatInput 179 (some 47) (nI i) σ = some σ' ∧ fq_deliver (nI i) ρ = some ρ' ∧ Tk K W true k 1 σ' ρ' ∧ Qw ρ ρ' := by
  have np8 := h.R.cf.np.1
  obtain ⟨n', hn', c1, c2, c3, c4⟩ := h.R.oB.ip
  have enn : n' = n := (n_eq (by omega) (by omega)).mp (c2.symm.trans en)
  subst enn
  obtain ⟨t, q, a1, a2, a3, a4, a5, hq, ho⟩ := c3 i hi
  refine ⟨q, hq, a5, a4, ?_⟩
  have q8 : q < 8 := by omega
  have i5 : ∀ {α : Type} (z : Option α), ix (nI i) 500 z = z := fun z => n_ix (by omega) (by omega)
  have ci : (nI i).toNatClampNeg = i := n_cl (by omega)
  have cq : (nI q).toNatClampNeg = q := n_cl (by omega)
  have i16 : ∀ {α : Type} (z : Option α), ix (nI (8 + q)) 16 z = z := fun z => n_ix (by omega) (by omega)
  have c8q : (nI (8 + q)).toNatClampNeg = 8 + q := n_cl (by omega)
  have pp := h.R.st.pp 1 q (by omega) q8
  have p31 := h.R.T.C.tms.2.2.1
  have P := (h.R.m1 rfl).pr q hq
  have rI : ∀ z, (if σ.2.2.1 82 i = some 33 then bd2 (fc_X6_waitWord (83 + 135 * 1 + 12 * q) (σ.1 81 i) σ) (fun r_45 σ_44 => some σ_44) else bd2 (fc_X6_waitTerm (83 + 135 * 1 + 12 * q) (σ.2.2.1 82 i) σ) (fun r_34 σ_33 => some σ_33)) = z → fc_X5_repeatInput 179 (some 47) (nI i) σ = z := by
    intro z hz
    unfold fc_X5_repeatInput bc_X5_repeatInput_0
    rw [nnn, i5, ci, show 47 + 33 + cl_md 47 = 80 from rfl, show 47 + 35 + cl_md 47 = 82 from rfl, show 47 + 34 + cl_md 47 = 81 from rfl, show 179 + 12 + cl_md 179 = 59 + 135 * 1 from rfl, a4, n_ix q8 (by omega), cq, pp, vln, i5, vln, p31, vln, i5, nnn, i5, vln, nnn]
    exact hz
  rcases ho with ⟨o1, o2, o3⟩ | ⟨o1, o2, tq, t1, t2, t3⟩
  · -- a word
    have dq : ∀ z, (if (64:Int32) ≤ ρ.1 66 (8 + q) then some ρ else (ix (((64:Int32) * nI (8 + q)) + (ρ.1 66 (8 + q))) 1024 (vl (rf_w ρ 65 (((64:Int32) * nI (8 + q)) + (ρ.1 66 (8 + q))).toNatClampNeg (ρ.1 47 i)) (fun ρ_2 => (vl (rf_w ρ_2 66 (8 + q) ((ρ_2.1 66 (8 + q)) + (1:Int32))) (fun ρ_3 => some ρ_3)))))) = z → fq_deliver (nI i) ρ = z := by
      intro z hz
      unfold fq_deliver bq_deliver_0
      rw [i5, ci, a5, show (8:Int32) + nI q = nI (8 + q) from n_add 8 q, vln, i5, o1, if_pos rfl]
      unfold bq_deliver_65
      rw [i5, ci, o1, if_pos rfl, i16, c8q, i16, i5]
      rw [← hz]
      simp only [vl_eq, i16]
    rcases h.R.waitW (s := 1) (by omega) hq P (fun _ => rfl) (σ.1 81 i) with ⟨w1, w2⟩ | ⟨m, σ', w1, w2, w3, w4, w5, w6⟩
    · refine ⟨σ, ρ, rI _ ?_, dq _ ?_, h, Qw.refl ρ⟩
      · rw [o2, if_pos rfl, w2, bd2n]
      · rw [show ρ.1 66 (8 + q) = nI 64 from w1, if_pos (show (64:Int32) ≤ nI 64 from Int32.le_refl _)]
    · refine ⟨σ', _, rI _ ?_, dq (some (rf_w (rf_w ρ 65 (64 * (8 * 1 + q) + m) (σ.1 81 i)) 66 (8 * 1 + q) (nI (m + 1)))) ?_, h.again w4 (by rw [q_w (by decide), q_w (by decide)]), ⟨fun c j w => ?_, rfl⟩⟩
      · rw [o2, if_pos rfl, w3, bd2n]
      · rw [show ρ.1 66 (8 + q) = nI m from w2, if_neg (fun w => by have := (n_le (a := 64) (by omega) (by omega)).mp w; omega), show (64:Int32) * nI (8 + q) + nI m = nI (64 * (8 + q) + m) by rw [show (64:Int32) = nI 64 from rfl, n_mul, n_add], n_ix (show 64 * (8 + q) + m < 1024 by omega) (by omega), vln, vln, n_cl (show 64 * (8 + q) + m < 2147483648 by omega), q_w (show 66 ≠ 65 by decide), show ρ.1 66 (8 + q) = nI m from w2, show nI m + (1:Int32) = nI (m + 1) from n_add m 1, o3]
      · rw [g_q, if_neg (fun e => w (by rw [e.1, e.2]; exact ⟨by decide, by decide, S1_66 (Or.inl rfl) (by omega)⟩)), g_q, if_neg (fun e => w (by rw [e.1, e.2]; exact ⟨by decide, by decide, S1_65 (Or.inl rfl) (by omega)⟩))]
  · -- a term
    have mt := h.R.T.C.mem _ (h.R.T.L.inm tq t1)
    have n33 : ¬ σ.2.2.1 82 i = some 33 := by
      rw [t3]
      intro e
      have := Option.some.inj e
      omega
    have d65 : bq_deliver_65 (nI i) (nI (8 + q)) ρ = some ρ := by
      unfold bq_deliver_65
      rw [i5, ci, o1, if_neg (by decide)]
    have dq : ∀ z, (if (64:Int32) ≤ ρ.1 68 (8 + q) then some ρ else (ix (((64:Int32) * nI (8 + q)) + (ρ.1 68 (8 + q))) 1024 (vl (rf_w ρ 67 (((64:Int32) * nI (8 + q)) + (ρ.1 68 (8 + q))).toNatClampNeg (ρ.1 47 i)) (fun ρ_2 => (vl (rf_w ρ_2 68 (8 + q) ((ρ_2.1 68 (8 + q)) + (1:Int32))) (fun ρ_3 => some ρ_3)))))) = z → fq_deliver (nI i) ρ = z := by
      intro z hz
      unfold fq_deliver bq_deliver_0
      rw [i5, ci, a5, show (8:Int32) + nI q = nI (8 + q) from n_add 8 q, vln, i5, o1, if_neg (by decide), i16, c8q, d65, i16, i5]
      rw [← hz]
      simp only [vl_eq, i16]
    rcases h.R.waitT (s := 1) (by omega) hq P (fun _ => rfl) t1 with ⟨w1, w2⟩ | ⟨m, σ', w1, w2, w3, w4, w5, w6⟩
    · refine ⟨σ, ρ, rI _ ?_, dq _ ?_, h, Qw.refl ρ⟩
      · rw [if_neg n33, t3, w2, bd2n]
      · rw [show ρ.1 68 (8 + q) = nI 64 from w1, if_pos (show (64:Int32) ≤ nI 64 from Int32.le_refl _)]
    · refine ⟨σ', _, rI _ ?_, dq (some (rf_w (rf_w ρ 67 (64 * (8 * 1 + q) + m) (nI tq)) 68 (8 * 1 + q) (nI (m + 1)))) ?_, h.again w4 (by rw [q_w (by decide), q_w (by decide)]), ⟨fun c j w => ?_, rfl⟩⟩
      · rw [if_neg n33, t3, w3, bd2n]
      · rw [show ρ.1 68 (8 + q) = nI m from w2, if_neg (fun w => by have := (n_le (a := 64) (by omega) (by omega)).mp w; omega), show (64:Int32) * nI (8 + q) + nI m = nI (64 * (8 + q) + m) by rw [show (64:Int32) = nI 64 from rfl, n_mul, n_add], n_ix (show 64 * (8 + q) + m < 1024 by omega) (by omega), vln, vln, n_cl (show 64 * (8 + q) + m < 2147483648 by omega), q_w (show 68 ≠ 67 by decide), show ρ.1 68 (8 + q) = nI m from w2, show nI m + (1:Int32) = nI (m + 1) from n_add m 1, t2]
      · rw [g_q, if_neg (fun e => w (by rw [e.1, e.2]; exact ⟨by decide, by decide, S1_66 (Or.inr rfl) (by omega)⟩)), g_q, if_neg (fun e => w (by rw [e.1, e.2]; exact ⟨by decide, by decide, S1_65 (Or.inr rfl) (by omega)⟩))]
end Z2_DC
