section Z2_LC
variable {K : Bd} {W W' : Wd} {b : Bool} {k s p : Nat} {σ σ' : cl_S} {ρ ρ' : rf_S}
/-- a channel from the partition -/
theorem Ak.chF (h : Ak K W b k s p σ ρ) (x : Int32) : (∃ c, c < W.nc ∧ x = nI c ∧ fc_X5_isFrom (47 + 132 * s) (some (83 + 135 * s + 12 * p)) x σ = some (1, σ) ∧ fq_isChannel x (1:Int32) ρ = some (1, ρ)) ∨ (fc_X5_isFrom (47 + 132 * s) (some (83 + 135 * s + 12 * p)) x σ = some (0, σ) ∧ fq_isChannel x (1:Int32) ρ = some (0, ρ)) := by
  have p8 := h.p8
  have np8 := h.R.cf.np.1
  obtain ⟨n1, n2, n3⟩ := h.R.cf.nc
  have ci := h.P.co.ix
  unfold fc_X5_isFrom bc_X5_isFrom_0 fq_isChannel bq_isChannel_0 bq_isChannel_31
  by_cases c0 : x < 0
  · right; rw [if_pos c0, if_pos c0]; exact ⟨rfl, rfl⟩
  rcases n_cases x with hn | ⟨q, hq, rfl⟩
  · exact absurd hn c0
  rw [if_neg c0, if_neg c0, h.M.cp, vl_eq, nn_eq, n2, n3]
  by_cases c1 : nI W.nc ≤ nI q
  · right; rw [if_pos c1, if_pos c1]; exact ⟨rfl, rfl⟩
  have hq' : q < W.nc := by
    rw [n_le (by omega) hq] at c1; omega
  obtain ⟨⟨d1, d2, d3, d4⟩, d5, d6, d7, d8, d9, d10⟩ := h.R.cf.ch q hq'
  rw [if_neg c1, if_neg c1, if_neg (by decide), vl_eq, nn_eq, n_ix (show q < 16 by omega) (by omega), nn_eq, n_cl hq, d5, ci, n_ix (show q < 16 by omega) (by omega), d6, h.me]
  by_cases c2 : W.fr q = p
  · left; exact ⟨q, hq', rfl, by rw [c2, if_pos rfl], by rw [c2, if_pos rfl]⟩
  · have : ¬ nI (W.fr q) = nI p := fun w => c2 ((n_eq (by omega) (by omega)).mp w)
    right; rw [if_neg this, if_neg this]; exact ⟨rfl, rfl⟩
theorem Ak.chT (h : Ak K W b k s p σ ρ) (x : Int32) : (∃ c, c < W.nc ∧ x = nI c ∧ fc_X5_isTo (47 + 132 * s) (some (83 + 135 * s + 12 * p)) x σ = some (1, σ) ∧ fq_isChannel x (0:Int32) ρ = some (1, ρ)) ∨ (fc_X5_isTo (47 + 132 * s) (some (83 + 135 * s + 12 * p)) x σ = some (0, σ) ∧ fq_isChannel x (0:Int32) ρ = some (0, ρ)) := by
  have p8 := h.p8
  have np8 := h.R.cf.np.1
  obtain ⟨n1, n2, n3⟩ := h.R.cf.nc
  have ci := h.P.co.ix
  unfold fc_X5_isTo bc_X5_isTo_0 fq_isChannel bq_isChannel_0 bq_isChannel_31
  by_cases c0 : x < 0
  · right; rw [if_pos c0, if_pos c0]; exact ⟨rfl, rfl⟩
  rcases n_cases x with hn | ⟨q, hq, rfl⟩
  · exact absurd hn c0
  rw [if_neg c0, if_neg c0, h.M.cp, vl_eq, nn_eq, n2, n3]
  by_cases c1 : nI W.nc ≤ nI q
  · right; rw [if_pos c1, if_pos c1]; exact ⟨rfl, rfl⟩
  have hq' : q < W.nc := by
    rw [n_le (by omega) hq] at c1; omega
  obtain ⟨⟨d1, d2, d3, d4⟩, d5, d6, d7, d8, d9, d10⟩ := h.R.cf.ch q hq'
  rw [if_neg c1, if_neg c1, if_pos rfl, vl_eq, nn_eq, n_ix (show q < 16 by omega) (by omega), nn_eq, n_cl hq, d7, ci, n_ix (show q < 16 by omega) (by omega), d8, h.me]
  by_cases c2 : W.to q = p
  · left; exact ⟨q, hq', rfl, by rw [c2, if_pos rfl], by rw [c2, if_pos rfl]⟩
  · have : ¬ nI (W.to q) = nI p := fun w => c2 ((n_eq (by omega) (by omega)).mp w)
    right; rw [if_neg this, if_neg this]; exact ⟨rfl, rfl⟩
theorem md_eq {s : Nat} (hs : s < 2) : cl_md (47 + 132 * s) = 3 * s := by
  have q : s = 0 ∨ s = 1 := by omega
  rcases q with rfl | rfl <;> rfl
theorem ask_sendTerm (h : Ak K W b k s p σ ρ) (x : Int32) : Sim (fc_X5_sendTerm (47 + 132 * s) (some (83 + 135 * s + 12 * p)) x σ) (bd2 (fq_isChannel x (1:Int32) ρ) (fun r_12 ρ_11 => (if r_12 = 0 then some ((-1:Int32), ρ_11) else bd2 (fq_isHandle (σ.1 (86 + 135 * s + 12 * p) 2) ρ_11) (fun r_14 ρ_13 => (if r_14 = 0 then some ((-2:Int32), ρ_13) else bd2 (fq_of (σ.1 (86 + 135 * s + 12 * p) 2) ρ_13) (fun r_16 ρ_15 => ix (((16:Int32) * (ρ_13.1 0 79)) + x) 32 (vl (rf_w ρ_15 73 (((16:Int32) * (ρ_13.1 0 79)) + x).toNatClampNeg r_16) (fun ρ_17 => some ((0:Int32), ρ_17))))))))) (AkO K W b k s p ρ) := by
  have s2 := h.s2
  have s01 : s = 0 ∨ s = 1 := by omega
  have p8 := h.p8
  have z1 : ¬ (1:Int32) = 0 := by decide
  have n1 := h.R.cf.nc.1
  have c2 : (2:Int32).toNatClampNeg = 2 := by decide
  have i2 : ∀ {α : Type} (x : Option α), ix (2:Int32) 16 x = x := fun x => n_ix (a := 2) (by omega) (by omega)
  have a3 : 83 + 135 * s + 12 * p + 1 + 2 = 86 + 135 * s + 12 * p := by omega
  have a9 : 83 + 135 * s + 12 * p + 9 = 92 + 135 * s + 12 * p := by omega
  unfold fc_X5_sendTerm bc_X5_sendTerm_0
  rcases h.chF x with ⟨c, hc, rfl, e1, e2⟩ | ⟨e1, e2⟩
  rotate_left
  · rw [e1, e2, bd2_eq, bd2_eq, if_pos rfl, if_pos rfl]
    exact Sim.mk (AkO.same h _)
  rw [e1, e2, bd2_eq, bd2_eq, if_neg z1, if_neg z1, nn_eq, i2, c2, a3, vl_eq, a9]
  rcases h.hnd (σ.1 (86 + 135 * s + 12 * p) 2) with ⟨t, ht, f1, f2, f3, f4⟩ | ⟨f1, f2, f3⟩
  rotate_left
  · rw [f1, f2, bd2_eq, bd2_eq, if_pos rfl, if_pos rfl]
    exact Sim.mk (AkO.same h _)
  have k5 : (16:Int32) * nI s + nI c = nI (16 * s + c) := by rw [show (16:Int32) = nI 16 from rfl, n_mul, n_add]
  rw [f1, f2, bd2_eq, bd2_eq, if_neg z1, if_neg z1, f3, f4, bd2_eq, bd2_eq, n_ix (show c < 16 by omega) (by omega), n_cl (by omega), vl_eq, h.sd, k5, n_ix (show 16 * s + c < 32 by omega) (by omega), n_cl (by omega), vl_eq, md_eq s2, show 47 + 132 * s + 31 + 3 * s = 78 + 135 * s by omega]
  have M := h.M
  have cI : (cl_wr σ (78 + 135 * s) c (some (W.tm t))).1 = σ.1 := rfl
  have cR : ∀ a, a ≠ 78 + 135 * s → (cl_wr σ (78 + 135 * s) c (some (W.tm t))).2.2.1 a = σ.2.2.1 a := fun a ha => r_r ha
  have cRk : ∀ j, (cl_wr σ (78 + 135 * s) c (some (W.tm t))).2.2.1 (78 + 135 * s) j = if j = c then some (W.tm t) else σ.2.2.1 (78 + 135 * s) j := fun j => by rw [g_r]; simp only [true_and]
  have cT : (cl_wr σ (78 + 135 * s) c (some (W.tm t))).2.2.2 = σ.2.2.2 := rfl
  have cL : (cl_wr σ (78 + 135 * s) c (some (W.tm t))).2.1 = σ.2.1 := rfl
  have qo : ∀ d, d ≠ 73 → (rf_w ρ 73 (16 * s + c) (nI t)).1 d = ρ.1 d := fun d hd => q_w hd
  have q73 : ∀ j, (rf_w ρ 73 (16 * s + c) (nI t)).1 73 j = if j = 16 * s + c then nI t else ρ.1 73 j := fun j => by rw [g_q]; simp only [true_and]
  have q2 : (rf_w ρ 73 (16 * s + c) (nI t)).2 = ρ.2 := rfl
  generalize (cl_wr σ (78 + 135 * s) c (some (W.tm t))) = τ at cI cR cRk cT cL ⊢
  generalize (rf_w ρ 73 (16 * s + c) (nI t)) = τq at qo q73 q2 ⊢
  have L : Lm b s σ τ ρ τq := by
    refine ⟨fun a w => by rw [cI], cL, fun a w => cR a (fun e => w (by unfold mrw; omega)), cT, fun j hj => by rw [cI], by rw [cR _ (by omega)], fun d j hd w => ?_, q2, fun j => by rw [qo 0 (by omega)], fun p' hp' => ⟨by rw [cI], fun j hj => by rw [cI]⟩⟩
    by_cases c1 : d = 73
    · subst c1
      rw [q73, if_neg]
      rintro rfl
      exact w (by unfold mpl; omega)
    · rw [qo d c1]
  have F := L.fr s2 h.R.T
  refine Sim.mk ⟨rfl, W, Wd.le.refl W, h.mloc L ?_ (qo 61 (by omega)) (qo 69 (by omega)) (by rw [qo 48 (by omega)]; exact Nat.le_refl _), ⟨by rw [qo 0 (by omega)], by rw [qo 54 (by omega)], by rw [qo 48 (by omega)]⟩⟩
  refine ⟨M.prs F.G s2 h.R.cf.np.1 (fun a _ _ => by rw [cI]) (fun a h1 h2 => cR a (by omega)) (fun d h1 h2 h3 h4 h5 => qo d (by omega)), by rw [cR _ (by omega)]; exact M.cp, by rw [cI]; exact M.re, by rw [cI, qo 48 (by omega)]; exact M.tk, by rw [cI, qo 49 (by omega), qo 50 (by omega)]; exact M.sl, by rw [cI, qo 51 (by omega)]; exact M.yl, by rw [cI, qo 0 (by omega)]; exact M.ct, by rw [cI, qo 71 (by omega)]; exact M.sn, by rw [cI, qo 72 (by omega)]; exact M.ur, ?_, ?_, by rw [cI]; exact M.on⟩
  · intro d hd hn
    rw [cRk, q73]
    by_cases c1 : d = c
    · subst c1
      rw [if_pos rfl, if_pos rfl]
      exact Or.inr ⟨t, ht, rfl, rfl⟩
    · rw [if_neg c1, if_neg (by omega)]
      exact M.st d hd hn
  · intro d hd
    rw [cI, cR _ (by omega), qo 74 (by omega), qo 75 (by omega)]
    exact M.dk d hd
theorem ask_receiveTerm (h : Ak K W b k s p σ ρ) (x : Int32) : Sim (fc_X5_receiveTerm (47 + 132 * s) (some (83 + 135 * s + 12 * p)) x σ) (bd2 (fq_isChannel x (0:Int32) ρ) (fun r_19 ρ_18 => (if r_19 = 0 then some ((-1:Int32), ρ_18) else ix (((16:Int32) * (ρ_18.1 0 79)) + x) 32 ((if 0 ≤ (ρ_18.1 73 (((16:Int32) * (ρ_18.1 0 79)) + x).toNatClampNeg) then ix (((16:Int32) * (ρ_18.1 0 79)) + x) 32 (bd2 (fq_comes (ρ_18.1 73 (((16:Int32) * (ρ_18.1 0 79)) + x).toNatClampNeg) ρ_18) (fun r_21 ρ_20 => some (r_21, ρ_20))) else some ((0:Int32), ρ_18)))))) (AkO K W b k s p ρ) := by
  have s2 := h.s2
  have p8 := h.p8
  have z1 : ¬ (1:Int32) = 0 := by decide
  have n1 := h.R.cf.nc.1
  have e33 := h.R.T.C.tms.2.2.1
  have hN := h.R.T.Q.n.2
  unfold fc_X5_receiveTerm bc_X5_receiveTerm_0
  rcases h.chT x with ⟨c, hc, rfl, e1, e2⟩ | ⟨e1, e2⟩
  rotate_left
  · rw [e1, e2, bd2_eq, bd2_eq, if_pos rfl, if_pos rfl]
    exact Sim.mk (AkO.same h _)
  have k5 : (16:Int32) * nI s + nI c = nI (16 * s + c) := by rw [show (16:Int32) = nI 16 from rfl, n_mul, n_add]
  rw [e1, e2, bd2_eq, bd2_eq, if_neg z1, if_neg z1, n_ix (show c < 16 by omega) (by omega), n_cl (by omega), md_eq s2, show 47 + 132 * s + 31 + 3 * s = 78 + 135 * s by omega, h.sd, k5, n_ix (show 16 * s + c < 32 by omega) (by omega), n_cl (by omega), e33, vl_eq, vl_eq]
  rcases h.M.st c (by omega) (Nat.lt_of_le_of_lt (Nat.zero_le _) h.hp) with ⟨f1, f2⟩ | ⟨t, ht, f1, f2⟩
  · rw [f1, f2, if_pos rfl, if_neg (by decide)]
    exact Sim.mk (AkO.same h _)
  · rw [f1, f2, if_neg (h.ne33 ht), nn_eq, n_ix (show c < 16 by omega) (by omega), vl_eq, if_pos (by rw [i32_0, n_le (by omega) (by omega)]; omega), n_ix (show 16 * s + c < 32 by omega) (by omega), show 83 + 135 * s + 12 * p + 9 = 92 + 135 * s + 12 * p by omega]
    exact Sim.bd2 (comes_out h ht) (fun _ _ _ _ q => Sim.mk q)
end Z2_LC
