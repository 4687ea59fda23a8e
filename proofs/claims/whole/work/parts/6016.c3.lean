section Z2_C3
variable {W : Wd} {s p : Nat} {σ σ' : cl_S} {ρ ρ' : rf_S}
theorem wid_eq {o : Nat} (h : 22 ≤ o ∧ o ≤ 29) (σ : cl_S) (ρ : rf_S) : ∃ v, fc_X2_width (nI o) σ = some (v, σ) ∧ fq_widthOf (nI o) ρ = some (v, ρ) ∧ (o = 27 → v = 4) ∧ (o = 28 → v = 2) ∧ (o = 29 → v = 1) := by
  unfold fc_X2_width bc_X2_width_0 fq_widthOf bq_widthOf_0
  have q : o = 22 ∨ o = 23 ∨ o = 24 ∨ o = 25 ∨ o = 26 ∨ o = 27 ∨ o = 28 ∨ o = 29 := by omega
  rcases q with rfl | rfl | rfl | rfl | rfl | rfl | rfl | rfl
  all_goals simp (decide := true) only [if_true, if_false, reduceIte]
  all_goals exact ⟨_, rfl, rfl, by decide, by decide, by decide⟩
theorem sto_eq {o : Nat} (h : 22 ≤ o ∧ o ≤ 29) (σ : cl_S) : fc_X2_isStore (nI o) σ = some (if 27 ≤ o then 1 else 0, σ) := by
  unfold fc_X2_isStore bc_X2_isStore_0
  have q : o = 22 ∨ o = 23 ∨ o = 24 ∨ o = 25 ∨ o = 26 ∨ o = 27 ∨ o = 28 ∨ o = 29 := by omega
  rcases q with rfl | rfl | rfl | rfl | rfl | rfl | rfl | rfl
  all_goals simp (decide := true) only [if_true, if_false, reduceIte]
theorem lod_eq {o : Nat} (h : 22 ≤ o ∧ o ≤ 26) (v : Int32) (σ : cl_S) (d : Int32) (ρ : rf_S) : ∃ u, fc_X2_loaded (nI o) v σ = some (u, σ) ∧ (if nI o = (22:Int32) then bd1 (fq_give d v ρ) (fun ρ_6 => some ρ_6) else (if nI o = (23:Int32) then bd1 (fq_give d (v.toInt16.toInt32) ρ) (fun ρ_5 => some ρ_5) else (if nI o = (24:Int32) then bd1 (fq_give d (v &&& (65535:Int32)) ρ) (fun ρ_4 => some ρ_4) else (if nI o = (25:Int32) then bd1 (fq_give d (v.toInt8.toInt32) ρ) (fun ρ_3 => some ρ_3) else bd1 (fq_give d (v &&& (255:Int32)) ρ) (fun ρ_2 => some ρ_2))))) = bd1 (fq_give d u ρ) (fun ρ_2 => some ρ_2) := by
  unfold fc_X2_loaded bc_X2_loaded_0
  have q : o = 22 ∨ o = 23 ∨ o = 24 ∨ o = 25 ∨ o = 26 := by omega
  rcases q with rfl | rfl | rfl | rfl | rfl
  all_goals simp (decide := true) only [if_true, if_false, reduceIte]
  all_goals exact ⟨_, rfl, rfl⟩
/-- what the reference does of a load or a store -/
noncomputable def q_mem (x1 x4 x5 x8 : Int32) (ρ : rf_S) : Option rf_S := bd2 (fq_widthOf x4 ρ) (fun r_35 ρ_34 => (if (x8 &&& (r_35 - (1:Int32))) = 0 then (if x8 < 0 then bq_step_336 ρ_34 else ix x1 8 ((if x8 < ((4:Int32) * (ρ_34.1 29 x1.toNatClampNeg)) then (if (27:Int32) ≤ x4 then bd1 (fq_store r_35 x5 x8 ρ_34) (fun ρ_37 => bq_step_372 ρ_37) else bd1 (fq_load x4 x5 x8 ρ_34) (fun ρ_38 => bq_step_372 ρ_38)) else bq_step_336 ρ_34))) else bd1 (fq_trap (3:Int32) ρ_34) (fun ρ_39 => some ρ_39)))
theorem c_access {o d : Nat} {x pc : Int32} (h : Ctx W s p σ ρ) (ho : 22 ≤ o ∧ o ≤ 29) (hd : d < 16) (epc : σ.1 (84 + 135 * s + 12 * p) 3 = pc) (ej : ρ.1 0 121 = pc + 4) :
    Sim (fc_X2_access (84 + 135 * s + 12 * p) (nI o) (nI d) x σ) (q_mem (nI p) (nI o) (nI d) x ρ) (CoO W s p σ ρ) := by
  have hb := h.bd
  obtain ⟨wd, e1, e2, w27, w28, w29⟩ := wid_eq ho σ ρ
  unfold fc_X2_access bc_X2_access_0 q_mem bc_X2_access_31 bq_step_336 bq_step_372
  rw [e1, e2, bd2_eq, bd2_eq]
  have trp : ∀ v, Sim (bd1 (fc_X2_trap (84 + 135 * s + 12 * p) v σ) (fun σ_7 => some σ_7)) (bd1 (fq_trap v ρ) (fun ρ_7 => some ρ_7)) (CoO W s p σ ρ) := fun v => Sim.bd1 (c_trap h v) (fun u v q => Sim.mk q)
  refine Sim.ite Iff.rfl (fun hal _ => ?_) (fun _ _ => trp 3)
  refine Sim.ite Iff.rfl (fun _ _ => trp 2) (fun hpos _ => ?_)
  rw [n_ix hb.2.1 (by omega), n_cl (by omega), h.rz, h.co.sz]
  refine Sim.ite Iff.rfl (fun hlt _ => ?_) (fun _ _ => trp 2)
  rcases n_cases x with hn | ⟨q, hq, rfl⟩
  · exact absurd hn hpos
  have hq4 : q < 4 * W.sz p := by
    rw [show (4:Int32) * nI (W.sz p) = nI (4 * W.sz p) from n_mul 4 _, n_lt hq (by omega)] at hlt
    exact hlt
  have k1 : (nI q) >>> ((2:Int32) &&& 31) = nI (q / 4) := n_shr2 hq
  have k2 : (8:Int32) * (nI q &&& (3:Int32)) = nI (8 * (q % 4)) := by rw [n_and3 hq]; exact n_mul 8 _
  have k3 : (8:Int32) * (nI q - nI q / (4:Int32) * (4:Int32)) = nI (8 * (q % 4)) := by rw [n_rem4 hq]; exact n_mul 8 _
  have k4 : nI (8192 * s + W.bs p) + nI q / (4:Int32) = nI (8192 * s + W.bs p + q / 4) := by rw [show (4:Int32) = nI 4 from rfl, n_div hq (by omega), n_add]
  have m1 : σ.1 (84 + 135 * s + 12 * p + 1) (q / 4) = ρ.1 52 (8192 * s + W.bs p + q / 4) := by
    rw [show 84 + 135 * s + 12 * p + 1 = 85 + 135 * s + 12 * p by omega]; exact h.co.me _ (by omega)
  rw [k1, k2, vl_eq, vl_eq, sto_eq ho, bd2_eq]
  have k27 : (27:Int32) ≤ nI o ↔ 27 ≤ o := by rw [show (27:Int32) = nI 27 from rfl, n_le (by omega) (by omega)]
  by_cases c27 : 27 ≤ o
  · rw [if_pos c27, if_neg (by decide), if_pos (k27.mpr c27)]
    have store : ∀ mk : Int32, mk = mk → Sim (bc_X2_access_81 (84 + 135 * s + 12 * p) (nI d) (nI (q / 4)) (nI (8 * (q % 4))) mk σ) (bd1 (bq_store_37 (nI d) (nI q) (nI (8 * (q % 4))) (mk <<< (nI (8 * (q % 4)) &&& 31)) ρ) (fun ρ_37 => bq_step_522 ρ_37)) (CoO W s p σ ρ) := by
      intro mk _
      unfold bc_X2_access_81 bc_X2_access_140 bq_store_37
      simp only [vl_eq]
      rw [n_ix (show q / 4 < 2048 by omega) (by omega), n_ix hd (by omega), n_ix (show q / 4 < 2048 by omega) (by omega), n_cl (by omega), n_cl (by omega), h.gd, k4, n_ix (show 8192 * s + W.bs p + q / 4 < 16384 by omega) (by omega), c_reg h hd, bd2_eq, n_ix (show 8192 * s + W.bs p + q / 4 < 16384 by omega) (by omega), n_cl (by omega), bd1_eq, m1]
      generalize (ρ.1 52 (8192 * s + W.bs p + q / 4) &&& (mk <<< (nI (8 * (q % 4)) &&& 31) ^^^ -1)) ||| (σ.1 (84 + 135 * s + 12 * p + 2) d <<< (nI (8 * (q % 4)) &&& 31) &&& mk <<< (nI (8 * (q % 4)) &&& 31)) = val
      have h1 := h.mw (i := q / 4) (by omega) val
      rw [show 85 + 135 * s + 12 * p = 84 + 135 * s + 12 * p + 1 by omega] at h1
      have e3 : (cl_w σ (84 + 135 * s + 12 * p + 1) (q / 4) val).1 (84 + 135 * s + 12 * p) 3 = pc := by rw [r_w (by omega)]; exact epc
      have e4 : (rf_w ρ 52 (8192 * s + W.bs p + q / 4) val).1 0 121 = pc + 4 := by rw [q_w (by decide)]; exact ej
      rw [e3]
      exact c_fin h1.1 h1.2 e4
    unfold fq_store bq_store_0
    rw [k3, vl_eq]
    have q3 : o = 27 ∨ o = 28 ∨ o = 29 := by omega
    rcases q3 with rfl | rfl | rfl
    · rw [w27 rfl, if_pos (by decide), if_pos rfl]
      have hz : q % 4 = 0 := by
        rw [w27 rfl, show (4:Int32) - 1 = 3 by decide, n_and3 hq, i32_0, n_eq (by omega) (by omega)] at hal
        exact hal
      have := store (-1) rfl
      rw [hz] at this ⊢
      rw [show (-1:Int32) <<< (nI (8 * 0) &&& 31) = -1 by decide] at this
      exact this
    · rw [w28 rfl, if_neg (by decide), if_pos (by decide), if_neg (by decide), if_pos rfl]
      exact store 65535 rfl
    · rw [w29 rfl, if_neg (by decide), if_neg (by decide), if_neg (by decide), if_neg (by decide)]
      exact store 255 rfl
  · rw [if_neg c27, if_pos rfl, if_neg (fun q => c27 (k27.mp q)), n_ix (show q / 4 < 2048 by omega) (by omega), n_cl (by omega)]
    unfold fq_load bq_load_0
    rw [h.gd, k4, n_ix (show 8192 * s + W.bs p + q / 4 < 16384 by omega) (by omega), n_cl (by omega), k3, vl_eq, m1]
    obtain ⟨u, e3, e4⟩ := lod_eq (o := o) (by omega) ((ρ.1 52 (8192 * s + W.bs p + q / 4)).toUInt32 >>> ((nI (8 * (q % 4))).toUInt32 &&& Int32.toUInt32 31)).toInt32 σ (nI d) ρ
    rw [e3, bd2_eq, e4]
    obtain ⟨σ1, ρ1, f1, f2, h1, F1, f3, f4⟩ := c_write h hd u
    rw [f1, f2, bd1_eq, bd1_eq, bd1_eq]
    unfold bc_X2_access_140
    rw [vl_eq, f3, epc]
    exact c_fin h1 F1 (f4.trans ej)
/-- the outcome of a step: an ask, or all is done -/
theorem c_step (h : Ctx W s p σ (rf_w (rf_w (rf_w ρ 0 118 (nI p)) 0 119 (nI (8 * s + p))) 0 120 (nI (8192 * s + W.bs p)))) (hbs : ρ.1 28 p = nI (W.bs p)) :
    Sim (fc_X2_step (84 + 135 * s + 12 * p) σ) (fq_step (nI p) ρ) (fun u ρ' => u.1 = -1 ∧ CoO W s p σ ρ u.2 ρ') ∨
    ∃ m ρ2, m ≤ 34 ∧ fc_X2_step (84 + 135 * s + 12 * p) σ = some (nI m, σ) ∧ Ctx W s p σ ρ2 ∧ CoF W s p σ σ ρ ρ2 ∧ ρ2.1 0 121 = σ.1 (84 + 135 * s + 12 * p) 3 + 4 ∧ fq_step (nI p) ρ = bd1 (fq_ask (nI m) ρ2) (fun ρ3 => if ρ3.1 0 108 = 0 then bq_step_522 ρ3 else some ρ3) := by
  have hb := h.bd
  have sd0 : ρ.1 0 79 = nI s := h.sd
  have F0 : CoF W s p σ σ ρ (rf_w (rf_w (rf_w ρ 0 118 (nI p)) 0 119 (nI (8 * s + p))) 0 120 (nI (8192 * s + W.bs p))) := ((CoF.f (by omega)).trans (CoF.f (by omega))).trans (CoF.f (by omega))
  unfold fc_X2_step bc_X2_step_0 fq_step bq_step_0
  have a1 : (rf_w ρ 0 118 (nI p)).1 0 79 = nI s := sd0
  have a2 : (8:Int32) * nI s + nI p = nI (8 * s + p) := by rw [show (8:Int32) = nI 8 from rfl, n_mul, n_add]
  have a3 : (rf_w (rf_w ρ 0 118 (nI p)) 0 119 (nI (8 * s + p))).1 0 79 = nI s := sd0
  have a4 : (rf_w (rf_w ρ 0 118 (nI p)) 0 119 (nI (8 * s + p))).1 28 p = nI (W.bs p) := hbs
  have a5 : (8192:Int32) * nI s + nI (W.bs p) = nI (8192 * s + W.bs p) := by rw [show (8192:Int32) = nI 8192 from rfl, n_mul, n_add]
  simp only [vl_eq]
  rw [a1, a2, n_ix hb.2.1 (by omega), n_cl (show p < 2147483648 by omega), a3, a4, a5]
  generalize (rf_w (rf_w (rf_w ρ 0 118 (nI p)) 0 119 (nI (8 * s + p))) 0 120 (nI (8192 * s + W.bs p))) = ρ1 at h F0 ⊢
  rw [h.at', n_ix (show 8 * s + p < 16 by omega) (by omega), n_cl (show 8 * s + p < 2147483648 by omega), ← h.co.pc, n_ix hb.2.1 (by omega), h.rz, h.co.sz]
  generalize hpc : σ.1 (84 + 135 * s + 12 * p) 3 = pc
  have out : ∀ {x : Option cl_S} {y : Option rf_S}, Sim x y (CoO W s p σ ρ1) → Sim (bd1 x (fun σ_1 => some ((-1:Int32), σ_1))) y (fun u ρ' => u.1 = -1 ∧ CoO W s p σ ρ u.2 ρ') := by
    rintro x y ⟨u, v, rfl, rfl, q1, q2⟩
    exact ⟨(-1, u), v, rfl, rfl, rfl, q1, F0.trans q2⟩
  have trp : ∀ v, Sim (bd1 (fc_X2_trap (84 + 135 * s + 12 * p) v σ) (fun σ_1 => some ((-1:Int32), σ_1))) (bd1 (fq_trap v ρ1) (fun ρ_5 => some ρ_5)) (fun u ρ' => u.1 = -1 ∧ CoO W s p σ ρ u.2 ρ') := by
    intro v
    obtain ⟨u, w, e1, e2, q⟩ := c_trap h v
    rw [e2, bd1_eq]
    exact out ⟨u, w, e1, rfl, q⟩
  unfold bc_X2_step_29 bq_step_69
  by_cases c1 : pc < 0
  · rw [if_pos c1, if_pos c1]; exact Or.inl (trp 4)
  rw [if_neg c1, if_neg c1]
  by_cases c2 : (4:Int32) * nI (W.sz p) ≤ pc
  · rw [if_pos c2, if_pos c2]; exact Or.inl (trp 4)
  rw [if_neg c2, if_neg c2]
  rcases n_cases pc with hn | ⟨q, hq, rfl⟩
  · exact absurd hn c1
  have hq4 : q < 4 * W.sz p := by
    rw [show (4:Int32) * nI (W.sz p) = nI (4 * W.sz p) from n_mul 4 _, n_le (by omega) hq] at c2
    omega
  rw [n_and3 hq, n_rem4 hq]
  by_cases c3 : nI (q % 4) = 0
  rotate_left
  · rw [if_neg c3, if_neg c3]; exact Or.inl (trp 4)
  have k4 : nI (8192 * s + W.bs p) + nI q / (4:Int32) = nI (8192 * s + W.bs p + q / 4) := by rw [show (4:Int32) = nI 4 from rfl, n_div hq (by omega), n_add]
  have m1 : σ.1 (84 + 135 * s + 12 * p + 1) (q / 4) = ρ1.1 52 (8192 * s + W.bs p + q / 4) := by
    rw [show 84 + 135 * s + 12 * p + 1 = 85 + 135 * s + 12 * p by omega]; exact h.co.me _ (by omega)
  rw [if_pos c3, if_pos c3, n_shr2 hq, n_ix (show q / 4 < 2048 by omega) (by omega), n_cl (by omega), h.gd, k4, n_ix (show 8192 * s + W.bs p + q / 4 < 16384 by omega) (by omega), n_cl (by omega), m1]
  generalize ρ1.1 52 (8192 * s + W.bs p + q / 4) = w
  unfold fq_signed bq_signed_0
  simp only [vl_eq, bd2_eq]
  obtain ⟨o, ho, eo⟩ := n_usr w 26 (by omega) (by omega)
  have ho : o < 64 := ho
  rw [show (nI 26) = (26:Int32) from rfl] at eo
  obtain ⟨d, hd, ed⟩ := n_and15 ((w.toUInt32 >>> ((22:Int32).toUInt32 &&& Int32.toUInt32 31)).toInt32)
  obtain ⟨ra, hra, era⟩ := n_and15 ((w.toUInt32 >>> ((18:Int32).toUInt32 &&& Int32.toUInt32 31)).toInt32)
  rw [eo]
  have hj := h.f (j := 121) rfl (nI q + 4)
  have sf : (rf_w ρ1 0 121 (nI q + 4)).1 0 121 = nI q + 4 := q_ws
  generalize (rf_w ρ1 0 121 (nI q + 4)) = ρ2 at hj sf ⊢
  obtain ⟨h2, F2⟩ := hj
  have F02 := F0.trans F2
  generalize (w <<< ((14:Int32) &&& 31)) >>> ((14:Int32) &&& 31) = m
  have L1 : (nI o < (1:Int32)) ↔ o < 1 := by rw [show (1:Int32) = nI 1 from rfl, n_lt (by omega) (by omega)]
  have L39 : ((39:Int32) < nI o) ↔ 39 < o := by rw [show (39:Int32) = nI 39 from rfl, n_lt (by omega) (by omega)]
  have E : ∀ k, k < 100 → (nI o = nI k ↔ o = k) := fun k hk => n_eq (by omega) (by omega)
  have E39 : (nI o = (39:Int32)) ↔ o = 39 := E 39 (by omega)
  have E38 : (nI o = (38:Int32)) ↔ o = 38 := E 38 (by omega)
  have E37 : (nI o = (37:Int32)) ↔ o = 37 := E 37 (by omega)
  have E36 : (nI o = (36:Int32)) ↔ o = 36 := E 36 (by omega)
  have E21 : (nI o = (21:Int32)) ↔ o = 21 := E 21 (by omega)
  have G : ∀ k, k < 100 → (nI k ≤ nI o ↔ k ≤ o) := fun k hk => n_le (by omega) (by omega)
  have G12 : ((12:Int32) ≤ nI o) ↔ 12 ≤ o := G 12 (by omega)
  have G21 : ((21:Int32) ≤ nI o) ↔ 21 ≤ o := G 21 (by omega)
  have G30 : ((30:Int32) ≤ nI o) ↔ 30 ≤ o := G 30 (by omega)
  have G36 : ((36:Int32) ≤ nI o) ↔ 36 ≤ o := G 36 (by omega)
  have H : ∀ k, k < 100 → (nI k < nI o ↔ k < o) := fun k hk => n_lt (by omega) (by omega)
  have H21 : ((21:Int32) < nI o) ↔ 21 < o := H 21 (by omega)
  have H29 : ((29:Int32) < nI o) ↔ 29 < o := H 29 (by omega)
  have H35 : ((35:Int32) < nI o) ↔ 35 < o := H 35 (by omega)
  have J : ∀ k, k < 100 → (nI o < nI k ↔ o < k) := fun k hk => n_lt (by omega) (by omega)
  have J22 : (nI o < (22:Int32)) ↔ o < 22 := J 22 (by omega)
  have J30 : (nI o < (30:Int32)) ↔ o < 30 := J 30 (by omega)
  have out2 : ∀ {x : Option cl_S} {y : Option rf_S}, Sim x y (CoO W s p σ ρ2) → Sim (bd1 x (fun σ_1 => some ((-1:Int32), σ_1))) y (fun u ρ' => u.1 = -1 ∧ CoO W s p σ ρ u.2 ρ') := by
    rintro x y ⟨u, v, rfl, rfl, q1, q2⟩
    exact ⟨(-1, u), v, rfl, rfl, rfl, q1, F02.trans q2⟩
  have trp2 : ∀ v, Sim (bd1 (fc_X2_trap (84 + 135 * s + 12 * p) v σ) (fun σ_1 => some σ_1)) (bd1 (fq_trap v ρ2) (fun ρ_5 => some ρ_5)) (CoO W s p σ ρ2) := fun v => Sim.bd1 (c_trap h2 v) (fun u v q => Sim.mk q)
  have hpc' : σ.1 (84 + 135 * s + 12 * p) 3 = nI q := hpc
  -- an op that there is not
  have bad : ¬ (1 ≤ o ∧ o ≤ 37) → o ≠ 39 → Sim (bc_X2_step_79 (84 + 135 * s + 12 * p) w (nI o) m σ) (bq_step_177 ρ2) (fun u ρ' => u.1 = -1 ∧ CoO W s p σ ρ u.2 ρ') := by
    intro b1 b2
    unfold bc_X2_step_79 bc_X2_step_100 bc_X2_step_202 fc_X2_isMemoryOp bc_X2_isMemoryOp_0 fc_X2_leap bc_X2_leap_0 bc_X2_leap_115 bq_step_177
    simp only [L1, E39, E37, E36, H21, H29, H35, J22, J30, vl_eq]
    have z : Sim (bd1 (bd1 (fc_X2_trap (84 + 135 * s + 12 * p) 1 σ) (fun σ_1 => some σ_1)) (fun σ_23 => some ((-1:Int32), σ_23))) (bd1 (fq_trap 1 ρ2) (fun ρ_5 => some ρ_5)) (fun u ρ' => u.1 = -1 ∧ CoO W s p σ ρ u.2 ρ') := out2 (trp2 1)
    by_cases b3 : o < 1
    · simp only [b3, show o < 22 by omega, show o < 30 by omega, show ¬ o = 36 by omega, show ¬ o = 37 by omega, show ¬ o = 39 by omega, if_true, if_false, bd2_eq]
      exact z
    · simp only [b3, show ¬ o < 22 by omega, show 21 < o by omega, show 29 < o by omega, show ¬ o < 30 by omega, show 35 < o by omega, show ¬ o = 36 by omega, show ¬ o = 37 by omega, show ¬ o = 39 by omega, if_true, if_false, bd2_eq]
      exact z
  by_cases o38 : o = 38
  · simp only [L1, L39, E39, E38, show ¬ o < 1 by omega, show ¬ 39 < o by omega, show ¬ o = 39 by omega, o38, if_true, if_false]
    unfold bq_step_158
    have e38' : nI 38 = (38:Int32) := rfl
    rw [if_pos e38']
    have bad' := bad (by omega) (by omega)
    rw [o38] at bad'
    by_cases c4 : m < 0
    · rw [if_pos c4, if_pos c4]; exact Or.inl bad'
    · rw [if_neg c4, if_neg c4]
      by_cases c5 : m ≤ (34:Int32)
      · rw [if_pos c5, if_neg (Int32.not_lt.mpr c5)]
        right
        rcases n_cases m with hm | ⟨mm, hmm, rfl⟩
        · exact absurd hm c4
        · refine ⟨mm, ρ2, ?_, rfl, h2, F02, ?_, ?_⟩
          · rw [show (34:Int32) = nI 34 from rfl, n_le hmm (by omega)] at c5; exact c5
          · rw [sf]
          · unfold bq_step_183
            simp (decide := true) only [if_true, if_false, reduceIte]
      · rw [if_neg c5, if_pos (Int32.not_le.mp c5)]; exact Or.inl bad'
  left
  have e38 : ¬ nI o = (38:Int32) := fun k => o38 (E38.mp k)
  rw [if_neg e38]
  by_cases o1 : o < 1
  · rw [if_pos (L1.mpr o1)]; exact bad (by omega) (by omega)
  rw [if_neg (fun k => o1 (L1.mp k))]
  by_cases o40 : 39 < o
  · rw [if_pos (L39.mpr o40)]; exact bad (by omega) (by omega)
  rw [if_neg (fun k => o40 (L39.mp k))]
  have i158 : ∀ x1 x2 x3 x5 x6 x7, bq_step_158 x1 x2 x3 (nI o) x5 x6 x7 ρ2 = bq_step_183 x1 x2 x3 (nI o) x5 x6 x7 ρ2 := by
    intro x1 x2 x3 x5 x6 x7
    unfold bq_step_158
    rw [if_neg e38]
  by_cases o39 : o = 39
  · rw [if_pos (E39.mpr o39), h2.at', n_ix (show 8 * s + p < 16 by omega) (by omega), n_cl (by omega)]
    have fi := h2.co.ih
    unfold bc_X2_step_79 bc_X2_step_100 bc_X2_step_202 fc_X2_isMemoryOp bc_X2_isMemoryOp_0 fc_X2_leap bc_X2_leap_0 bc_X2_leap_115
    simp only [L1, E39, E37, E36, H21, H29, H35, J22, J30, vl_eq, o1, show ¬ o < 22 by omega, show 21 < o by omega, show 29 < o by omega, show ¬ o < 30 by omega, show 35 < o by omega, show ¬ o = 36 by omega, show ¬ o = 37 by omega, eq_true o39, if_true, if_false, bd2_eq]
    rw [fi]
    by_cases c6 : ρ2.1 59 (8 * s + p) = 0
    · rw [if_pos c6, if_pos c6]
      unfold bq_step_177
      exact out2 (trp2 1)
    · rw [if_neg c6, if_neg c6]
      rw [i158, o39]
      unfold bq_step_183
      simp (decide := true) only [if_true, if_false, reduceIte]
      simp only [vl_eq]
      rw [h2.at', n_ix (show 8 * s + p < 16 by omega) (by omega), n_cl (by omega), ← h2.co.wh]
      have h3 := h2.f (j := 121) rfl (σ.1 (84 + 135 * s + 12 * p) 6 + 4)
      rw [h3.1.at', n_ix (show 8 * s + p < 16 by omega) (by omega), n_cl (by omega), nar_0]
      have h4 := h3.1.fl (f := 3) (by omega) (σ.1 (84 + 135 * s + 12 * p) 6 + 4)
      have h5 := h3.1.fl (f := 8) (by omega) 0
      have e8 : cfl 8 = 59 := rfl
      have e3 : cfl 3 = 54 := rfl
      rw [e8] at h5
      have s5 : (rf_w (rf_w ρ2 0 121 (σ.1 (84 + 135 * s + 12 * p) 6 + 4)) 59 (8 * s + p) 0).1 0 121 = σ.1 (84 + 135 * s + 12 * p) 6 + 4 := rfl
      rw [c_522 h5.1, s5]
      have h6 := h5.1.fl (f := 3) (by omega) (σ.1 (84 + 135 * s + 12 * p) 6 + 4)
      rw [e3] at h6
      refine out2 ?_
      have sw : cl_w (cl_w σ (84 + 135 * s + 12 * p) 8 0) (84 + 135 * s + 12 * p) 3 (σ.1 (84 + 135 * s + 12 * p) 6 + 4) = cl_w (cl_w σ (84 + 135 * s + 12 * p) 3 (σ.1 (84 + 135 * s + 12 * p) 6 + 4)) (84 + 135 * s + 12 * p) 8 0 := by
        unfold cl_w
        congr 1
        funext b j
        simp only [up2]
        by_cases q1 : b = 84 + 135 * s + 12 * p
        · by_cases q2 : j = 3
          · subst q2; simp [q1]
          · simp [q2]
        · simp [q1]
      rw [sw] at h6
      exact Sim.mk ⟨h6.1, (h3.2.trans h5.2).trans h6.2⟩
  rw [if_neg (fun k => o39 (E39.mp k)), i158, ed, era]
  by_cases g21 : o ≤ 21
  · unfold bc_X2_step_79
    rw [if_neg (fun k => o1 (L1.mp k)), if_neg (fun k => by have := H21.mp k; omega)]
    exact out2 (c_reckon h2 (by omega) hd hra ed era hpc' sf)
  have q183 : bq_step_183 (nI p) (nI q) w (nI o) (nI d) (nI ra) m ρ2 = (if 30 ≤ o then (if 36 ≤ o then (if o = 36 then bd1 (fq_give (nI d) (nI q + (4:Int32)) ρ2) (fun ρ_22 => bq_step_522 (rf_w ρ_22 0 121 (nI q + ((4:Int32) * m)))) else bd1 (fq_give (nI d) (nI q + (4:Int32)) (rf_w ρ2 0 121 (σ.1 (84 + 135 * s + 12 * p + 2) ra + m))) (fun ρ_21 => bq_step_522 ρ_21)) else bd2 (fq_branches (nI o) (σ.1 (84 + 135 * s + 12 * p + 2) d) (σ.1 (84 + 135 * s + 12 * p + 2) ra) ρ2) (fun r_29 ρ_28 => (if r_29 = 0 then bq_step_522 ρ_28 else bq_step_522 (rf_w ρ_28 0 121 (nI q + ((4:Int32) * m)))))) else q_mem (nI p) (nI o) (nI d) (σ.1 (84 + 135 * s + 12 * p + 2) ra + m) ρ2) := by
    unfold bq_step_183 q_mem
    simp only [G12, G21, G30, G36, E21, E36, E37, E38, vl_eq, c_reg h2 hd, c_reg h2 hra, bd2_eq, show 12 ≤ o by omega, show 21 ≤ o by omega, show ¬ o = 21 by omega, o38, if_true, if_false]
    by_cases g30 : 30 ≤ o
    · simp only [g30, if_true]
      by_cases g36 : 36 ≤ o
      · simp only [g36, if_true]
        by_cases e36 : o = 36
        · simp only [e36, if_true]
        · have e37 : o = 37 := by omega
          simp only [e37, if_true, if_false, Nat.reduceEqDiff]
      · simp only [g36, if_false]
    · simp only [g30, if_false]
  rw [q183]
  unfold bc_X2_step_79 bc_X2_step_100 bc_X2_step_202 bc_X2_step_195 fc_X2_isMemoryOp bc_X2_isMemoryOp_0 fc_X2_leap bc_X2_leap_0
  rw [ed, era]
  simp only [L1, E39, E37, E36, H21, H29, H35, J22, J30, vl_eq, nn_eq, o1, o39, show ¬ o < 22 by omega, show 21 < o by omega, if_true, if_false]
  by_cases g30 : 30 ≤ o
  · simp only [g30, show 29 < o by omega, show ¬ o < 30 by omega, if_true, if_false, bd2_eq]
    by_cases g36 : 36 ≤ o
    · simp only [g36, show 35 < o by omega, if_true]
      by_cases e36 : o = 36
      · simp only [e36, if_true]
        -- jump
        obtain ⟨σ1, ρ1', f1, f2, h1, F1, f3, f4⟩ := c_write h2 hd (nI q + 4)
        have h3 := h2.f (j := 121) rfl (nI q + 4 * m)
        have g0 := h2.fl (f := 3) (by omega) (nI q + 4 * m)
        rw [hpc']
        -- the class writes its place first, the reference last
        unfold fc_X2_write bc_X2_write_0 at f1 ⊢
        unfold fq_give bq_give_0 at f2 ⊢
        rw [h2.at'] at f2 ⊢
        have k1 : (16:Int32) * nI (8 * s + p) + nI d = nI (16 * (8 * s + p) + d) := by rw [li, n_mul, n_add]
        rw [k1] at f2 ⊢
        by_cases d0 : d = 0
        · subst d0
          rw [if_pos (show nI 0 = 0 from rfl), if_pos (show nI 0 = 0 from rfl), bd1_eq, bd1_eq]
          exact out2 (c_fin h3.1 h3.2 q_ws)
        · have d0' : ¬ nI d = 0 := by rw [i32_0, n_eq (by omega) (by omega)]; exact d0
          rw [if_neg d0', n_ix hd (by omega), n_cl (by omega), if_neg d0', n_ix (show 16 * (8 * s + p) + d < 256 by omega) (by omega), n_cl (by omega), vl_eq, vl_eq, bd1_eq, bd1_eq]
          have h5 := h2.rg hd (nI q + 4)
          have h6 := h5.1.f (j := 121) rfl (nI q + 4 * m)
          have h7 := h6.1.fl (f := 3) (by omega) (nI q + 4 * m)
          rw [bd1_eq, c_522 h6.1, q_ws]
          have sw : cl_w (cl_w σ (86 + 135 * s + 12 * p) d (nI q + 4)) (84 + 135 * s + 12 * p) 3 (nI q + 4 * m) = cl_w (cl_w σ (84 + 135 * s + 12 * p) 3 (nI q + 4 * m)) (84 + 135 * s + 12 * p + 2) d (nI q + 4) := by
            unfold cl_w
            congr 1
            funext b j
            simp only [up2]
            by_cases q1 : b = 84 + 135 * s + 12 * p
            · subst q1
              simp [show ¬ (84 + 135 * s + 12 * p = 86 + 135 * s + 12 * p) by omega, show ¬ (84 + 135 * s + 12 * p = 84 + 135 * s + 12 * p + 2) by omega]
            · simp [q1, show 86 + 135 * s + 12 * p = 84 + 135 * s + 12 * p + 2 by omega]
          rw [sw] at h7
          exact out2 (x := some _) (Sim.mk ⟨h7.1, (h5.2.trans h6.2).trans h7.2⟩)
      · have e37 : o = 37 := by omega
        simp only [e37, if_true, if_false, Nat.reduceEqDiff]
        rw [n_ix hra (by omega), n_cl (by omega), hpc']
        generalize σ.1 (84 + 135 * s + 12 * p + 2) ra + m = tgt
        have h3 := h2.f (j := 121) rfl tgt
        have g0 := h3.1.fl (f := 3) (by omega) tgt
        unfold fc_X2_write bc_X2_write_0
        unfold fq_give bq_give_0
        rw [h3.1.at']
        have k1 : (16:Int32) * nI (8 * s + p) + nI d = nI (16 * (8 * s + p) + d) := by rw [li, n_mul, n_add]
        rw [k1]
        by_cases d0 : d = 0
        · subst d0
          rw [if_pos (show nI 0 = 0 from rfl), if_pos (show nI 0 = 0 from rfl), bd1_eq, bd1_eq]
          exact out2 (c_fin h3.1 h3.2 q_ws)
        · have d0' : ¬ nI d = 0 := by rw [i32_0, n_eq (by omega) (by omega)]; exact d0
          rw [if_neg d0', n_ix hd (by omega), n_cl (by omega), if_neg d0', n_ix (show 16 * (8 * s + p) + d < 256 by omega) (by omega), n_cl (by omega), vl_eq, vl_eq, bd1_eq, bd1_eq]
          have h5 := h3.1.rg hd (nI q + 4)
          have h7 := h5.1.fl (f := 3) (by omega) tgt
          have s7 : (rf_w (rf_w ρ2 0 121 tgt) 53 (16 * (8 * s + p) + d) (nI q + 4)).1 0 121 = tgt := rfl
          rw [bd1_eq, c_522 h5.1, s7]
          have sw : cl_w (cl_w σ (86 + 135 * s + 12 * p) d (nI q + 4)) (84 + 135 * s + 12 * p) 3 tgt = cl_w (cl_w σ (84 + 135 * s + 12 * p) 3 tgt) (84 + 135 * s + 12 * p + 2) d (nI q + 4) := by
            unfold cl_w
            congr 1
            funext b j
            simp only [up2]
            by_cases q1 : b = 84 + 135 * s + 12 * p
            · subst q1
              simp [show ¬ (84 + 135 * s + 12 * p = 86 + 135 * s + 12 * p) by omega, show ¬ (84 + 135 * s + 12 * p = 84 + 135 * s + 12 * p + 2) by omega]
            · simp [q1, show 86 + 135 * s + 12 * p = 84 + 135 * s + 12 * p + 2 by omega]
          rw [sw] at h7
          exact out2 (x := some _) (Sim.mk ⟨h7.1, (h3.2.trans h5.2).trans h7.2⟩)
    · simp only [g36, show ¬ 35 < o by omega, if_false]
      rw [n_ix hd (by omega), n_ix hra (by omega), n_cl (by omega), n_cl (by omega)]
      obtain ⟨v, e1, e2⟩ := cmp_eq (o := o) (by omega) (σ.1 (84 + 135 * s + 12 * p + 2) d) (σ.1 (84 + 135 * s + 12 * p + 2) ra) σ ρ2
      rw [e1, e2, bd2_eq, bd2_eq, hpc']
      by_cases v0 : v = 0
      · rw [if_pos v0, if_pos v0]
        obtain ⟨u, v, e1, e2, q1⟩ := c_fin h2 CoF.refl sf
        cases e1
        exact ⟨_, v, rfl, e2, rfl, q1.1, F02.trans q1.2⟩
      · rw [if_neg v0, if_neg v0]
        have h3 := h2.f (j := 121) rfl (nI q + 4 * m)
        obtain ⟨u, v, e1, e2, q1⟩ := c_fin h3.1 h3.2 (v := nI q + 4 * m) q_ws
        cases e1
        exact ⟨_, v, rfl, e2, rfl, q1.1, F02.trans q1.2⟩
  · simp only [g30, show ¬ 29 < o by omega, if_false, bd2_eq]
    rw [if_neg (show ¬ (1:Int32) = 0 by decide), n_ix hra (by omega), n_cl (by omega)]
    exact out2 (c_access h2 (by omega) hd hpc' sf)
end Z2_C3
