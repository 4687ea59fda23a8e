section Z2_M2
variable {K : Bd} {W W' : Wd} {b : Bool} {k s p : Nat} {σ σ' : cl_S} {ρ ρ' : rf_S}
theorem char_id {n : Nat} (h : n < 65536) : vp_nar .char (nI n) = nI n := by
  show (nI n).toUInt32.toUInt16.toUInt32.toInt32 = nI n
  apply Int32.toBitVec_inj.mp
  unfold nI
  simp
  apply BitVec.eq_of_toNat_eq
  simp
  omega
theorem u_and255 (x : Int64) : (((x &&& (255:Int64)).toInt32).toUInt32 % 65536).toInt32 = nI (x.toBitVec.toNat % 256) := by
  apply Int32.toBitVec_inj.mp
  unfold nI
  simp
  apply BitVec.eq_of_toNat_eq
  simp
  rw [BitVec.signExtend_eq_setWidth_of_le _ (by omega), BitVec.toNat_setWidth, show (255:Nat) = 2 ^ 8 - 1 from rfl, Nat.and_two_pow_sub_one_eq_mod]
  omega
theorem b_and255 (x : Int64) : ((x.toInt32.toInt8.toInt32).toInt8.toInt32) &&& (255:Int32) = nI (x.toBitVec.toNat % 256) := by
  have k : ∀ z : BitVec 8, (z.signExtend 32) &&& 255#32 = BitVec.ofNat 32 z.toNat := by decide +kernel
  apply Int32.toBitVec_inj.mp
  unfold nI
  simp
  rw [k]
  rw [BitVec.signExtend_eq_setWidth_of_le _ (by omega), BitVec.toNat_setWidth]
/-- texts and rows change alone -/
theorem Rel.tx (h : Rel K W b k σ ρ) (cI : ∀ a, 30 < a → σ'.1 a = σ.1 a) (c0 : σ'.1 0 14 = σ.1 0 14) (cL7 : σ'.2.1 7 = σ.2.1 7) (cR : σ'.2.2.1 = σ.2.2.1) (cT : σ'.2.2.2 = σ.2.2.2) (hq : ∀ c, c ≠ 0 → (c < 16 ∨ 27 < c) → c < 77 → ρ'.1 c = ρ.1 c) (hf : ∀ j, use j → j ≠ 26 → j ≠ 28 → j ≠ 41 → j ≠ 43 → ρ'.1 0 j = ρ.1 0 j) (hl : ρ'.2 13 = ρ.2 13) (oA : OthA σ' ρ') : Rel K W b k σ' ρ' := by
  have sm : SmT σ σ' := ⟨fun a ha => ⟨cI a (by omega), by rw [cR]⟩, cT⟩
  have lo : ∀ a, pt W.ts a → (30 < a ∧ a < 38) ∨ 324 < a := by
    intro a ha
    rcases ha with rfl | ha
    · omega
    · have := h.T.C.mem a ha; omega
  have G : TGo W W σ σ' := ⟨Wd.le.refl W, fun a ha j _ => by rw [(sm.r a (lo a ha)).1], fun a ha j _ _ => by rw [(sm.r a (lo a ha)).2], h.T.L.inm, fun b _ => by rw [sm.t], by rw [sm.t]; exact Nat.le_refl _⟩
  have f : ∀ j, use j → j ≠ 26 → j ≠ 28 → j ≠ 41 → j ≠ 43 → ρ'.1 0 j = ρ.1 0 j := hf
  have hcf := h.cf.cf
  have M : ∀ s, s < 2 → MRel W s σ ρ → MRel W s σ' ρ' := by
    intro s hs m
    refine m.fr (Wd.le.refl W) hs (fun p hp => (m.pr p hp).fr G (fun i hi => cI _ (by omega)) (fun _ _ => by rw [cR]) (fun c j q => ?_)) (fun _ _ => by rw [cI _ (by omega)]) (fun _ => by rw [cI _ (by omega)]) (by rw [cR]) (fun _ _ _ => ⟨cI _ (by omega), by rw [cR]⟩) (cI _ (by omega)) (by rw [cR]) (fun c h1 h2 => by rw [hq c (by omega) (by omega) (by omega)]) (fun _ => hf 54 (by unfold use; omega) (by decide) (by decide) (by decide) (by decide)) (fun j _ _ => by rw [hq 71 (by omega) (by omega) (by omega)]) (fun c j hc _ _ => by rw [hq c (by omega) (by omega) (by omega)]) (fun c j hc _ _ => by rw [hq c (by omega) (by omega) (by omega)])
    have := q.out
    rw [hq c (by omega) (by omega) (by omega)]
  refine ⟨h.T.sm sm (fun c h1 h2 => hq c (by omega) (by omega) (by omega)) (fun j hj => hf j (by unfold use; omega) (by omega) (by omega) (by omega) (by omega)), h.st.fr (by rw [cR]) (fun s' _ => ⟨by rw [cR], by rw [cR], by rw [cR]⟩) (fun a _ => by rw [cT]) (fun s' p' hs' hp' => ⟨by rw [cI _ (by omega)], fun j hj => by rw [cI _ (by omega)]⟩) (by rw [cI 179 (by omega)]; exact h.st.re), h.cf.fr (Wd.le.refl W) (fun _ _ => cI _ (by omega)) (fun c _ _ => hq c (by omega) (by omega) (by omega)) (fun j hj => hf j (by unfold use; omega) (by omega) (by omega) (by omega) (by omega)), M 0 (by omega) h.m0, fun e => M 1 (by omega) (h.m1 e), oA, ?_, ?_, h.n0, h.nm.fr cL7 hl (hq 14 (by omega) (by omega) (by omega)) (hq 15 (by omega) (by omega) (by omega)), fun e => (h.fz e).fr rfl (fun c j h1 h2 _ => by rw [hq c (by omega) (by omega) h2]) (hf 110 (by unfold use; omega) (by decide) (by decide) (by decide) (by decide)) (hf 78 (by unfold use; omega) (by decide) (by decide) (by decide) (by decide))⟩
  · obtain ⟨⟨hh, B⟩, a2, a3, a4, a5, ⟨m, m1, m2, m3, E, m4, m5⟩, a7, a8⟩ := h.oB
    refine ⟨⟨hh, B.fr G (cI 38 (by omega)) (by rw [cR]) (cI 40 (by omega)) (fun j _ => by rw [hq 76 (by omega) (by omega) (by omega)]) (hf 110 (by unfold use; omega) (by decide) (by decide) (by decide) (by decide))⟩, by rw [cI 38 (by omega)]; exact a2, by rw [cI 45 (by omega), cR, hq 40 (by omega) (by omega) (by omega), hq 41 (by omega) (by omega) (by omega)]; exact a3, ?_, by rw [cI 47 (by omega), hf 51 (by unfold use; omega) (by decide) (by decide) (by decide) (by decide)]; exact a5, ⟨m, by rw [c0]; exact m1, by rw [hf 52 (by unfold use; omega) (by decide) (by decide) (by decide) (by decide)]; exact m2, by rw [hf 51 (by unfold use; omega) (by decide) (by decide) (by decide) (by decide)]; exact m3, E, by rw [hf 18 (by unfold use; omega) (by decide) (by decide) (by decide) (by decide)]; exact m4, m5⟩, by rw [cI 47 (by omega), hf 53 (by unfold use; omega) (by decide) (by decide) (by decide) (by decide)]; exact a7, by rw [cR]; exact a8⟩
    rw [cI 47 (by omega), hf 78 (by unfold use; omega) (by decide) (by decide) (by decide) (by decide), cI 79 (by omega), cI 80 (by omega), cI 81 (by omega), cR, hq 44 (by omega) (by omega) (by omega), hq 45 (by omega) (by omega) (by omega), hq 46 (by omega) (by omega) (by omega), hq 47 (by omega) (by omega) (by omega), hq 48 (by omega) (by omega) (by omega)]
    exact a4
  · have B := h.bd
    have e : ∀ s', phi s' ρ' = phi s' ρ := fun s' => phi_eq (fun g => by rw [hq 61 (by omega) (by omega) (by omega)]) (fun g => by rw [hq 69 (by omega) (by omega) (by omega)])
    exact ⟨by rw [e, e]; exact B.n, by rw [e, e]; exact B.l, by rw [cT]; exact B.c, by rw [cT]; exact B.s⟩
/-- a call that changes texts and rows alone -/
theorem RC.tx (h : RC k σ ρ) (hk : k < 64) (cI : ∀ a, 30 < a → σ'.1 a = σ.1 a) (c0 : σ'.1 0 14 = σ.1 0 14) (cL7 : σ'.2.1 7 = σ.2.1 7) (cR : σ'.2.2.1 = σ.2.2.1) (cT : σ'.2.2.2 = σ.2.2.2) (hq : ∀ c, c ≠ 0 → (c < 16 ∨ 27 < c) → c < 77 → ρ'.1 c = ρ.1 c) (hf : ∀ j, use j → j ≠ 26 → j ≠ 28 → j ≠ 41 → j ≠ 43 → ρ'.1 0 j = ρ.1 0 j) (hl : ρ'.2 13 = ρ.2 13) (oA : OthA σ' ρ') : RC (k + 1) σ' ρ' := by
  obtain ⟨W, R⟩ := h
  exact RC.of0 (R.next.tx cI c0 cL7 cR cT hq hf hl oA) hk (onF_le ρ)
theorem call_drop (h : RC k σ ρ) (hk : k < 64) (x : Int32) : CO k (fc_X11_drop 0 x σ) (fq_drop x ρ) := by
  obtain ⟨W, R⟩ := id h
  obtain ⟨m, ⟨hm, e1, e2⟩, e3⟩ := R.oA.rw
  unfold fc_X11_drop bc_X11_drop_0 fq_drop bq_drop_0
  refine CO.ite Iff.rfl (fun _ _ => CO.same h hk _) (fun c0 _ => ?_)
  rw [e1, e2]
  refine CO.ite Iff.rfl (fun c1 _ => ?_) (fun _ _ => CO.same h hk _)
  rcases n_cases x with hn | ⟨p, hp, rfl⟩
  · exact absurd hn c0
  have hpm : p ≤ m := (n_le hp (by omega)).mp c1
  rw [vln, vln, n_sub hpm, r_ws, q_ws]
  refine ⟨_, _, _, rfl, rfl, h.tx hk (fun a ha => r_w (by omega)) (r_wk (by decide)) rfl rfl rfl (fun c h1 _ _ => q_w h1) (fun j _ _ h2 _ _ => q_wk h2) rfl ?_⟩
  have A := R.oA
  refine ⟨by rw [r_w (by decide), r_w (by decide), q_wk (show (26:Nat) ≠ 28 by decide), q_w (by decide)]; exact A.tx, ⟨m - p, ⟨by omega, r_ws, q_ws⟩, fun j => by rw [r_w (by decide), q_w (by decide)]; exact e3 j⟩, fun i hi => by rw [r_w (by decide), r_w (by omega), q_w (by decide), q_w (by decide)]; exact A.kp i hi, by rw [r_w (by decide), r_w (by decide), q_wk (by decide), q_w (by decide)]; exact A.sh, by rw [r_w (by decide), q_wk (by decide)]; exact A.pl⟩
theorem call_feed (h : RC k σ ρ) (hk : k < 64) (x1 x2 x3 x4 : Int32) : CO k (fc_X11_feed 0 x1 x2 x3 x4 σ) (fq_feed x1 x2 x3 x4 ρ) := by
  obtain ⟨W, R⟩ := id h
  obtain ⟨m, ⟨hm, e1, e2⟩, e3⟩ := R.oA.rw
  unfold fc_X11_feed bc_X11_feed_0 fq_feed bq_feed_0
  have a1 : nI m + (1:Int32) = nI (m + 1) := n_add m 1
  have a2 : nI m + (2:Int32) = nI (m + 2) := n_add m 2
  have a3 : nI m + (3:Int32) = nI (m + 3) := n_add m 3
  have a4 : nI m + (4:Int32) = nI (m + 4) := n_add m 4
  rw [e1, e2, a4]
  refine CO.ite ?_ (fun c1 _ => ?_) (fun _ _ => CO.same h hk _)
  · rw [show (2048:Int32) = nI 2048 from rfl, show (2044:Int32) = nI 2044 from rfl, n_le (by omega) (by omega), n_le (by omega) (by omega)]; omega
  have hm4 : m + 4 ≤ 2048 := (n_le (a := m + 4) (b := 2048) (by omega) (by omega)).mp c1
  have z : ∀ {τ : cl_S} {j : Nat} {v : Int32}, (cl_w τ 18 j v).1 0 4 = τ.1 0 4 := fun {τ j v} => by rw [r_w (by decide)]
  have zq : ∀ {τ : rf_S} {j : Nat} {v : Int32}, (rf_w τ 17 j v).1 0 28 = τ.1 0 28 := fun {τ j v} => by rw [q_w (by decide)]
  simp only [vln, z, zq, e1, e2, a1, a2, a3, a4, n_ix (show m < 2048 by omega) (show 2048 < 2147483648 by omega), n_ix (show m + 1 < 2048 by omega) (show 2048 < 2147483648 by omega), n_ix (show m + 2 < 2048 by omega) (show 2048 < 2147483648 by omega), n_ix (show m + 3 < 2048 by omega) (show 2048 < 2147483648 by omega), n_cl (show m < 2147483648 by omega), n_cl (show m + 1 < 2147483648 by omega), n_cl (show m + 2 < 2147483648 by omega), n_cl (show m + 3 < 2147483648 by omega), r_ws, q_ws]
  have A := R.oA
  refine ⟨_, _, _, rfl, rfl, h.tx hk (fun a ha => by rw [r_w (by omega), r_w (by omega), r_w (by omega), r_w (by omega), r_w (by omega)]) (by rw [r_wk (by decide), r_w (by decide), r_w (by decide), r_w (by decide), r_w (by decide)]) rfl rfl rfl (fun c h1 h2 _ => by rw [q_w h1, q_w (by omega), q_w (by omega), q_w (by omega), q_w (by omega)]) (fun j _ _ h2 _ _ => by rw [q_wk h2, q_w (by decide), q_w (by decide), q_w (by decide), q_w (by decide)]) rfl ?_⟩
  have c1' : ∀ a, a ≠ 0 → a ≠ 18 → (cl_w (cl_w (cl_w (cl_w (cl_w σ 18 m x1) 18 (m + 1) x2) 18 (m + 2) x3) 18 (m + 3) x4) 0 4 (nI (m + 4))).1 a = σ.1 a := fun a h0 h1 => by rw [r_w h0, r_w h1, r_w h1, r_w h1, r_w h1]
  have q1' : ∀ c, c ≠ 0 → c ≠ 17 → (rf_w (rf_w (rf_w (rf_w (rf_w ρ 17 m x1) 17 (m + 1) x2) 17 (m + 2) x3) 17 (m + 3) x4) 0 28 (nI (m + 4))).1 c = ρ.1 c := fun a h0 h1 => by rw [q_w h0, q_w h1, q_w h1, q_w h1, q_w h1]
  have f1' : ∀ j, j ≠ 28 → (rf_w (rf_w (rf_w (rf_w (rf_w ρ 17 m x1) 17 (m + 1) x2) 17 (m + 2) x3) 17 (m + 3) x4) 0 28 (nI (m + 4))).1 0 j = ρ.1 0 j := fun j h0 => by rw [q_wk h0, q_w (by decide), q_w (by decide), q_w (by decide), q_w (by decide)]
  refine ⟨by rw [c1' 1 (by decide) (by decide), c1' 2 (by decide) (by decide), q1' 16 (by decide) (by decide), f1' 26 (by decide)]; exact A.tx, ⟨m + 4, ⟨by omega, r_ws, q_ws⟩, fun j => ?_⟩, fun i hi => by rw [c1' 30 (by decide) (by decide), c1' (20 + i) (by omega) (by omega), q1' 27 (by decide) (by decide), q1' 26 (by decide) (by decide)]; exact A.kp i hi, by rw [c1' 6 (by decide) (by decide), c1' 14 (by decide) (by decide), f1' 43 (by decide), q1' 25 (by decide) (by decide)]; exact A.sh, by rw [c1' 6 (by decide) (by decide), f1' 41 (by decide)]; exact A.pl⟩
  rw [r_w (by decide), q_w (by decide)]
  simp only [g_w, g_q, true_and]
  rw [e3 j]
/-- octets -/
theorem call_type (h : RC k σ ρ) (hk : k < 64) (v : Int64) (x : Int32) : CO k (fc_X11_type 0 v x σ) (fq_type v x ρ) := by
  obtain ⟨W, R⟩ := id h
  unfold fc_X11_type bc_X11_type_0 fq_type bq_type_0
  refine CO.ite Iff.rfl (fun _ _ => CO.same h hk _) (fun c0 _ => ?_)
  refine CO.ite Iff.rfl (fun c8 _ => ?_) (fun _ _ => CO.same h hk _)
  rcases n_cases x with hx | ⟨u, hu, rfl⟩
  · exact absurd hx c0
  have hu8 : u ≤ 8 := (n_le (a := u) (b := 8) hu (by omega)).mp c8
  -- the loop
  have lpp : ∀ m : Nat, ∀ (u t : Nat) (τ : cl_S) (τq : rf_S), u = m → t + u ≤ 6000 → Cnt (τ.1 1 1) (τq.1 0 26) 6000 t → (∀ j, τ.1 2 j = τq.1 16 j &&& 255) → ∃ z z', lp (fun z : (Int32 × cl_S) => lc_X4_addOctets_29 1 v z.1 z.2) (nI u - 1, τ) = some z ∧ lp (fun z : (Int32 × rf_S) => lq_type_42 v z.1 z.2) (nI u - 1, τq) = some z' ∧ Cnt (z.2.1 1 1) (z'.2.1 0 26) 6000 (t + u) ∧ (∀ j, z.2.1 2 j = z'.2.1 16 j &&& 255) ∧ (∀ a, a ≠ 1 → a ≠ 2 → z.2.1 a = τ.1 a) ∧ z.2.2 = τ.2 ∧ (∀ c, c ≠ 0 → c ≠ 16 → z'.2.1 c = τq.1 c) ∧ z'.2.2 = τq.2 ∧ (∀ j, j ≠ 26 → z'.2.1 0 j = τq.1 0 j) := by
    intro m
    induction m with
    | zero =>
      intro u t τ τq hu ht hC hj
      subst hu
      have e1 : lc_X4_addOctets_29 1 v (nI 0 - 1) τ = some (.inr (nI 0 - 1, τ)) := by unfold lc_X4_addOctets_29; rw [if_pos (by decide)]
      have e2 : lq_type_42 v (nI 0 - 1) τq = some (.inr (nI 0 - 1, τq)) := by unfold lq_type_42; rw [if_pos (by decide)]
      exact ⟨_, _, lp_end e1, lp_end e2, hC, hj, fun _ _ _ => rfl, rfl, fun _ _ _ => rfl, rfl, fun _ _ => rfl⟩
    | succ m ih =>
      intro u t τ τq hu ht hC hj
      subst hu
      obtain ⟨ht6, c1, c2⟩ := hC
      have su : nI (m + 1) - (1:Int32) = nI m := n_sub (a := m + 1) (b := 1) (by omega)
      have sm : nI m + (-1:Int32) = nI m - 1 := (Int32.sub_eq_add_neg _ _).symm
      have st : nI t + (1:Int32) = nI (t + 1) := n_add t 1
      rw [su]
      have e1 : lc_X4_addOctets_29 1 v (nI m) τ = some (.inl (nI m - 1, cl_w (cl_w τ 2 t (nI ((v.toUInt64 >>> (((8:Int32) * nI m).toInt64.toUInt64 &&& Int64.toUInt64 63)).toInt64.toBitVec.toNat % 256))) 1 1 (nI (t + 1)))) := by
        unfold lc_X4_addOctets_29
        rw [if_neg (n_nneg (by omega)), c1, n_ix (show t < 6000 by omega) (by omega), n_cl (show t < 2147483648 by omega), u_and255, char_id (by omega), vln, r_w (by decide), c1, st, vln, vln, sm]
      have e2 : lq_type_42 v (nI m) τq = some (.inl (nI m - 1, rf_w (rf_w τq 16 t (((v.toUInt64 >>> (((8:Int32) * nI m).toInt64.toUInt64 &&& Int64.toUInt64 63)).toInt64).toInt32.toInt8.toInt32).toInt8.toInt32) 0 26 (nI (t + 1)))) := by
        unfold lq_type_42
        rw [if_neg (n_nneg (by omega)), c2, n_ix (show t < 6000 by omega) (by omega), n_cl (show t < 2147483648 by omega), vln, q_w (by decide), c2, st, vln, vln, sm]
      obtain ⟨z, z', f1, f2, f3, f4, f5, f6, f7, f8, f9⟩ := ih m (t + 1) (cl_w (cl_w τ 2 t (nI ((v.toUInt64 >>> (((8:Int32) * nI m).toInt64.toUInt64 &&& Int64.toUInt64 63)).toInt64.toBitVec.toNat % 256))) 1 1 (nI (t + 1))) (rf_w (rf_w τq 16 t (((v.toUInt64 >>> (((8:Int32) * nI m).toInt64.toUInt64 &&& Int64.toUInt64 63)).toInt64).toInt32.toInt8.toInt32).toInt8.toInt32) 0 26 (nI (t + 1))) rfl (by omega) ⟨by omega, r_ws, q_ws⟩ (by
        intro j
        rw [r_w (by decide), q_w (by decide), g_w, g_q]
        simp only [true_and]
        by_cases c : j = t
        · rw [if_pos c, if_pos c, b_and255]
        · rw [if_neg c, if_neg c]; exact hj j)
      refine ⟨z, z', by rw [lp_next e1]; exact f1, by rw [lp_next e2]; exact f2, by rw [show t + (m + 1) = t + 1 + m by omega]; exact f3, f4, fun a h1 h2 => by rw [f5 a h1 h2, r_w h1, r_w h2], by rw [f6]; rfl, fun c h1 h2 => by rw [f7 c h1 h2, q_w h1, q_w h2], by rw [f8]; rfl, fun j h1 => by rw [f9 j h1, q_wk h1, q_w (by decide)]⟩
  have fin : ∀ (t : Nat) (τ : cl_S) (τq : rf_S), Cnt (τ.1 1 1) (τq.1 0 26) 6000 t → (∀ j, τ.1 2 j = τq.1 16 j &&& 255) → (∀ a j, ¬ (a = 1 ∧ j = 1) → τ.1 a j = σ.1 a j) → τ.2 = σ.2 → (∀ c, c ≠ 0 → τq.1 c = ρ.1 c) → τq.2 = ρ.2 → (∀ j, j ≠ 26 → τq.1 0 j = ρ.1 0 j) → CO k (bd2 (bc_X4_addOctets_9 1 v (nI u) τ) (fun r_3 σ_2 => some (r_3, σ_2))) (bq_type_22 v (nI u) τq) := by
    intro t τ τq hC hj g1 g2 g3 g4 g5
    have A := R.oA
    unfold bc_X4_addOctets_9 bq_type_22
    rw [hC.2.1, hC.2.2]
    have rest : ∀ (τ' : cl_S) (τq' : rf_S) (t' : Nat), Cnt (τ'.1 1 1) (τq'.1 0 26) 6000 t' → (∀ j, τ'.1 2 j = τq'.1 16 j &&& 255) → (∀ a, a ≠ 1 → a ≠ 2 → τ'.1 a = τ.1 a) → τ'.2 = τ.2 → (∀ c, c ≠ 0 → c ≠ 16 → τq'.1 c = τq.1 c) → τq'.2 = τq.2 → (∀ j, j ≠ 26 → τq'.1 0 j = τq.1 0 j) → RC (k + 1) τ' τq' := by
      intro τ' τq' t' k1 k2 k3 k4 k5 k6 k7
      have cI : ∀ a, a ≠ 1 → a ≠ 2 → τ'.1 a = σ.1 a := fun a h1 h2 => by rw [k3 a h1 h2]; exact funext fun j => g1 a j (by omega)
      have qI : ∀ c, c ≠ 0 → c ≠ 16 → τq'.1 c = ρ.1 c := fun c h1 h2 => by rw [k5 c h1 h2, g3 c h1]
      have fI : ∀ j, j ≠ 26 → τq'.1 0 j = ρ.1 0 j := fun j h1 => by rw [k7 j h1, g5 j h1]
      refine h.tx hk (fun a ha => cI a (by omega) (by omega)) (by rw [cI 0 (by decide) (by decide)]) (by rw [k4, g2]) (by rw [k4, g2]) (by rw [k4, g2]) (fun c h1 h2 _ => qI c h1 (by omega)) (fun j _ h1 _ _ _ => fI j h1) (by rw [k6, g4]) ?_
      exact ⟨⟨t', k1, k2⟩, by rw [cI 0 (by decide) (by decide), cI 18 (by decide) (by decide), fI 28 (by decide), qI 17 (by decide) (by decide)]; exact A.rw, fun i hi => by rw [cI 30 (by decide) (by decide), cI (20 + i) (by omega) (by omega), qI 27 (by decide) (by decide), qI 26 (by decide) (by decide)]; exact A.kp i hi, by rw [cI 6 (by decide) (by decide), cI 14 (by decide) (by decide), fI 43 (by decide), qI 25 (by decide) (by decide)]; exact A.sh, by rw [cI 6 (by decide) (by decide), fI 41 (by decide)]; exact A.pl⟩
    by_cases c6 : nI t + nI u ≤ 6000
    · rw [if_pos c6, if_pos c6, vln, vln]
      have ht6 : t + u ≤ 6000 := by
        have := hC.1
        rw [n_add, show (6000:Int32) = nI 6000 from rfl, n_le (by omega) (by omega)] at c6; exact c6
      obtain ⟨z, z', f1, f2, f3, f4, f5, f6, f7, f8, f9⟩ := lpp u u t τ τq rfl ht6 hC hj
      unfold bc_X4_addOctets_29 bq_type_42
      rw [f1, f2]
      refine ⟨z.2.1 1 1, z.2, z'.2, rfl, ?_, rest z.2 z'.2 (t + u) f3 f4 f5 f6 f7 f8 f9⟩
      show some (z'.2.1 0 26, z'.2) = _
      rw [f3.2.1, f3.2.2]
    · rw [if_neg c6, if_neg c6, bd2n]
      exact ⟨-4, τ, τq, rfl, rfl, rest τ τq t hC hj (fun _ _ _ => rfl) rfl (fun _ _ _ => rfl) rfl (fun _ _ => rfl)⟩
  obtain ⟨t, hC, hj⟩ := R.oA.tx
  unfold fc_X4_addOctets bc_X4_addOctets_0
  by_cases cu : u = 0
  · subst cu
    rw [if_pos (show nI 0 = 0 from rfl), if_pos (show nI 0 = 0 from rfl), vln, vln]
    exact fin 0 _ _ ⟨by omega, r_ws, q_ws⟩ (fun j => by rw [r_w (by decide), q_w (by decide)]; exact hj j) (fun a j hq => by rw [g_w, if_neg hq]) rfl (fun c hc => q_w hc) rfl (fun j hj => q_wk hj)
  · have : ¬ nI u = 0 := fun q => cu ((n_eq (a := u) (b := 0) (by omega) (by omega)).mp q)
    rw [if_neg this, if_neg this]
    exact fin t σ ρ hC hj (fun _ _ _ => rfl) rfl (fun _ _ => rfl) rfl (fun _ _ => rfl)
end Z2_M2
