section Z2_LF
variable {K : Bd} {W W' : Wd} {b : Bool} {k s p : Nat} {σ σ' : cl_S} {ρ ρ' : rf_S}
/-- the key of a partition's seals, on both sides -/
theorem seal_key (T : TermR W.n0 σ ρ W.ts W.tm W.N) {a mt sk : Nat} (ha : a < W.N) (hmt : mt < W.N) (h1 : sk ∈ W.ts) (h3 : σ.1 sk 0 = nI 9) (h4 : σ.2.2.1 sk 3 = some 34) (h5 : σ.2.2.1 sk 4 = some (W.tm mt)) : W.tm a = sk ↔ ρ.1 1 a = nI 9 ∧ ρ.1 2 a = nI 0 ∧ ρ.1 3 a = nI mt := by
  have hN := T.Q.n.2
  obtain ⟨k1, k2, -⟩ := T.k0
  refine ⟨?_, ?_⟩
  · rintro rfl
    have e1 : ρ.1 1 a = nI 9 := by rw [← T.L.kd a ha]; exact h3
    obtain ⟨x, hx, ex, rx⟩ := T.prA (kk := 9) ha (by omega) e1
    obtain ⟨y, hy, ey, ry⟩ := T.prB (kk := 9) ha (by omega) (by omega) (by omega) e1
    rw [h4, ← k2] at rx
    rw [h5] at ry
    have q1 := T.L.inj 0 x (by omega) hx (Option.some.inj rx)
    have q2 := T.L.inj mt y hmt hy (Option.some.inj ry)
    exact ⟨e1, by rw [ex, ← q1], by rw [ey, ← q2]⟩
  · rintro ⟨e1, e2, e3⟩
    obtain ⟨x, hx, ex, rx⟩ := T.prA (kk := 9) ha (by omega) e1
    obtain ⟨y, hy, ey, ry⟩ := T.prB (kk := 9) ha (by omega) (by omega) (by omega) e1
    have q1 : x = 0 := (n_eq (by omega) (by omega)).mp (ex.symm.trans e2)
    have q2 : y = mt := (n_eq (by omega) (by omega)).mp (ey.symm.trans e3)
    subst q1; subst q2
    have sh : ∀ d, d ∈ W.ts → σ.1 d 0 = nI 9 → σ.1 d 1 = 0 ∧ σ.2.2.1 d 5 = some 33 := by
      intro d hd ed
      obtain ⟨kd, hk, ek, hs, hn⟩ := T.C.kd d hd
      have : kd = 9 := (n_eq (by omega) (by omega)).mp (ek.symm.trans ed)
      subst this
      unfold shp at hs
      rw [if_neg (by omega), if_neg (by omega), if_neg (by omega)] at hs
      exact ⟨hn (by omega), hs.2.2⟩
    have ea : σ.1 (W.tm a) 0 = nI 9 := by rw [T.L.kd a ha]; exact e1
    have s1 := sh _ (T.L.inm a ha) ea
    have s2 := sh sk h1 h3
    refine T.C.uq _ (T.L.inm a ha) sk h1 (by rw [ea]; decide) ⟨ea.trans h3.symm, s1.1.trans s2.1.symm, ?_, ry.trans h5.symm, s1.2.trans s2.2.symm⟩
    rw [rx, k2]; exact h4.symm
theorem vln {α β : Type} (a : α) (f : α → β) : vl a f = f a := Eq.trans (vl_eq a f) (Eq.refl _)
theorem Ak.isR (h : Ak K W b k s p σ ρ) {i : Nat} (hi : i < 64) (x : Int32) : ∃ v, (v = 0 ∨ v = 1) ∧ fc_X3_isRight (41 + 139 * s) (nI i) x (σ.2.2.1 (83 + 135 * s + 12 * p) 17) σ = some (v, σ) ∧ fq_isRight x (nI (64 * s + i)) ρ = some (v, ρ) ∧ (v = 1 → ∃ t, t < W.N ∧ σ.2.2.1 (43 + 139 * s) i = some (W.tm t) ∧ ρ.1 75 (64 * s + i) = nI t ∧ ρ.1 1 t = nI 8) := by
  have s2 := h.s2
  have p8 := h.p8
  have T := h.R.T
  have hN := T.Q.n.2
  obtain ⟨v1, v2, -⟩ := h.M.dk i hi
  obtain ⟨k1, k2, -, -, kd0, -, -⟩ := T.k0
  obtain ⟨mt, hmt, em1, em2⟩ := h.P.ms.ms
  obtain ⟨sk, h1, h2, h3, h4, h5⟩ := h.P.ms.sk
  rw [em2] at h5
  have l0 : ¬ nI i < 0 := n_nneg (by omega)
  have l1 : nI i < (64:Int32) := (n_lt (a := i) (b := 64) (by omega) (by omega)).mpr hi
  unfold fc_X3_isRight bc_X3_isRight_0 fq_isRight bq_isRight_0
  simp only [vln]
  rw [if_neg l0, if_pos l1, n_ix hi (by omega), n_cl (show i < 2147483648 by omega), show 41 + 139 * s + 2 = 43 + 139 * s by omega, show 41 + 139 * s + 1 = 42 + 139 * s by omega, n_ix (show 64 * s + i < 128 by omega) (by omega), n_cl (show 64 * s + i < 2147483648 by omega), h2]
  have no : ∀ {P : Prop}, (0:Int32) = 1 → P := fun q => absurd q (by decide)
  rcases v2 with ⟨f1, f2⟩ | ⟨t, ht, f1, f2⟩
  · rw [f1, f2, if_pos (by decide), nn_eq, T.C.non.1, if_neg (by decide)]
    exact ⟨0, Or.inl rfl, rfl, rfl, no⟩
  rw [f1, f2, if_neg (n_nneg (by omega)), nn_eq, n_ix (show t < 112000 by omega) (by omega), n_cl (show t < 2147483648 by omega), T.L.kd t ht]
  by_cases c8 : ρ.1 1 t = (8:Int32)
  rotate_left
  · rw [if_neg c8, if_neg c8]; exact ⟨0, Or.inl rfl, rfl, rfl, no⟩
  obtain ⟨a, ha, ea, ra⟩ := T.prA (kk := 8) ht (by omega) c8
  obtain ⟨n, hn, en, rn⟩ := T.prB (kk := 8) ht (by omega) (by omega) (by omega) c8
  have sky := seal_key T ha hmt h1 h3 h4 h5
  rw [if_pos c8, if_pos c8, n_ix (show t < 112000 by omega) (by omega), ea, n_ix (show t < 112000 by omega) (by omega), en, ra, n_ix (show a < 112000 by omega) (by omega), n_cl (show a < 2147483648 by omega), kd0, h.me, n_ix p8 (by omega), n_cl (show p < 2147483648 by omega), em1]
  by_cases csk : W.tm a = sk
  rotate_left
  · rw [if_neg (fun q => csk (Option.some.inj q))]
    refine ⟨0, Or.inl rfl, rfl, ?_, no⟩
    by_cases q1 : ρ.1 1 a = (9:Int32)
    · rw [if_pos q1, n_ix (show a < 112000 by omega) (by omega)]
      by_cases q2 : ρ.1 2 a = nI 0
      · rw [if_pos q2, n_ix (show a < 112000 by omega) (by omega)]
        by_cases q3 : ρ.1 3 a = nI mt
        · exact absurd (sky.mpr ⟨q1, q2, q3⟩) csk
        · rw [if_neg q3]
      · rw [if_neg q2]
    · rw [if_neg q1]
  obtain ⟨q1, q2, q3⟩ := sky.mp csk
  have q1' : ρ.1 1 a = (9:Int32) := q1
  rw [if_pos (show some (W.tm a) = some sk by rw [csk]), rn, nn_eq, T.L.kd n hn, if_pos q1', n_ix (show a < 112000 by omega) (by omega), if_pos q2, n_ix (show a < 112000 by omega) (by omega), if_pos q3, n_ix (show n < 112000 by omega) (by omega), n_cl (show n < 2147483648 by omega)]
  by_cases c3 : ρ.1 1 n = (3:Int32)
  rotate_left
  · rw [if_neg c3, if_neg c3]; exact ⟨0, Or.inl rfl, rfl, rfl, no⟩
  obtain ⟨f, hf, ef, rf⟩ := T.prA (kk := 3) hn (by omega) c3
  obtain ⟨g, hg, eg, rg⟩ := T.prB (kk := 3) hn (by omega) (by omega) (by omega) c3
  rw [if_pos c3, if_pos c3, n_ix (show n < 112000 by omega) (by omega), ef, n_ix (show n < 112000 by omega) (by omega), eg, nn_eq, rf, nn_eq, rg, nn_eq, T.L.kd f hf, n_ix (show f < 112000 by omega) (by omega), n_cl (show f < 2147483648 by omega)]
  by_cases c0 : ρ.1 1 f = 0
  rotate_left
  · rw [if_neg c0, if_neg c0]; exact ⟨0, Or.inl rfl, rfl, rfl, no⟩
  rw [if_pos c0, if_pos c0, T.L.nu f hf c0, n_ix (show f < 112000 by omega) (by omega)]
  by_cases cx : ρ.1 2 f = x
  rotate_left
  · rw [if_neg cx, if_neg cx]; exact ⟨0, Or.inl rfl, rfl, rfl, no⟩
  rw [if_pos cx, if_pos cx, nn_eq, T.L.kd g hg, n_ix (show g < 112000 by omega) (by omega), n_cl (show g < 2147483648 by omega)]
  by_cases c0' : ρ.1 1 g = 0
  rotate_left
  · rw [if_neg c0', if_neg c0']; exact ⟨0, Or.inl rfl, rfl, rfl, no⟩
  rw [if_pos c0', if_pos c0', T.L.nu g hg c0', n_ix hi (by omega), v1, n_ix (show g < 112000 by omega) (by omega), n_ix (show 64 * s + i < 128 by omega) (by omega)]
  by_cases cv : ρ.1 2 g = ρ.1 74 (64 * s + i)
  · rw [if_pos cv, if_pos cv]
    exact ⟨1, Or.inr rfl, rfl, rfl, fun _ => ⟨t, ht, rfl, rfl, c8⟩⟩
  · rw [if_neg cv, if_neg cv]
    exact ⟨0, Or.inl rfl, rfl, rfl, no⟩
/-- the BLOCK that counts -/
theorem Ak.cnt (h : Ak K W b k s p σ ρ) {x : Nat} (hx : x < W.ar p) : ((fc_X5_countingBlock (47 + 132 * s) (some (83 + 135 * s + 12 * p)) (nI x) σ = some (-1, σ) ∧ fq_counts (nI x) ρ = some (-1, ρ)) ∨ ∃ i, i < 64 ∧ fc_X5_countingBlock (47 + 132 * s) (some (83 + 135 * s + 12 * p)) (nI x) σ = some (nI i, σ) ∧ fq_counts (nI x) ρ = some (nI (64 * s + i), ρ) ∧ ∃ t, t < W.N ∧ σ.2.2.1 (43 + 139 * s) i = some (W.tm t) ∧ ρ.1 75 (64 * s + i) = nI t ∧ ρ.1 1 t = nI 8) ∧ fc_X5_firstCopy (47 + 132 * s) (nI p) (nI x) σ = some (nI (2 * (W.ad p + x)), σ) ∧ ∀ c, c ≤ 1 → fq_blockOf (nI x) (nI c) ρ = some (nI (64 * s + 2 * (W.ad p + x) + c), ρ) := by
  have s2 := h.s2
  have p8 := h.p8
  obtain ⟨⟨b1, b2, b3, b4, b5⟩, d1, d2, d3, d4, d5, d6, d7⟩ := h.R.cf.pa p h.hp
  have dp := h.R.st.dp s s2
  have cp := h.M.cp
  have ci := h.P.co.ix
  have fcp : fc_X5_firstCopy (47 + 132 * s) (nI p) (nI x) σ = some (nI (2 * (W.ad p + x)), σ) := by
    unfold fc_X5_firstCopy bc_X5_firstCopy_0
    rw [cp, vl_eq, nn_eq, n_ix p8 (by omega), n_cl (by omega), d6, n_add, show (2:Int32) = nI 2 from rfl, n_mul]
  have bo : ∀ c, c ≤ 1 → fq_blockOf (nI x) (nI c) ρ = some (nI (64 * s + 2 * (W.ad p + x) + c), ρ) := by
    intro c hc
    unfold fq_blockOf bq_blockOf_0
    rw [h.me, n_ix p8 (by omega), n_cl (by omega), d7, h.sd, n_add, show (2:Int32) = nI 2 from rfl, n_mul, show (64:Int32) = nI 64 from rfl, n_mul, n_add, n_add]
  refine ⟨?_, fcp, bo⟩
  have bo0 : fq_blockOf (nI x) (0:Int32) ρ = some (nI (64 * s + 2 * (W.ad p + x)), ρ) := bo 0 (by omega)
  unfold fc_X5_countingBlock bc_X5_countingBlock_0 fc_X3_counting bc_X3_counting_0 bc_X3_counting_55 fq_counts bq_counts_0 bq_counts_54
  rw [dp, vl_eq, nn_eq, ci, fcp, bd2_eq, vl_eq, nn_eq, bo0, bd2_eq]
  obtain ⟨v, hv, e1, e2, e3⟩ := h.isR (i := 2 * (W.ad p + x)) (by omega) (nI x)
  obtain ⟨w, hw, f1, f2, f3⟩ := h.isR (i := 2 * (W.ad p + x) + 1) (by omega) (nI x)
  have k1 : nI (2 * (W.ad p + x)) + (1:Int32) = nI (2 * (W.ad p + x) + 1) := n_add _ 1
  have k2 : nI (64 * s + 2 * (W.ad p + x)) + (1:Int32) = nI (64 * s + (2 * (W.ad p + x) + 1)) := by rw [show (1:Int32) = nI 1 from rfl, n_add]; congr 1
  have z1 : ¬ (1:Int32) = 0 := by decide
  rw [e1, e2, bd2_eq, bd2_eq, k1, k2, f1, f2, bd2_eq, bd2_eq]
  rcases hv with rfl | rfl
  · rw [if_pos rfl, if_pos rfl, if_pos rfl]
    rcases hw with rfl | rfl
    · left; rw [if_pos rfl, if_pos rfl, bd2_eq]; exact ⟨rfl, rfl⟩
    · right
      rw [if_neg z1, if_neg z1, bd2_eq]
      exact ⟨_, by omega, rfl, rfl, f3 rfl⟩
  · rw [if_neg z1, if_neg z1]
    rcases hw with rfl | rfl
    · right
      rw [if_pos rfl, if_neg z1, if_pos rfl, bd2_eq]
      exact ⟨_, by omega, rfl, rfl, e3 rfl⟩
    · have m1 := (h.M.dk (2 * (W.ad p + x)) (by omega)).1
      have m2 := (h.M.dk (2 * (W.ad p + x) + 1) (by omega)).1
      rw [if_neg z1, if_neg z1, n_ix (show 2 * (W.ad p + x) + 1 < 64 by omega) (by omega), n_ix (show 2 * (W.ad p + x) < 64 by omega) (by omega), n_cl (by omega), n_cl (by omega), show 41 + 139 * s + 1 = 42 + 139 * s by omega, m1, m2, n_ix (show 64 * s + 2 * (W.ad p + x) < 128 by omega) (by omega), n_ix (show 64 * s + (2 * (W.ad p + x) + 1) < 128 by omega) (by omega), n_cl (by omega), n_cl (by omega)]
      by_cases c : ρ.1 74 (64 * s + (2 * (W.ad p + x) + 1)) ≤ ρ.1 74 (64 * s + 2 * (W.ad p + x))
      · right
        rw [if_pos c, if_neg (Int32.not_lt.mpr c), bd2_eq]
        exact ⟨_, by omega, rfl, rfl, e3 rfl⟩
      · right
        rw [if_neg c, if_pos (Int32.not_le.mp c), if_neg z1, bd2_eq]
        exact ⟨_, by omega, rfl, rfl, f3 rfl⟩
/-- is there such a BLOB -/
theorem Ak.blob (h : Ak K W b k s p σ ρ) (x : Int32) : (∃ q, q < W.ar p ∧ x = nI q ∧ fc_X5_hasBlob (47 + 132 * s) (some (83 + 135 * s + 12 * p)) x σ = some (1, σ) ∧ ¬ x < 0 ∧ x < ρ.1 30 p) ∨ (fc_X5_hasBlob (47 + 132 * s) (some (83 + 135 * s + 12 * p)) x σ = some (0, σ) ∧ (x < 0 ∨ ¬ x < ρ.1 30 p)) := by
  have p8 := h.p8
  obtain ⟨⟨b1, b2, b3, b4, b5⟩, d1, d2, d3, d4, d5, d6, d7⟩ := h.R.cf.pa p h.hp
  unfold fc_X5_hasBlob bc_X5_hasBlob_0
  by_cases c0 : x < 0
  · right; rw [if_pos c0]; exact ⟨rfl, Or.inl c0⟩
  rw [if_neg c0, h.M.cp, vl_eq, nn_eq, nn_eq, h.P.co.ix, n_ix p8 (by omega), n_cl (by omega), d4, d5]
  by_cases c1 : nI (W.ar p) ≤ x
  · right; rw [if_pos c1]; exact ⟨rfl, Or.inr (Int32.not_lt.mpr c1)⟩
  · left
    rcases n_cases x with hn | ⟨q, hq, rfl⟩
    · exact absurd hn c0
    rw [if_neg c1]
    refine ⟨q, ?_, rfl, rfl, c0, Int32.not_le.mp c1⟩
    rw [n_le (by omega) hq] at c1; omega
theorem ask_version (h : Ak K W b k s p σ ρ) (x : Int32) : Sim (fc_X5_versionThatCounts (47 + 132 * s) (some (83 + 135 * s + 12 * p)) x σ) (if x < 0 then some ((-1:Int32), ρ) else if x < ρ.1 30 p then bd2 (fq_counts x ρ) (fun r_2 ρ_1 => (if 0 ≤ r_2 then ix r_2 128 (some ((ρ_1.1 74 r_2.toNatClampNeg), ρ_1)) else some ((0:Int32), ρ_1))) else some ((-1:Int32), ρ)) (AkO K W b k s p ρ) := by
  have s2 := h.s2
  have z1 : ¬ (1:Int32) = 0 := by decide
  unfold fc_X5_versionThatCounts bc_X5_versionThatCounts_0
  rcases h.blob x with ⟨q, hq, rfl, e1, e2, e3⟩ | ⟨e1, e2⟩
  · rw [e1, bd2_eq, if_neg z1, if_neg e2, if_pos e3]
    rcases (h.cnt hq).1 with ⟨f1, f2⟩ | ⟨i, hi, f1, f2, -⟩
    · rw [f1, f2, bd2_eq, bd2_eq, if_neg (by decide), if_neg (by decide)]
      exact Sim.mk (AkO.same h _)
    · have l1 : (0:Int32) ≤ nI i := by rw [i32_0, n_le (by omega) (by omega)]; omega
      have l2 : (0:Int32) ≤ nI (64 * s + i) := by rw [i32_0, n_le (by omega) (by omega)]; omega
      rw [f1, f2, bd2_eq, bd2_eq, if_pos l1, if_pos l2, h.R.st.dp s s2, vl_eq, nn_eq, n_ix hi (by omega), n_cl (by omega), show 41 + 139 * s + 1 = 42 + 139 * s by omega, (h.M.dk i hi).1, n_ix (show 64 * s + i < 128 by omega) (by omega), n_cl (by omega)]
      exact Sim.mk (AkO.same h _)
  · rw [e1, bd2_eq, if_pos rfl]
    rcases e2 with e2 | e2
    · rw [if_pos e2]; exact Sim.mk (AkO.same h _)
    · by_cases c : x < 0
      · rw [if_pos c]; exact Sim.mk (AkO.same h _)
      · rw [if_neg c, if_neg e2]; exact Sim.mk (AkO.same h _)
theorem ask_unseal (h : Ak K W b k s p σ ρ) (x : Int32) : Sim (fc_X5_unseal (47 + 132 * s) (some (83 + 135 * s + 12 * p)) x σ) (if x < 0 then some ((-1:Int32), ρ) else if x < ρ.1 30 p then bd2 (fq_counts x ρ) (fun r_2 ρ_1 => (if 0 ≤ r_2 then ix r_2 128 (ix (ρ_1.1 75 r_2.toNatClampNeg) 112000 (bd2 (fq_comes (ρ_1.1 4 (ρ_1.1 75 r_2.toNatClampNeg).toNatClampNeg) ρ_1) (fun r_4 ρ_3 => some (r_4, ρ_3)))) else some ((-3:Int32), ρ_1))) else some ((-1:Int32), ρ)) (AkO K W b k s p ρ) := by
  have s2 := h.s2
  have hN := h.R.T.Q.n.2
  have z1 : ¬ (1:Int32) = 0 := by decide
  unfold fc_X5_unseal bc_X5_unseal_0
  rcases h.blob x with ⟨q, hq, rfl, e1, e2, e3⟩ | ⟨e1, e2⟩
  · rw [e1, bd2_eq, if_neg z1, if_neg e2, if_pos e3]
    rcases (h.cnt hq).1 with ⟨f1, f2⟩ | ⟨i, hi, f1, f2, t, ht, f3, f4, f5⟩
    · rw [f1, f2, bd2_eq, bd2_eq, if_neg (by decide), if_neg (by decide)]
      exact Sim.mk (AkO.same h _)
    · have l1 : (0:Int32) ≤ nI i := by rw [i32_0, n_le (by omega) (by omega)]; omega
      have l2 : (0:Int32) ≤ nI (64 * s + i) := by rw [i32_0, n_le (by omega) (by omega)]; omega
      obtain ⟨c, hc, ec, rc⟩ := h.R.T.prC ht f5
      rw [f1, f2, bd2_eq, bd2_eq, if_pos l1, if_pos l2, nn_eq, h.R.st.dp s s2, vl_eq, nn_eq, n_ix hi (by omega), n_cl (by omega), show 41 + 139 * s + 2 = 43 + 139 * s by omega, f3, vl_eq, nn_eq, rc, vl_eq, n_ix (show 64 * s + i < 128 by omega) (by omega), n_cl (show 64 * s + i < 2147483648 by omega), f4, n_ix (show t < 112000 by omega) (by omega), n_cl (show t < 2147483648 by omega), ec, show 83 + 135 * s + 12 * p + 9 = 92 + 135 * s + 12 * p by omega]
      exact Sim.bd2 (comes_out h hc) (fun _ _ _ _ q => Sim.mk q)
  · rw [e1, bd2_eq, if_pos rfl]
    rcases e2 with e2 | e2
    · rw [if_pos e2]; exact Sim.mk (AkO.same h _)
    · by_cases c : x < 0
      · rw [if_pos c]; exact Sim.mk (AkO.same h _)
      · rw [if_neg c, if_neg e2]; exact Sim.mk (AkO.same h _)
end Z2_LF
