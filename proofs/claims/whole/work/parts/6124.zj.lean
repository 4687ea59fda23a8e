section Z2_ZJ
variable {σ σ' σ1 : cl_S} {ρ ρ' ρ1 : rf_S} {x : Nat → Nat} {n c i m l u o k : Nat} {t : List Nat}
/-- the class at the start -/
def as0 (σ : cl_S) : cl_S := cl_w (cl_w (cl_w (cl_w (cl_w (cl_w σ 6 4 (0:Int32)) 6 7 (0:Int32)) 6 11 (0:Int32)) 6 12 (0:Int32)) 6 13 (-1:Int32)) 6 2 (0:Int32)
def aq0 (ρ : rf_S) : rf_S := rf_w (rf_w (rf_w (rf_w (rf_w ρ 0 48 (0:Int32)) 0 30 (0:Int32)) 0 33 (0:Int32)) 0 38 (0:Int32)) 0 39 (0:Int32)
theorem as0_d {d : Nat} (h : d ≠ 6) : (as0 σ).1 d = σ.1 d := by
  unfold as0; rw [r_w h, r_w h, r_w h, r_w h, r_w h, r_w h]
theorem aq0_d {d : Nat} (h : d ≠ 0) : (aq0 ρ).1 d = ρ.1 d := by
  unfold aq0; rw [q_w h, q_w h, q_w h, q_w h, q_w h]
theorem n_and255 (x : Int32) : ∃ q, q < 256 ∧ x &&& (255:Int32) = nI q := by
  obtain ⟨q, hq, e⟩ := and_lt x 255 (by omega)
  exact ⟨q, by omega, e⟩
theorem cpg_ok {α : Type} {m : Nat} {w : Option α} (h : m ≤ 2048) : cpg (0:Int32) (0:Int32) (nI m) 2048 2048 w = w := by
  unfold cpg
  rw [if_neg]
  rw [show (0:Int32).toNatClampNeg = 0 from rfl, n_cl (show m < 2147483648 by omega)]
  rintro (q | q | q | q | q)
  · exact absurd q (by decide)
  · exact absurd q (by decide)
  · exact n_nneg (by omega) q
  · omega
  · omega
theorem call_assemble (h : RC k σ ρ) (hk : k < 64) : CO k (fc_X11_assemble 0 σ) (fq_assemble ρ) := by
  obtain ⟨W, R⟩ := id h
  have O := R.oA
  obtain ⟨n, ⟨hn, en1, en2⟩, etx⟩ := O.tx
  have xe : ∀ j, ∃ q, q < 256 ∧ ρ.1 16 j &&& 255 = nI q := fun j => n_and255 _
  let x : Nat → Nat := fun j => Classical.choose (xe j)
  have hx : ∀ j, x j < 256 ∧ ρ.1 16 j &&& 255 = nI (x j) := fun j => Classical.choose_spec (xe j)
  have TC : TxC (as0 σ) x n := ⟨by rw [as0_d (by decide)]; exact en1, hn, fun j => by rw [as0_d (by decide), etx, (hx j).2], fun j => (hx j).1⟩
  have TQ : TxQ (aq0 ρ) x n := ⟨by unfold aq0; rw [q_wk (by decide), q_wk (by decide), q_wk (by decide), q_wk (by decide), q_wk (by decide)]; exact en2, hn, fun j => by rw [aq0_d (by decide)]; exact (hx j).2, fun j => (hx j).1⟩
  clear_value x
  obtain ⟨c, cn, cf, cl⟩ := tk_cnt x n
  obtain ⟨σ1, e1, T1⟩ := c_tokens TC cn cf cl
  obtain ⟨ρ2, e2, K⟩ := q_next (p := 0) TQ (Nat.zero_le _) (by unfold aq0; rw [q_wk (by decide), q_wk (by decide), q_wk (by decide), q_wk (by decide), q_ws]; rfl)
  have X : PX σ1 (aq0 ρ) x n c := by
    refine ⟨fun j hj => T1.k j (by omega), fun j hj => T1.pl j (by omega), fun j hj => T1.v2 j (by omega), fun j hj => T1.v3 j (by omega), T1.cn, by omega, cf, cl, TQ, fun o a b => ?_, fun o a b => (R.nm o a b).2.1, ?_⟩
    · rw [T1.L 7 (by decide)]; exact (R.nm o a b).1
    · rw [T1.r]; exact R.st.t2.2
  have s6 : ∀ j, σ1.1 6 j = (as0 σ).1 6 j := fun j => T1.I 6 j (by decide) (by decide) (by omega)
  have P : PR σ1 (aq0 ρ) x n c 0 0 0 0 none σ1 ρ2 := by
    have F0 : PF σ1 σ1 (aq0 ρ) (aq0 ρ) := ⟨fun _ _ _ _ _ _ _ => rfl, fun _ _ _ => rfl, rfl, fun _ _ _ _ _ _ _ _ _ => rfl, fun _ _ _ _ _ _ _ => rfl, fun _ _ _ _ => rfl⟩
    refine ⟨F0.nx K, by rw [s6]; unfold as0; rw [r_ws]; rfl, Nat.zero_le _, K.k, K.pl, K.v2, K.v3, K.e, ?_, ?_, by omega, fun j hj => absurd hj (by omega), ?_, ?_, by omega, fun j hj => absurd hj (by omega), ?_, ?_, by omega, fun j hj => absurd hj (by simp), fun j hj => absurd hj (by omega), fun j k a b => absurd b (by omega), fun b hb => (by cases hb), ⟨?_, ?_⟩, ?_⟩
    · rw [s6]; unfold as0; rw [r_wk (by decide), r_wk (by decide), r_wk (by decide), r_wk (by decide), r_wk (by decide), r_ws]; rfl
    · rw [K.f 30 (by decide) (by decide) (by decide)]; unfold aq0; rw [q_wk (by decide), q_wk (by decide), q_wk (by decide), q_ws]; rfl
    · rw [s6]; unfold as0; rw [r_wk (by decide), r_wk (by decide), r_wk (by decide), r_wk (by decide), r_ws]; rfl
    · rw [K.f 33 (by decide) (by decide) (by decide)]; unfold aq0; rw [q_wk (by decide), q_wk (by decide), q_ws]; rfl
    · rw [s6]; unfold as0; rw [r_wk (by decide), r_wk (by decide), r_wk (by decide), r_ws]; rfl
    · rw [K.f 38 (by decide) (by decide) (by decide)]; unfold aq0; rw [q_wk (by decide), q_ws]; rfl
    · rw [s6]; unfold as0; rw [r_wk (by decide), r_wk (by decide), r_ws]
    · rw [K.f 39 (by decide) (by decide) (by decide)]; unfold aq0; rw [q_ws]
    · rw [s6]; unfold as0; rw [r_wk (by decide), r_ws]
  -- the lines, the uses
  obtain ⟨σ3, ρ3, y3, e3, e4, R3⟩ := PR.lines X (c + 1) 0 0 0 0 0 σ1 ρ2 (by omega) (Or.inl (Nat.le_refl _)) (by omega) P
  have fin : ∃ σ4 ρ4 y y', lp (fun z : (Int32 × cl_S) => lc_X0_translate_72 6 z.1 z.2) ((0:Int32), σ3) = some (y, σ4) ∧ lp (fun z : (Int32 × rf_S) => lq_assemble_80 z.1 z.2) ((0:Int32), ρ3) = some (y', ρ4) ∧ EN σ1 (aq0 ρ) σ4 ρ4 := by
    rcases R3 with ⟨i, m, l, u, R3⟩ | R3
    · exact SS.all u 0 σ3 ρ3 (by omega) (by omega) R3.ss
    · obtain ⟨⟨y, f1⟩, ⟨y', f2⟩⟩ := R3.skip
      exact ⟨σ3, ρ3, y, y', f1, f2, R3.en⟩
  obtain ⟨σ4, ρ4, y, y', f1, f2, F, En⟩ := fin
  have tr : fc_X0_translate 6 σ = some (σ4.1 6 12, cl_w σ4 1 1 (0:Int32)) := by
    unfold fc_X0_translate bc_X0_translate_0
    simp only [vl_eq]
    show bd1 (fc_X4_readTokens 1 (as0 σ)) _ = _
    rw [e1, bd1_eq]
    unfold bc_X0_translate_39
    rw [show lp (fun z : (Int32 × cl_S) => lc_X0_translate_39 6 z.1 z.2) ((0:Int32), σ1) = _ from e3, Option.bind_some]
    unfold ec_X0_translate_39 bc_X0_translate_70 bc_X0_translate_72
    rw [f1, Option.bind_some]
    unfold ec_X0_translate_72 bc_X0_translate_98
    rw [vl_eq, r_w (show 6 ≠ 1 by decide)]
  have rq : fq_assemble ρ = bq_assemble_218 ρ4 := by
    unfold fq_assemble bq_assemble_0
    simp only [vl_eq]
    show bd1 (fq_next (aq0 ρ)) _ = _
    rw [e2, bd1_eq]
    unfold bq_assemble_29
    rw [e4, Option.bind_some]
    unfold eq_assemble_29 bq_assemble_78 bq_assemble_80
    rw [f2, Option.bind_some]
    rfl
  -- frames over all
  have gI : ∀ d, d ≠ 1 → d ≠ 3 → d ≠ 4 → d ≠ 6 → d ≠ 8 → d ≠ 10 → d ≠ 12 → d ≠ 13 → σ4.1 d = σ.1 d := fun d a1 a3 a4 a6 a8 a10 a12 a13 => funext fun j => by
    rw [F.I d j a8 a10 a12 a13 (fun w => a6 w.1), T1.I d j a3 a4 (fun w => a1 w.1), as0_d a6]
  have g6 : ∀ j, j = 15 → σ4.1 6 j = σ.1 6 j := fun j hj => by
    subst hj
    rw [F.I 6 15 (by decide) (by decide) (by decide) (by decide) (by decide), s6]
    unfold as0; rw [r_wk (by decide), r_wk (by decide), r_wk (by decide), r_wk (by decide), r_wk (by decide), r_wk (by decide)]
  have gL : σ4.2.1 7 = σ.2.1 7 := by rw [F.L 7 (by decide) (by decide), T1.L 7 (by decide)]; rfl
  have gR : σ4.2.2 = σ.2.2 := by rw [F.r, T1.r]; rfl
  have gf : ∀ j, j ≠ 30 → j ≠ 33 → j ≠ 38 → j ≠ 39 → j ≠ 40 → j ≠ 44 → j ≠ 45 → j ≠ 48 → ρ4.1 0 j = ρ.1 0 j := fun j a b c d e f g h => by
    rw [F.f j a b c d e f g h]; unfold aq0; rw [q_wk d, q_wk c, q_wk b, q_wk a, q_wk h]
  have gq : ∀ d, d ≠ 0 → d ≠ 18 → d ≠ 20 → d ≠ 21 → d ≠ 22 → d ≠ 24 → ρ4.1 d = ρ.1 d := fun d a b c e f g => by rw [F.q d a b c e f g, aq0_d a]
  have gl : ρ4.2 13 = ρ.2 13 := by rw [F.lq 13 (by decide) (by decide) (by decide)]; rfl
  have g2 : ∀ j, (cl_w σ4 1 1 (0:Int32)).1 2 j = σ.1 2 j := fun j => by rw [r_w (by decide), gI 2 (by decide) (by decide) (by decide) (by decide) (by decide) (by decide) (by decide) (by decide)]
  unfold fc_X11_assemble bc_X11_assemble_0
  rw [tr, bd2_eq, rq]
  unfold bq_assemble_218
  simp only [vl_eq]
  rcases En with ⟨z1, z2, z3, m, hm, m1, m2, wm⟩ | ⟨f, hf0, hf8, z1, z2, z3⟩
  · -- no fault
    rw [z1, if_pos rfl, r_w (show 6 ≠ 1 by decide), m1]
    have b39 : (rf_w ρ4 0 26 (0:Int32)).1 0 39 ≤ 0 := by rw [q_wk (by decide), z2]; exact Int32.le_refl _
    have b39' : (rf_w (rf_w ρ4 0 26 (0:Int32)) 0 41 (-1:Int32)).1 0 39 ≤ 0 := by rw [q_wk (by decide)]; exact b39
    rw [if_pos b39]
    unfold bq_assemble_239
    rw [vl_eq, if_pos b39', vl_eq, q_wk (show 30 ≠ 41 by decide), q_wk (show 30 ≠ 26 by decide), m2, r_ws]
    have cg : ∀ {α : Type} (w : Option α), cpg (0:Int32) (0:Int32) (nI m) 2048 2048 w = w := fun w => cpg_ok hm
    rw [cg, r_c (show 0 ≠ 18 by decide), r_ws]
    -- the reference copies
    obtain ⟨ρ5, e5, k1, k2, k3, k4⟩ := lp_cnt (S := rf_S) (f := lq_assemble_267) (n := m) (fun i ρ' => (∀ j, ρ'.1 17 j = if j < i then ρ4.1 18 j else ρ4.1 17 j) ∧ (∀ d, d ≠ 17 → ρ'.1 d = (rf_w (rf_w (rf_w ρ4 0 26 (0:Int32)) 0 41 (-1:Int32)) 0 28 (nI m)).1 d) ∧ ρ'.2 = ρ4.2 ∧ True) (fun i ρ' hi ⟨a1, a2, a3, _⟩ => by
      refine ⟨rf_w ρ' 17 i (ρ4.1 18 i), ?_, fun j => ?_, fun d hd => by rw [q_w hd]; exact a2 d hd, a3, trivial⟩
      · unfold lq_assemble_267
        rw [a2 0 (by decide), q_ws, if_neg (fun q => by have := (n_le (by omega) (by omega)).mp q; omega), n_ix (show i < 2048 by omega) (by omega), n_ix (show i < 2048 by omega) (by omega), vl_eq, vl_eq, n_cl (show i < 2147483648 by omega), a2 18 (by decide), q_w (by decide), q_w (by decide), q_w (by decide), show nI i + (1:Int32) = nI (i + 1) from n_add i 1]
      · by_cases c : j = i
        · rw [c, q_ws, if_pos (by omega)]
        · rw [q_wk c, a1 j]
          by_cases c2 : j < i
          · rw [if_pos c2, if_pos (by omega)]
          · rw [if_neg c2, if_neg (by omega)]) (fun ρ' ⟨a1, a2, a3, _⟩ => by
      unfold lq_assemble_267
      rw [a2 0 (by decide), q_ws, if_pos (Int32.le_refl _)]) m 0 _ (by omega) (by omega) ⟨fun j => by rw [if_neg (by omega), q_w (by decide), q_w (by decide), q_w (by decide)], fun _ _ => rfl, rfl, trivial⟩
    have k5 : ∀ j, ρ5.1 0 j = (rf_w (rf_w (rf_w ρ4 0 26 (0:Int32)) 0 41 (-1:Int32)) 0 28 (nI m)).1 0 j := fun j => by rw [k2 0 (by decide)]
    have rq2 : bq_assemble_267 (0:Int32) (rf_w (rf_w (rf_w ρ4 0 26 (0:Int32)) 0 41 (-1:Int32)) 0 28 (nI m)) = some (nI m, ρ5) := by
      unfold bq_assemble_267
      rw [show lp (fun z : (Int32 × rf_S) => lq_assemble_267 z.1 z.2) ((0:Int32), rf_w (rf_w (rf_w ρ4 0 26 (0:Int32)) 0 41 (-1:Int32)) 0 28 (nI m)) = _ from e5, Option.bind_some]
      unfold eq_assemble_267
      rw [k5 28, q_ws]
    rw [rq2]
    refine ⟨nI m, _, ρ5, rfl, rfl, ?_⟩
    have h18 : ∀ j, (cl_cp (cl_w (cl_w σ4 1 1 (0:Int32)) 0 4 (nI m)) (6 + 2) 18 (0:Int32) (0:Int32) (nI m)).1 18 j = if j < m then σ4.1 8 j else σ.1 18 j := by
      intro j
      rw [r_cs, show (6 + 2) = 8 from rfl, r_w (show 8 ≠ 0 by decide), r_w (show 8 ≠ 1 by decide), r_w (show 18 ≠ 0 by decide), r_w (show 18 ≠ 1 by decide), gI 18 (by decide) (by decide) (by decide) (by decide) (by decide) (by decide) (by decide) (by decide)]
      unfold va_cpy
      rw [show (0:Int32).toNatClampNeg = 0 from rfl, n_cl (show m < 2147483648 by omega)]
      by_cases c : j < m
      · rw [if_pos ⟨Nat.zero_le _, by omega⟩, if_pos c, Nat.sub_zero, Nat.zero_add]
      · rw [if_neg (fun q => by omega), if_neg c]
    have hd : ∀ d, d ≠ 18 → (cl_cp (cl_w (cl_w σ4 1 1 (0:Int32)) 0 4 (nI m)) (6 + 2) 18 (0:Int32) (0:Int32) (nI m)).1 d = (cl_w (cl_w σ4 1 1 (0:Int32)) 0 4 (nI m)).1 d := fun d hd => r_c hd
    have hA : ∀ d, d ≠ 0 → d ≠ 1 → d ≠ 3 → d ≠ 4 → d ≠ 6 → d ≠ 8 → d ≠ 10 → d ≠ 12 → d ≠ 13 → d ≠ 18 → (cl_cp (cl_w (cl_w σ4 1 1 (0:Int32)) 0 4 (nI m)) (6 + 2) 18 (0:Int32) (0:Int32) (nI m)).1 d = σ.1 d := fun d a0 a1 a3 a4 a6 a8 a10 a12 a13 a18 => by
      rw [hd d a18, r_w a0, r_w a1, gI d a1 a3 a4 a6 a8 a10 a12 a13]
    refine h.tx hk (fun a ha => hA a (by omega) (by omega) (by omega) (by omega) (by omega) (by omega) (by omega) (by omega) (by omega) (by omega)) ?_ (by rw [r_cT, r_wL, r_wL]; exact gL) (by rw [r_cT, r_wL, r_wL, gR]) (by rw [r_cT, r_wL, r_wL, gR]) (fun d h0 h1 h2 => ?_) (fun j hu a26 a28 a41 a43 => ?_) (by rw [k3]; exact gl) ?_
    · rw [hd 0 (by decide), r_wk (by decide), r_w (by decide), gI 0 (by decide) (by decide) (by decide) (by decide) (by decide) (by decide) (by decide) (by decide)]
    · rw [k2 d (by omega), q_w h0, q_w h0, q_w h0, gq d h0 (by omega) (by omega) (by omega) (by omega) (by omega)]
    · unfold use at hu
      rw [k5, q_wk a28, q_wk a41, q_wk a26, gf j (by omega) (by omega) (by omega) (by omega) (by omega) (by omega) (by omega) (by omega)]
    · refine ⟨?_, ?_, ?_, ?_, ?_⟩
      · refine ⟨0, ⟨by omega, ?_, ?_⟩, fun j => ?_⟩
        · rw [hd 1 (by decide), r_w (by decide), r_ws]; rfl
        · rw [k5, q_wk (by decide), q_wk (by decide), q_ws]; rfl
        · rw [hd 2 (by decide), r_w (by decide), g2, k2 16 (by decide), q_w (by decide), q_w (by decide), q_w (by decide), gq 16 (by decide) (by decide) (by decide) (by decide) (by decide) (by decide)]; exact etx j
      · refine ⟨m, ⟨hm, ?_, ?_⟩, fun j => ?_⟩
        · rw [hd 0 (by decide), r_ws]
        · rw [k5, q_ws]
        · obtain ⟨n', -, erw⟩ := O.rw
          rw [h18, k1]
          by_cases c : j < m
          · rw [if_pos c, if_pos c]; exact wm j c
          · rw [if_neg c, if_neg c, gq 17 (by decide) (by decide) (by decide) (by decide) (by decide) (by decide)]; exact erw j
      · intro i hi
        rw [hA 30 (by decide) (by decide) (by decide) (by decide) (by decide) (by decide) (by decide) (by decide) (by decide) (by decide), hA (20 + i) (by omega) (by omega) (by omega) (by omega) (by omega) (by omega) (by omega) (by omega) (by omega) (by omega), k2 26 (by decide), k2 27 (by decide), q_w (by decide), q_w (by decide), q_w (by decide), q_w (by decide), q_w (by decide), q_w (by decide), gq 26 (by decide) (by decide) (by decide) (by decide) (by decide) (by decide), gq 27 (by decide) (by decide) (by decide) (by decide) (by decide) (by decide)]; exact O.kp i hi
      · rw [hd 6 (by decide), r_w (by decide), r_w (by decide), g6 15 rfl, k5, q_wk (by decide), q_wk (by decide), q_wk (by decide), gf 43 (by decide) (by decide) (by decide) (by decide) (by decide) (by decide) (by decide) (by decide), hA 14 (by decide) (by decide) (by decide) (by decide) (by decide) (by decide) (by decide) (by decide) (by decide) (by decide), k2 25 (by decide), q_w (by decide), q_w (by decide), q_w (by decide), gq 25 (by decide) (by decide) (by decide) (by decide) (by decide) (by decide)]; exact O.sh
      · rw [hd 6 (by decide), r_w (by decide), r_w (by decide), z3, k5, q_wk (by decide), q_ws]
  · -- a fault
    have nz : ¬ nI f = (0:Int32) := fun q => by have := (n_eq (a := f) (b := 0) (by omega) (by omega)).mp q; omega
    have b39 : ¬ (rf_w ρ4 0 26 (0:Int32)).1 0 39 ≤ 0 := by rw [q_wk (by decide), z2]; intro q; have := (n_le (a := f) (b := 0) (by omega) (by omega)).mp q; omega
    have b39' : ¬ (rf_w (rf_w ρ4 0 26 (0:Int32)) 0 41 ((rf_w ρ4 0 26 (0:Int32)).1 0 40)).1 0 39 ≤ 0 := by rw [q_wk (by decide)]; exact b39
    rw [z1, if_neg nz, if_neg b39]
    unfold bq_assemble_239
    rw [vl_eq, if_neg b39', q_wk (show 39 ≠ 41 by decide), q_wk (show 39 ≠ 26 by decide), z2]
    refine ⟨_, _, _, rfl, rfl, ?_⟩
    have hA : ∀ d, d ≠ 1 → d ≠ 3 → d ≠ 4 → d ≠ 6 → d ≠ 8 → d ≠ 10 → d ≠ 12 → d ≠ 13 → (cl_w σ4 1 1 (0:Int32)).1 d = σ.1 d := fun d a1 a3 a4 a6 a8 a10 a12 a13 => by rw [r_w a1, gI d a1 a3 a4 a6 a8 a10 a12 a13]
    refine h.tx hk (fun a ha => hA a (by omega) (by omega) (by omega) (by omega) (by omega) (by omega) (by omega) (by omega)) (by rw [hA 0 (by decide) (by decide) (by decide) (by decide) (by decide) (by decide) (by decide) (by decide)]) gL (by rw [r_wL, gR]) (by rw [r_wL, gR]) (fun d h0 h1 h2 => ?_) (fun j hu a26 a28 a41 a43 => ?_) gl ?_
    · rw [q_w h0, q_w h0, gq d h0 (by omega) (by omega) (by omega) (by omega) (by omega)]
    · unfold use at hu
      rw [q_wk a41, q_wk a26, gf j (by omega) (by omega) (by omega) (by omega) (by omega) (by omega) (by omega) (by omega)]
    · refine ⟨?_, ?_, ?_, ?_, ?_⟩
      · refine ⟨0, ⟨by omega, by rw [r_ws]; rfl, by rw [q_wk (by decide), q_ws]; rfl⟩, fun j => ?_⟩
        rw [g2, q_w (by decide), q_w (by decide), gq 16 (by decide) (by decide) (by decide) (by decide) (by decide) (by decide)]; exact etx j
      · rw [hA 0 (by decide) (by decide) (by decide) (by decide) (by decide) (by decide) (by decide) (by decide), hA 18 (by decide) (by decide) (by decide) (by decide) (by decide) (by decide) (by decide) (by decide), q_wk (by decide), q_wk (by decide), gf 28 (by decide) (by decide) (by decide) (by decide) (by decide) (by decide) (by decide) (by decide), q_w (by decide), q_w (by decide), gq 17 (by decide) (by decide) (by decide) (by decide) (by decide) (by decide)]; exact O.rw
      · intro i hi
        rw [hA 30 (by decide) (by decide) (by decide) (by decide) (by decide) (by decide) (by decide) (by decide), hA (20 + i) (by omega) (by omega) (by omega) (by omega) (by omega) (by omega) (by omega) (by omega), q_w (by decide), q_w (by decide), q_w (by decide), q_w (by decide), gq 26 (by decide) (by decide) (by decide) (by decide) (by decide) (by decide), gq 27 (by decide) (by decide) (by decide) (by decide) (by decide) (by decide)]; exact O.kp i hi
      · rw [r_w (by decide), g6 15 rfl, q_wk (by decide), q_wk (by decide), gf 43 (by decide) (by decide) (by decide) (by decide) (by decide) (by decide) (by decide) (by decide), hA 14 (by decide) (by decide) (by decide) (by decide) (by decide) (by decide) (by decide) (by decide), q_w (by decide), q_w (by decide), gq 25 (by decide) (by decide) (by decide) (by decide) (by decide) (by decide)]; exact O.sh
      · rw [r_w (by decide), z3, q_ws, q_wk (by decide)]
end Z2_ZJ
