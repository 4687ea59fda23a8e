section Z2_M8
variable {K : Bd} {W W' : Wd} {b : Bool} {k s p : Nat} {σ σ' : cl_S} {ρ ρ' : rf_S}
theorem call_input (h : RC k σ ρ) (hk : k < 64) (x y : Int32) : CO k (fc_X11_input 0 x y σ) (fq_input x y ρ) := by
  obtain ⟨W, R⟩ := id h
  have e33 := R.T.C.tms.2.2.1
  unfold fc_X11_input bc_X11_input_0 fq_input bq_input_0
  rcases R.isP x with ⟨p, hp, p8, rfl, e1, e2, e3⟩ | ⟨e1, e2⟩
  rotate_left
  · rw [e1, bd2n, if_pos rfl]
    rcases e2 with e2 | ⟨e2, e3⟩
    · rw [if_pos e2]; exact CO.same h hk _
    · rw [if_neg e2, if_neg e3]; exact CO.same h hk _
  rw [e1, bd2n, if_neg (by decide), if_neg e2, if_pos e3]
  refine CO.ite (by rw [R.oB.on.1]) (fun _ _ => CO.same h hk _) (fun _ _ => ?_)
  have i16 : ∀ {α : Type} (z : Option α), ix (nI p) 16 z = z := fun z => n_ix (by omega) (by omega)
  have P := R.m0.pr p hp
  rw [n_ix p8 (by omega), vln, n_cl (show p < 2147483648 by omega), show 47 + 12 + cl_md 47 = 59 + 135 * 0 from rfl, R.st.pp 0 p (by omega) p8, nnn]
  simp only [i16]
  rcases R.waitW (s := 0) (by omega) hp P (fun e => by cases e) y with ⟨f1, f2⟩ | ⟨n, σ1, hn, f1, f2, R1, f3, f4⟩
  · rw [show 8 * 0 + p = p by omega] at f1
    rw [f2, bd2n, if_pos (show (-4:Int32) ≤ 0 by decide), f1, if_pos (show nI 64 = (64:Int32) from rfl)]
    exact CO.same h hk _
  · rw [show 8 * 0 + p = p by omega] at f1 R1
    have g66 : (rf_w ρ 65 (64 * p + n) y).1 66 p = nI n := by rw [q_w (by decide)]; exact f1
    have s31 : σ1.2.2.1 31 4 = some 33 := by rw [f4]; exact e33
    rw [f2, bd2n, if_neg (show ¬ nI (n + 1) ≤ (0:Int32) from fun q => by have := (n_le (a := n + 1) (b := 0) (by omega) (by omega)).mp q; omega), vln, s31, f1, if_neg (show ¬ nI n = (64:Int32) from fun q => by have := (n_eq (a := n) (b := 64) (by omega) (by omega)).mp q; omega), show (64:Int32) * nI p + nI n = nI (64 * p + n) from by rw [show (64:Int32) = nI 64 from rfl, n_mul, n_add], n_ix (show 64 * p + n < 1024 by omega) (by omega), n_cl (show 64 * p + n < 2147483648 by omega), vln, g66, show nI n + (1:Int32) = nI (n + 1) from n_add n 1, vln]
    obtain ⟨σ2, ρ2, g1, g2, R2, g3⟩ := R1.note hk hp (w := y) (v := y) (f := 0) (r := some 33) (Or.inl rfl) (Or.inl ⟨rfl, rfl, rfl⟩)
    have g66' : ρ2.1 66 p = nI (n + 1) := by rw [g3 66 (by omega) (by omega), q_ws]
    rw [g1, bd1n, g2, bd1n, g66']
    exact ⟨_, _, _, rfl, rfl, RC.of0 R2 hk (onF_le ρ)⟩
theorem call_inputTerm (h : RC k σ ρ) (hk : k < 64) (x y : Int32) : CO k (fc_X11_inputTerm 0 x y σ) (fq_inputTerm x y ρ) := by
  obtain ⟨W, R⟩ := id h
  have e33 := R.T.C.tms.2.2.1
  have z1 : ¬ (1:Int32) = 0 := by decide
  unfold fc_X11_inputTerm bc_X11_inputTerm_0 fq_inputTerm bq_inputTerm_0
  rcases R.isP x with ⟨p, hp, p8, rfl, e1, e2, e3⟩ | ⟨e1, e2⟩
  rotate_left
  · rw [e1, bd2n, if_pos rfl]
    rcases e2 with e2 | ⟨e2, e3⟩
    · rw [if_pos e2]; exact CO.same h hk _
    · rw [if_neg e2, if_pos (Int32.not_lt.mp e3)]; exact CO.same h hk _
  rw [e1, bd2n, if_neg z1, if_neg e2, if_neg (Int32.not_le.mpr e3)]
  rcases R.ohd y with ⟨j, t, hj, ht, a1, a2, a3, a4, a5, a6, a7⟩ | ⟨a4, a5, a6⟩
  rotate_left
  · rw [a4, a5, bd2n, bd2n, if_pos rfl, if_pos rfl]; exact CO.same h hk _
  rw [a4, a5, bd2n, bd2n, if_neg z1, if_neg z1]
  refine CO.ite (by rw [R.oB.on.1]) (fun _ _ => CO.same h hk _) (fun _ _ => ?_)
  have i16 : ∀ {α : Type} (z : Option α), ix (nI p) 16 z = z := fun z => n_ix (by omega) (by omega)
  have i600 : ∀ {α : Type} (z : Option α), ix (nI j) 600 z = z := fun z => n_ix hj (by omega)
  have P := R.m0.pr p hp
  rw [a6, bd2n, n_ix p8 (by omega), vln, n_cl (show p < 2147483648 by omega), show 47 + 12 + cl_md 47 = 59 + 135 * 0 from rfl, R.st.pp 0 p (by omega) p8, nnn, a2]
  simp only [i16, i600]
  rw [n_cl (show j < 2147483648 by omega), a3]
  rcases R.waitT (s := 0) (by omega) hp P (fun e => by cases e) ht with ⟨f1, f2⟩ | ⟨n, σ1, hn, f1, f2, R1, f3, f4⟩
  · rw [show 8 * 0 + p = p by omega] at f1
    rw [f2, bd2n, if_pos (show (-4:Int32) ≤ 0 by decide), f1, if_pos (show nI 64 = (64:Int32) from rfl)]
    exact CO.same h hk _
  · rw [show 8 * 0 + p = p by omega] at f1 R1
    have g68 : (rf_w ρ 67 (64 * p + n) (nI t)).1 68 p = nI n := by rw [q_w (by decide)]; exact f1
    have g76 : (rf_w (rf_w ρ 67 (64 * p + n) (nI t)) 68 p (nI (n + 1))).1 76 j = nI t := by rw [q_w (by decide), q_w (by decide)]; exact a3
    rw [f2, bd2n, if_neg (show ¬ nI (n + 1) ≤ (0:Int32) from fun q => by have := (n_le (a := n + 1) (b := 0) (by omega) (by omega)).mp q; omega), f1, if_neg (show ¬ nI n = (64:Int32) from fun q => by have := (n_eq (a := n) (b := 64) (by omega) (by omega)).mp q; omega), show (64:Int32) * nI p + nI n = nI (64 * p + n) from by rw [show (64:Int32) = nI 64 from rfl, n_mul, n_add], n_ix (show 64 * p + n < 1024 by omega) (by omega), n_cl (show 64 * p + n < 2147483648 by omega), vln, g68, show nI n + (1:Int32) = nI (n + 1) from n_add n 1, vln, g76]
    obtain ⟨σ2, ρ2, g1, g2, R2, g3⟩ := R1.note hk hp (w := 0) (v := nI t) (f := 1) (r := some (W.tm t)) (Or.inr rfl) (Or.inr ⟨rfl, rfl, t, ht, rfl, rfl⟩)
    have g68' : ρ2.1 68 p = nI (n + 1) := by rw [g3 68 (by omega) (by omega), q_ws]
    rw [g1, bd1n, g2, bd1n, g68']
    exact ⟨_, _, _, rfl, rfl, RC.of0 R2 hk (onF_le ρ)⟩
theorem kat_lt {i j : Nat} (hi : i < 10) (hj : j < kap i) : kat i + j < 17000 := by
  unfold kat kap at *
  split at hj
  · rw [if_pos (by assumption)]; omega
  · rw [if_neg (by assumption)]; split at hj
    · rw [if_pos (by assumption)]; omega
    · rw [if_neg (by assumption)]; omega
theorem kat_dj {i i' j j' : Nat} (hi : i < 10) (hi' : i' < 10) (hj : j < kap i) (hj' : j' < kap i') (e : kat i + j = kat i' + j') : i = i' ∧ j = j' := by
  unfold kat kap at *
  split at hj <;> split at hj' <;> (try split at hj) <;> (try split at hj') <;> (repeat (first | rw [if_pos (by assumption)] at e | rw [if_neg (by assumption)] at e)) <;> omega
/-- the reference's loop of keep -/
theorem q_keep {i n : Nat} (hi : i < 10) (hn : n ≤ kap i) (h2 : n ≤ 2048) : ∀ m j ρ, n - j = m → j ≤ n → ∃ ρ', lp (fun z : (Int32 × rf_S) => lq_keep_61 (nI i) (nI n) z.1 z.2) (nI j, ρ) = some (nI n, ρ') ∧ ρ'.2 = ρ.2 ∧ (∀ c, c ≠ 26 → ρ'.1 c = ρ.1 c) ∧ (∀ u, (∀ v, j ≤ v → v < n → u ≠ kat i + v) → ρ'.1 26 u = ρ.1 26 u) ∧ (∀ v, j ≤ v → v < n → ρ'.1 26 (kat i + v) = ρ.1 17 v) := by
  intro m
  induction m with
  | zero =>
    intro j ρ hm hj
    have : j = n := by omega
    subst this
    have eb : lq_keep_61 (nI i) (nI j) (nI j) ρ = some (.inr (nI j, ρ)) := by
      unfold lq_keep_61
      rw [if_pos ((n_le (by omega) (by omega)).mpr (Nat.le_refl _))]
    exact ⟨ρ, lp_end eb, rfl, fun _ _ => rfl, fun _ _ => rfl, fun v h1 h2 => by omega⟩
  | succ m ih =>
    intro j ρ hm hj
    have ka : fq_keptAt (nI i) ρ = some (nI (kat i), ρ) := by
      unfold fq_keptAt bq_keptAt_0 kat
      by_cases c8 : i < 8
      · rw [if_neg (show ¬ (8:Int32) ≤ nI i from fun q => by have := (n_le (a := 8) (b := i) (by omega) (by omega)).mp q; omega), if_pos c8, show (2048:Int32) = nI 2048 from rfl, n_mul]
      · rw [if_pos (show (8:Int32) ≤ nI i from (n_le (a := 8) (b := i) (by omega) (by omega)).mpr (by omega)), if_neg c8]
        by_cases c : i = 8
        · subst c; rw [if_pos (show nI 8 = (8:Int32) from rfl), if_pos rfl]; rfl
        · rw [if_neg (show ¬ nI i = (8:Int32) from fun q => c ((n_eq (a := i) (b := 8) (by omega) (by omega)).mp q)), if_neg c]; rfl
    have lt := kat_lt hi (show j < kap i by omega)
    have eb : lq_keep_61 (nI i) (nI n) (nI j) ρ = some (.inl (nI (j + 1), rf_w ρ 26 (kat i + j) (ρ.1 17 j))) := by
      unfold lq_keep_61
      rw [if_neg (fun q => by have := (n_le (by omega) (by omega)).mp q; omega), ka, bd2n, n_ix (show j < 2048 by omega) (by omega), n_add, n_ix lt (by omega), n_cl (show kat i + j < 2147483648 by omega), n_cl (show j < 2147483648 by omega), vln, vln, show nI j + (1:Int32) = nI (j + 1) from n_add j 1]
    obtain ⟨ρ', f1, f2, f3, f4, f5⟩ := ih (j + 1) (rf_w ρ 26 (kat i + j) (ρ.1 17 j)) (by omega) (by omega)
    refine ⟨ρ', by rw [lp_next eb]; exact f1, by rw [f2]; rfl, fun c hc => by rw [f3 c hc, q_w hc], fun u hu => ?_, fun v h1 h2 => ?_⟩
    · rw [f4 u (fun v h1 h2 => hu v (by omega) h2), q_wk (hu j (by omega) (by omega))]
    · by_cases c : v = j
      · subst c
        rw [f4 _ (fun w h1 h2 => by omega), q_ws]
      · rw [f5 v (by omega) h2, q_w (by decide)]
theorem call_keep (h : RC k σ ρ) (hk : k < 64) (x : Int32) : CO k (fc_X11_keep 0 x σ) (fq_keep x ρ) := by
  obtain ⟨W, R⟩ := id h
  have A := R.oA
  obtain ⟨n, ⟨hn, e1, e2⟩, e3⟩ := A.rw
  unfold fc_X11_keep bc_X11_keep_0 fq_keep bq_keep_0
  refine CO.ite Iff.rfl (fun _ _ => CO.same h hk _) (fun c0 _ => ?_)
  refine CO.ite Iff.rfl (fun c9 _ => ?_) (fun _ _ => CO.same h hk _)
  rcases n_cases x with hx | ⟨i, hi, rfl⟩
  · exact absurd hx c0
  have hi9 : i ≤ 9 := (n_le (a := i) (b := 9) hi (by omega)).mp c9
  have x8 : nI i = (8:Int32) ↔ i = 8 := n_eq (a := i) (b := 8) (by omega) (by omega)
  have x9 : nI i = (9:Int32) ↔ i = 9 := n_eq (a := i) (b := 9) (by omega) (by omega)
  -- the class's side
  have ec : (if nI i = (8:Int32) then bc_X11_keep_39 0 (nI i) (256:Int32) σ else (if nI i = (9:Int32) then bc_X11_keep_39 0 (nI i) (200:Int32) σ else bc_X11_keep_39 0 (nI i) (2048:Int32) σ)) = bc_X11_keep_39 0 (nI i) (nI (kap i)) σ := by
    unfold kap
    by_cases c8 : i = 8
    · rw [if_pos (x8.mpr c8), if_neg (show ¬ i < 8 by omega), if_pos c8]; rfl
    · rw [if_neg (fun q => c8 (x8.mp q))]
      by_cases c9 : i = 9
      · rw [if_pos (x9.mpr c9), if_neg (show ¬ i < 8 by omega), if_neg c8]; rfl
      · rw [if_neg (fun q => c9 (x9.mp q)), if_pos (show i < 8 by omega)]; rfl
  have kp2 : kap i ≤ 2048 := by unfold kap; split; omega; split <;> omega
  have eq : (if (ρ.1 0 28) = 0 then some ((-2:Int32), ρ) else (if nI i = (8:Int32) then (if (256:Int32) < (ρ.1 0 28) then some ((-2:Int32), ρ) else bq_keep_35 (nI i) ρ) else bq_keep_35 (nI i) ρ)) = (if nI n = 0 then some ((-2:Int32), ρ) else if nI n ≤ nI (kap i) then bq_keep_54 (nI i) ρ else some ((-2:Int32), ρ)) := by
    unfold bq_keep_35 kap
    rw [e2]
    by_cases n0 : nI n = 0
    · rw [if_pos n0, if_pos n0]
    rw [if_neg n0, if_neg n0]
    by_cases c8 : i = 8
    · rw [if_pos (x8.mpr c8), if_neg (show ¬ nI i = (9:Int32) from fun q => by have := x9.mp q; omega), if_neg (show ¬ i < 8 by omega), if_pos c8]
      by_cases q : n ≤ 256
      · rw [if_neg (show ¬ (256:Int32) < nI n from fun w => by have := (n_lt (a := 256) (b := n) (by omega) (by omega)).mp w; omega), if_pos ((n_le (by omega) (by omega)).mpr q)]
      · rw [if_pos (show (256:Int32) < nI n from (n_lt (a := 256) (b := n) (by omega) (by omega)).mpr (by omega)), if_neg (fun w => q ((n_le (by omega) (by omega)).mp w))]
    · rw [if_neg (fun q => c8 (x8.mp q))]
      by_cases c9 : i = 9
      · rw [if_pos (x9.mpr c9), if_neg (show ¬ i < 8 by omega), if_neg c8]; rfl
      · rw [if_neg (fun q => c9 (x9.mp q)), if_pos (show i < 8 by omega), if_pos ((n_le (by omega) (by omega)).mpr hn)]
  rw [ec, eq]
  unfold bc_X11_keep_39
  rw [e1]
  refine CO.ite Iff.rfl (fun _ _ => CO.same h hk _) (fun n0 _ => ?_)
  refine CO.ite Iff.rfl (fun cn _ => ?_) (fun _ _ => CO.same h hk _)
  have hnk : n ≤ kap i := (n_le (by omega) (by omega)).mp cn
  obtain ⟨s1, s2⟩ := R.st.kp i (by omega)
  unfold bq_keep_54 bq_keep_61
  rw [vln (ρ.1 0 28), e2]
  obtain ⟨ρ', f1, f2, f3, f4, f5⟩ := q_keep (i := i) (by omega) hnk hn n 0 ρ (by omega) (by omega)
  have f1' : lp (fun z : (Int32 × rf_S) => lq_keep_61 (nI i) (nI n) z.1 z.2) ((0:Int32), ρ) = some (nI n, ρ') := f1
  rw [f1']
  have cg : ∀ {α : Type} (y : Option α), cpg (0:Int32) (0:Int32) (nI n) 2048 2048 y = y := by
    intro α y
    unfold cpg
    rw [if_neg]
    intro q
    rw [n_cl (show n < 2147483648 by omega), show (0:Int32).toNatClampNeg = 0 from rfl] at q
    rcases q with q | q | q | q | q
    · exact absurd q (by decide)
    · exact absurd q (by decide)
    · exact n_nneg (by omega) q
    · omega
    · omega
  have i10 : ∀ {α : Type} (z : Option α), ix (nI i) 10 z = z := fun z => n_ix (by omega) (by omega)
  have ci : (nI i).toNatClampNeg = i := n_cl hi
  have g4 : (cl_cp σ 18 (20 + i) 0 0 (nI n)).1 0 4 = nI n := by rw [r_c (by omega)]; exact e1
  rw [i10, ci, vln, s1, nnn, s2, cg, vln, g4, i10, vln (cl_w (cl_cp _ _ _ _ _ _) _ _ _), vln, i10, r_w (show (30:Nat) ≠ 0 by decide), r_ws]
  show CO k _ (eq_keep_61 (nI i) (nI n) (nI n) ρ')
  unfold eq_keep_61
  rw [i10, ci, vln, vln]
  refine ⟨_, _, _, rfl, rfl, h.tx hk (fun a ha => by rw [r_w (by omega), r_w (by omega), r_c (by omega)]) (by rw [r_wk (by decide), r_w (by decide), r_c (by omega)]) rfl rfl rfl (fun c h1 h2 h3 => by rw [q_w h1, q_w (by omega), f3 c (by omega)]) (fun j _ _ h28 _ _ => by rw [q_wk h28, q_w (by decide), f3 0 (by decide)]) (by show ρ'.2 13 = _; rw [f2]) ?_⟩
  have cA : ∀ a, a ≠ 0 → a ≠ 30 → a ≠ 20 + i → (cl_w (cl_w (cl_cp σ 18 (20 + i) 0 0 (nI n)) 30 i (nI n)) 0 4 0).1 a = σ.1 a := fun a h1 h2 h3 => by rw [r_w h1, r_w h2, r_c h3]
  have qA : ∀ c, c ≠ 0 → c ≠ 27 → c ≠ 26 → (rf_w (rf_w ρ' 27 i (nI n)) 0 28 0).1 c = ρ.1 c := fun c h1 h2 h3 => by rw [q_w h1, q_w h2, f3 c h3]
  have fA : ∀ j, j ≠ 28 → (rf_w (rf_w ρ' 27 i (nI n)) 0 28 0).1 0 j = ρ.1 0 j := fun j h1 => by rw [q_wk h1, q_w (by decide), f3 0 (by decide)]
  refine ⟨by rw [cA 1 (by decide) (by decide) (by omega), cA 2 (by decide) (by decide) (by omega), qA 16 (by decide) (by decide) (by decide), fA 26 (by decide)]; exact A.tx, ⟨0, ⟨by omega, r_ws, q_ws⟩, fun j => by rw [cA 18 (by decide) (by decide) (by omega), qA 17 (by decide) (by decide) (by decide)]; exact e3 j⟩, fun i' hi' => ?_, by rw [cA 6 (by decide) (by decide) (by omega), cA 14 (by decide) (by decide) (by omega), fA 43 (by decide), qA 25 (by decide) (by decide) (by decide)]; exact A.sh, by rw [cA 6 (by decide) (by decide) (by omega), fA 41 (by decide)]; exact A.pl⟩
  have c30 : (cl_w (cl_w (cl_cp σ 18 (20 + i) 0 0 (nI n)) 30 i (nI n)) 0 4 0).1 30 i' = if i' = i then nI n else σ.1 30 i' := by rw [r_w (by decide), g_w, r_c (by omega)]; simp only [true_and]
  have q27 : (rf_w (rf_w ρ' 27 i (nI n)) 0 28 0).1 27 i' = if i' = i then nI n else ρ.1 27 i' := by rw [q_w (by decide), g_q, f3 27 (by decide)]; simp only [true_and]
  have q26 : ∀ u, (rf_w (rf_w ρ' 27 i (nI n)) 0 28 0).1 26 u = ρ'.1 26 u := fun u => by rw [q_w (by decide), q_w (by decide)]
  rw [c30, q27]
  by_cases c : i' = i
  · subst c
    rw [if_pos rfl, if_pos rfl]
    refine ⟨n, ⟨hnk, rfl, rfl⟩, fun j hj => ?_⟩
    rw [q26, f5 j (by omega) hj, r_w (by omega), r_w (by omega), r_cs, n_cl (show n < 2147483648 by omega), show (0:Int32).toNatClampNeg = 0 from rfl]
    unfold va_cpy
    rw [if_pos (by omega), show 0 + (j - 0) = j by omega, e3 j]
  · rw [if_neg c, if_neg c]
    obtain ⟨m, hm, hj⟩ := A.kp i' hi'
    refine ⟨m, hm, fun j hjm => ?_⟩
    rw [q26, cA (20 + i') (by omega) (by omega) (by omega), f4 _ (fun v h1 h2 => fun e => ?_)]
    · exact hj j hjm
    · have := kat_dj (i := i') (i' := i) hi' (by omega) (j := j) (j' := v) (by have := hm.1; omega) (by omega) e
      omega
end Z2_M8
