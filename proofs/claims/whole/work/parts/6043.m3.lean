section Z2_M3
variable {K : Bd} {W W' : Wd} {b : Bool} {k s p : Nat} {σ σ' : cl_S} {ρ ρ' : rf_S}
/-- a handle of the OUTSIDE -/
theorem Rel.ohd (h : Rel K W b k σ ρ) (x : Int32) :
    (∃ j t, j < 600 ∧ t < W.N ∧ x = nI (j + 1) ∧ x - 1 = nI j ∧ ρ.1 76 j = nI t ∧ fc_X8_has 38 x σ = some (1, σ) ∧ fq_isOutside x ρ = some (1, ρ) ∧ fc_X8_at 38 x σ = some (some (W.tm t), σ) ∧ fq_outsideAt x ρ = some (nI t, ρ)) ∨
    (fc_X8_has 38 x σ = some (0, σ) ∧ fq_isOutside x ρ = some (0, ρ) ∧ fc_X8_at 38 x σ = some (some 33, σ)) := by
  obtain ⟨hh, B⟩ := h.oB.ou
  have e33 := h.T.C.tms.2.2.1
  have hl := B.hl
  have z1 : ¬ (1:Int32) = 0 := by decide
  have has : fc_X8_has 38 x σ = if x < (1:Int32) then some ((0:Int32), σ) else (if nI hh < x then some ((0:Int32), σ) else some ((1:Int32), σ)) := by
    unfold fc_X8_has bc_X8_has_0
    rw [B.cc]
  unfold fc_X8_at bc_X8_at_0 fq_isOutside bq_isOutside_0 fq_outsideAt bq_outsideAt_0
  rw [has, show ρ.1 0 110 = nI hh from B.cq]
  by_cases c1 : x < (1:Int32)
  · right; rw [if_pos c1, if_pos c1, bd2n, if_pos rfl, vln, e33]; exact ⟨rfl, rfl, rfl⟩
  rw [if_neg c1, if_neg c1]
  by_cases c2 : nI hh < x
  · right; rw [if_pos c2, if_pos c2, bd2n, if_pos rfl, vln, e33]; exact ⟨rfl, rfl, rfl⟩
  rw [if_neg c2, if_neg c2]
  left
  rcases n_cases x with hx | ⟨u, hu, rfl⟩
  · exact absurd (n_neg hx (show (1:Nat) < 2147483648 by omega)).1 c1
  have u1 : 1 ≤ u := by
    apply Classical.byContradiction
    intro q
    exact c1 ((n_lt (a := u) (b := 1) (by omega) (by omega)).mpr (by omega))
  have u2 : u ≤ hh := by
    apply Classical.byContradiction
    intro q
    exact c2 ((n_lt (by omega) (by omega)).mpr (by omega))
  obtain ⟨t, ht, e1, e2⟩ := B.en (u - 1) (by omega)
  have su : nI u - (1:Int32) = nI (u - 1) := n_sub (a := u) (b := 1) u1
  refine ⟨u - 1, t, by omega, ht, by rw [show u - 1 + 1 = u by omega], su, e1, rfl, rfl, ?_, ?_⟩
  · rw [bd2n, if_neg z1, n_ix (show u < cl_th 38 from by rw [B.cs.2.1]; omega) (by rw [B.cs.2.1]; omega), n_cl hu, vln]
    have : u - 1 + 1 = u := by omega
    rw [this] at e2
    rw [show 38 + 1 = 39 from rfl] at *
    rw [e2]
  · rw [su, n_ix (show u - 1 < 600 by omega) (by omega), n_cl (by omega), e1]
/-- the counts and the disk of the machine change alone -/
theorem Rel.dk (h : Rel K W false k σ ρ) (L : Ldk 0 σ σ' ρ ρ') (ct : ∃ n, n ≤ 1000 ∧ σ'.1 47 13 = nI n ∧ ρ'.1 0 54 = nI n) (dk : ∀ d, d < 64 → σ'.1 42 d = ρ'.1 74 d ∧ TO W (σ'.2.2.1 43 d) (ρ'.1 75 d) ∧ (ρ'.1 75 d = -1 → ρ'.1 74 d = 0)) (on : σ'.1 47 8 = ρ'.1 0 51 ∧ (ρ'.1 0 51 = 0 ∨ ρ'.1 0 51 = 1) ∧ (ρ'.1 0 51 = 1 → 0 < W.np)) (bt : ∃ n, ρ.1 0 52 = nI n ∧ σ.1 0 14 = nI n ∧ 2 * n ≤ k + (if ρ'.1 0 51 = 0 then 0 else 1) ∧ ∃ E, ρ.1 0 18 = nI E ∧ E ≤ 16840 * n) (wr : σ'.1 47 14 = ρ'.1 0 53) : Rel K W false k σ' ρ' := by
  have M' : MRel W 0 σ' ρ' := by
    refine L.mr (by omega) h.T h.cf.np.1 h.m0 ?_ ?_ (fun e => by omega)
    · obtain ⟨n, a1, a2, a3⟩ := ct
      exact ⟨n, a1, a2, fun _ => a3, fun e => by omega⟩
    · intro d hd
      rw [show 64 * 0 + d = d by omega]
      exact dk d hd
  exact h.mach (by omega) (L.fr (by omega) h.T) M' (L.oB (by omega) h.T h.oB on bt wr) (fun s' hs' => by rw [L.cR _ (by omega)]) (L.tm (by omega) h.T) (L.bd h.bd) (fun p' hp' => ⟨by rw [L.cI _ (by omega) (by omega)], fun j hj => by rw [L.cI _ (by omega) (by omega)]⟩) (fun e => by cases e)
theorem call_off (h : RC k σ ρ) (hk : k < 64) : CO k (fc_X11_off 0 σ) (fq_off ρ) := by
  obtain ⟨W, R⟩ := id h
  have O := R.oB
  unfold fc_X11_off bc_X11_off_0 fq_off bq_off_0
  refine CO.ite (by rw [O.on.1]) (fun _ _ => CO.same h hk _) (fun c0 _ => ?_)
  obtain ⟨t, -, t1, t2⟩ := R.m0.tk
  rw [vln, vln, show ix (0:Int32) 2 _ = _ from n_ix (a := 0) (n := 2) (by omega) (by omega), show (0:Int32).toNatClampNeg = 0 from rfl, r_wk (by decide), q_w (by decide), show σ.1 47 9 = nI t from t1, t2]
  refine ⟨_, _, _, rfl, rfl, RC.of0 (W := W) ?_ hk (onF_le ρ)⟩
  have L : Ldk 0 σ (cl_w σ 47 8 0) ρ (rf_w ρ 0 51 0) := ⟨fun a h1 h2 => r_w h1, fun j h1 h2 h3 => r_wk h1, fun a h1 => rfl, rfl, rfl, fun c h1 _ _ => q_w h1, fun c j hc _ => by rw [q_w (by omega)], rfl, fun j h1 h2 h3 h4 => q_wk h1, fun e => by omega⟩
  have R' := R.next
  obtain ⟨m, m0, m1, m2, m3⟩ := R'.m0.ct
  refine R'.dk L ⟨m, m0, by rw [r_wk (by decide)]; exact m1, by rw [q_wk (by decide)]; exact m2 rfl⟩ (fun d hd => ?_) ⟨by rw [r_ws, q_ws], Or.inl q_ws, fun q => by rw [q_ws] at q; exact absurd q (by decide)⟩ ?_ (by rw [r_wk (by decide), q_wk (by decide)]; exact O.wr)
  · rw [r_w (by decide), q_w (by decide), q_w (by decide)]
    have := R.m0.dk d hd
    rw [show 64 * 0 + d = d by omega] at this
    exact this
  · obtain ⟨m, b1, b2, b3, b4⟩ := O.bt
    rw [q_ws, if_pos rfl]
    have h51 : ¬ ρ.1 0 51 = 0 := by rw [← O.on.1]; exact c0
    rw [if_neg h51] at b3
    exact ⟨m, b2, b1, by omega, b4⟩
theorem call_cut (h : RC k σ ρ) (hk : k < 64) (x : Int32) : CO k (fc_X11_cut 0 x σ) (fq_cut x ρ) := by
  obtain ⟨W, R⟩ := id h
  have O := R.oB
  unfold fc_X11_cut bc_X11_cut_0 fq_cut bq_cut_0
  refine CO.ite Iff.rfl (fun _ _ => CO.same h hk _) (fun c0 _ => ?_)
  refine CO.ite Iff.rfl (fun c1 _ => ?_) (fun _ _ => CO.same h hk _)
  refine CO.ite (by rw [O.on.1]) (fun _ _ => CO.same h hk _) (fun c2 _ => ?_)
  rcases n_cases x with hx | ⟨u, hu, rfl⟩
  · exact absurd hx c0
  have hu1 : u ≤ 1000 := (n_le (a := u) (b := 1000) hu (by omega)).mp c1
  rw [vln, vln]
  refine ⟨_, _, _, rfl, rfl, RC.of0 (W := W) ?_ hk (onF_le ρ)⟩
  have L : Ldk 0 σ (cl_w σ 47 13 (nI u)) ρ (rf_w ρ 0 54 (nI u)) := ⟨fun a h1 h2 => r_w h1, fun j h1 h2 h3 => r_wk h2, fun a h1 => rfl, rfl, rfl, fun c h1 _ _ => q_w h1, fun c j hc _ => by rw [q_w (by omega)], rfl, fun j h1 h2 h3 h4 => q_wk h3, fun e => by omega⟩
  have R' := R.next
  refine R'.dk L ⟨u, hu1, r_ws, q_ws⟩ (fun d hd => ?_) (by rw [r_wk (by decide), q_wk (by decide)]; exact O.on) ?_ (by rw [r_wk (by decide), q_wk (by decide)]; exact O.wr)
  · rw [r_w (by decide), q_w (by decide), q_w (by decide)]
    have := R.m0.dk d hd
    rw [show 64 * 0 + d = d by omega] at this
    exact this
  · obtain ⟨m, b1, b2, b3, b4⟩ := R'.oB.bt
    rw [q_wk (by decide)]
    exact ⟨m, b2, b1, b3, b4⟩
/-- a BLOCK is written from the OUTSIDE -/
theorem RC.put (h : RC k σ ρ) (hk : k < 64) {i : Nat} (hi : i < 64) (vv : Int32) (r : Option Nat) (v : Int32) (hr : ∀ W n, Rel (KB k n) W false k σ ρ → TO W r v ∧ (v = -1 → vv = 0)) : RC (k + 1) (cl_wr (cl_w σ 42 i vv) 43 i r) (rf_w (rf_w ρ 74 i vv) 75 i v) := by
  obtain ⟨W, R⟩ := id h
  obtain ⟨t1, t2⟩ := hr W _ R
  have O := R.oB
  refine RC.of0 (W := W) ?_ hk (onF_le ρ)
  have L : Ldk 0 σ (cl_wr (cl_w σ 42 i vv) 43 i r) ρ (rf_w (rf_w ρ 74 i vv) 75 i v) := by
    refine ⟨fun a h1 h2 => by rw [r_rI, r_w h2], fun j h1 h2 h3 => by rw [r_rI, r_w (by decide)], fun a h1 => by rw [r_r h1, r_wL], rfl, rfl, fun c h1 h2 h3 => by rw [q_w h3, q_w h2], fun c j hc hj => ?_, rfl, fun j h1 h2 h3 h4 => by rw [q_w (by decide), q_w (by decide)], fun e => by omega⟩
    rw [g_q, if_neg (by omega), g_q, if_neg (by omega)]
  have R' := R.next
  obtain ⟨m, m0, m1, m2, m3⟩ := R'.m0.ct
  refine R'.dk L ⟨m, m0, by rw [r_rI, r_w (by decide)]; exact m1, by rw [q_w (by decide), q_w (by decide)]; exact m2 rfl⟩ (fun d hd => ?_) (by rw [r_rI, r_w (by decide), q_w (by decide), q_w (by decide)]; exact O.on) ?_ (by rw [r_rI, r_w (by decide), q_w (by decide), q_w (by decide)]; exact O.wr)
  · have q := R.m0.dk d hd
    rw [show 64 * 0 + d = d by omega] at q
    rw [r_rI, g_w, q_w (show (74:Nat) ≠ 75 by decide), g_q, g_q, q_w (show (75:Nat) ≠ 74 by decide), g_r, r_wL]
    simp only [true_and]
    by_cases c : d = i
    · rw [if_pos c, if_pos c, if_pos c, if_pos c]; exact ⟨rfl, t1, t2⟩
    · rw [if_neg c, if_neg c, if_neg c, if_neg c]; exact q
  · obtain ⟨m, b1, b2, b3, b4⟩ := R'.oB.bt
    rw [q_w (by decide), q_w (by decide)]
    exact ⟨m, b2, b1, b3, b4⟩
theorem call_put (h : RC k σ ρ) (hk : k < 64) (x1 x2 x3 : Int32) : CO k (fc_X11_put 0 x1 x2 x3 σ) (fq_put x1 x2 x3 ρ) := by
  obtain ⟨W, R⟩ := id h
  have O := R.oB
  have hN := R.T.Q.n.2
  unfold fc_X11_put bc_X11_put_0 fq_put bq_put_0
  refine CO.ite Iff.rfl (fun _ _ => CO.same h hk _) (fun c0 _ => ?_)
  rcases n_cases x1 with hx | ⟨i, hi, rfl⟩
  · exact absurd hx c0
  refine CO.ite (by rw [show (64:Int32) = nI 64 from rfl, show (63:Int32) = nI 63 from rfl, n_le (by omega) hi, n_lt (by omega) hi]; omega) (fun _ _ => CO.same h hk _) (fun c1 _ => ?_)
  have hi6 : i < 64 := by rw [show (64:Int32) = nI 64 from rfl, n_le (by omega) hi] at c1; omega
  have fill : ∀ (vv : Int32) (r : Option Nat), fc_X3_fill 41 (nI i) vv r σ = some (cl_wr (cl_w σ 42 i vv) 43 i r) := by
    intro vv r
    unfold fc_X3_fill bc_X3_fill_0
    rw [if_neg (n_nneg hi), if_neg c1, n_ix hi6 (by omega), n_cl hi, vln, n_ix hi6 (by omega), vln]
  by_cases c3 : x3 = 0
  · rw [if_pos c3, if_pos c3]
    unfold bc_X11_put_27 bq_put_24
    rw [if_pos c3, if_pos c3]
    unfold bc_X11_put_39 bq_put_36
    rw [if_pos c3, if_pos c3]
    unfold bq_put_60 bq_put_82
    refine CO.ite (by rw [O.on.1]) (fun _ _ => ?_) (fun _ _ => CO.same h hk _)
    unfold fc_X3_empty bc_X3_empty_0
    rw [fill, bd1n, bd1n, n_ix (show i < 128 by omega) (by omega), n_cl hi, vln, if_pos c3, n_ix (show i < 128 by omega) (by omega), vln]
    exact ⟨_, _, _, rfl, rfl, h.put hk hi6 0 (some 33) (-1) (fun W n R => ⟨Or.inl ⟨rfl, rfl⟩, fun _ => rfl⟩)⟩
  · rw [if_neg c3, if_neg c3]
    rcases R.ohd x3 with ⟨j, t, hj, ht, e1, e2, e3, e4, e5, e6, e7⟩ | ⟨e4, e5, e6⟩
    · rw [e4, e5, bd2n, bd2n, if_neg (by decide), if_neg (by decide)]
      unfold bc_X11_put_27 bq_put_24
      rw [if_neg c3, if_neg c3]
      refine CO.ite Iff.rfl (fun cv _ => ?_) (fun _ _ => CO.same h hk _)
      unfold bc_X11_put_39 bq_put_36 bq_put_60 bq_put_82
      refine CO.ite (by rw [O.on.1]) (fun _ _ => ?_) (fun _ _ => CO.same h hk _)
      rw [if_neg c3, if_neg c3, e6, bd2n, fill, bd1n, n_ix (show i < 128 by omega) (by omega), n_cl hi, vln, if_neg c3, e2, n_ix hj (by omega), n_cl (by omega), q_w (by decide), e3, n_ix (show i < 128 by omega) (by omega), vln]
      refine ⟨_, _, _, rfl, rfl, h.put hk hi6 x2 (some (W.tm t)) (nI t) (fun W' n' R' => ⟨?_, fun q => absurd q (n_m1 (by omega))⟩)⟩
      rcases R'.ohd x3 with ⟨j', t', hj', ht', e1', e2', e3', e4', e5', e6', e7'⟩ | ⟨e4', -⟩
      · have hjj : j' = j := (n_eq (by omega) (by omega)).mp (e2'.symm.trans e2)
        subst hjj
        have q1 := e6'.symm.trans e6
        have q2 := Option.some.inj q1
        rw [Prod.mk.injEq] at q2
        have q3 := R'.T.Q.n.2
        have : t' = t := (n_eq (by omega) (by omega)).mp (e3'.symm.trans e3)
        subst this
        exact Or.inr ⟨t', ht', rfl, q2.1.symm⟩
      · rw [e4] at e4'
        have := Option.some.inj e4'
        rw [Prod.mk.injEq] at this
        exact absurd this.1 (by decide)
    · rw [e4, e5, bd2n, bd2n, if_pos rfl, if_pos rfl]
      exact CO.same h hk _
theorem call_run (h : RC k σ ρ) (hk : k < 64) (x : Int32) : CO k (fc_X11_run 0 x σ) (fq_run x ρ) := by
  obtain ⟨W, R⟩ := id h
  have O := R.oB
  unfold fc_X11_run bc_X11_run_0 fq_run bq_run_0
  refine CO.ite Iff.rfl (fun _ _ => CO.same h hk _) (fun c0 _ => ?_)
  refine CO.ite Iff.rfl (fun c1 _ => ?_) (fun _ _ => CO.same h hk _)
  refine CO.ite (by rw [O.on.1]) (fun _ _ => CO.same h hk _) (fun c2 _ => ?_)
  rcases n_cases x with hx | ⟨u, hu, rfl⟩
  · exact absurd hx c0
  have hu2 : u ≤ 2000 := (n_le (a := u) (b := 2000) hu (by omega)).mp c1
  obtain ⟨t, ht6, t1, t2⟩ := R.m0.tk
  rw [show ix (0:Int32) 2 _ = _ from n_ix (a := 0) (n := 2) (by omega) (by omega), show (0:Int32).toNatClampNeg = 0 from rfl, show σ.1 47 9 = nI t from t1, t2, n_add]
  refine CO.ite Iff.rfl (fun c3 _ => ?_) (fun _ _ => CO.same h hk _)
  have htu : t + u ≤ 60000 := (n_le (a := t + u) (b := 60000) (by omega) (by omega)).mp c3
  have R' := R.next
  have h51 : ¬ ρ.1 0 51 = 0 := by rw [← O.on.1]; exact c2
  have on1 : ρ.1 0 51 = 1 := by rcases O.on.2.1 with q | q; exact absurd q h51; exact q
  have T : Tk (KB k (onF ρ)) W false (k + 1) 0 σ (rf_w ρ 0 79 0) := by
    refine ⟨R'.sc (fun c hc _ => q_w hc) (fun j hj => q_wk (by unfold use at hj; omega)) rfl, Or.inl ⟨rfl, rfl⟩, O.on.2.2 on1, q_ws, ?_, fun _ => ?_⟩
    · show σ.1 47 8 = 1
      rw [O.on.1, on1]
    · obtain ⟨m, b1, b2, b3, b4⟩ := O.bt
      rw [if_neg h51] at b3
      exact ⟨m, by rw [q_wk (by decide)]; exact b2, by omega, by rw [q_wk (by decide)]; exact b4⟩
  obtain ⟨d, σ', ρ', f1, f2, f3, f4⟩ := run_n (g := true) (KB_v (by omega) (onF_le ρ)) (fun _ => rfl) T (n := u) (t := t) (by rw [q_w (by decide)]; exact t2) htu
  have f1' : fc_X5_runTicks 47 (nI u) σ = some (nI d, σ') := f1
  have lq := q_runlp (n := u) (by omega) u 0 (rf_w ρ 0 79 0) d ρ' (by omega) (by omega) f2
  rw [Nat.zero_add] at lq
  have lq' : lp (fun z : (Int32 × rf_S) => lq_run_48 (nI u) z.1 z.2) ((0:Int32), rf_w ρ 0 79 0) = some (nI d, ρ') := lq
  unfold bq_run_48
  rw [f1', bd2n, vln, lq']
  have fin : ∀ W', Rel (KB k (onF ρ)) W' false (k + 1) σ' ρ' → CO k (some (nI d, σ')) ((some (nI d, ρ')).bind fun z => eq_run_48 (nI u) z.1 z.2) := fun W' R2 => ⟨_, _, _, rfl, rfl, RC.of0 R2 hk (onF_le ρ)⟩
  rcases f4 with ⟨-, W', -, T', -⟩ | ⟨-, W', -, -, -, R2, -⟩
  · exact fin W' T'.R
  · exact fin W' R2
end Z2_M3
