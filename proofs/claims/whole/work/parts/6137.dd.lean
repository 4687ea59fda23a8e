section Z2_DD
variable {K : Bd} {W W' : Wd} {b : Bool} {k s p q : Nat} {σ σ' : cl_S} {ρ ρ' : rf_S} {N : Nat}
/-- the inputs, on both sides -/
theorem ipt (h : Tk K W true k 1 σ ρ) (hk : k < 500) {n T0 : Nat} (en : ρ.1 0 78 = nI n) (hn : n < 500) (e0 : ρ.1 48 0 = nI T0) (hT : T0 ≤ 60000) : σ.1 47 15 = nI n ∧ (∀ j, j < n → ∃ u q, σ.1 79 j = nI u ∧ ρ.1 44 j = nI u ∧ u ≤ T0 ∧ σ.1 80 j = nI q ∧ ρ.1 45 j = nI q ∧ q < W.np) ∧ (∀ i j, i < j → j < n → (ρ.1 44 i).toNatClampNeg ≤ (ρ.1 44 j).toNatClampNeg) := by
  obtain ⟨n', hn', c1, c2, c3, c4⟩ := h.R.oB.ip
  have enn : n' = n := (n_eq (by omega) (by omega)).mp (c2.symm.trans en)
  subst enn
  refine ⟨c1, fun j hj => ?_, c4⟩
  obtain ⟨t, q, a1, a2, a3, a4, a5, hq, ho⟩ := c3 j hj
  rw [e0, n_cl (show T0 < 2147483648 by omega)] at a3
  exact ⟨t, q, a1, a2, a3, a4, a5, hq⟩
theorem q_one {x2 x3 : Int32} {i t n T0 q : Nat} (hp : p < 8) (e0 : ρ.1 48 0 = nI T0) (e0' : ρ'.1 48 0 = nI T0) (ht : t < T0) (hT : T0 ≤ 60000) (en : ρ.1 0 78 = nI n) (hn : n < 500) (hi : i < n) (e44 : ρ.1 44 i = nI t) (e45 : ρ.1 45 i = nI q) (hq : q < 8) (hd : (ρ.1 37 (8 * q + p) = 0 ∧ ρ' = ρ) ∨ (¬ ρ.1 37 (8 * q + p) = 0 ∧ fq_deliver (nI i) ρ = some ρ')) : lq_purge_53 (nI p) x2 x3 (nI i) (nI t) ρ = lq_purge_53 (nI p) x2 x3 (nI (i + 1)) (nI t) ρ' := by
  have i5 : ∀ {α : Type} (z : Option α), ix (nI i) 500 z = z := fun z => n_ix (by omega) (by omega)
  have ci : (nI i).toNatClampNeg = i := n_cl (by omega)
  have t1 : ∀ τ : rf_S, bq_purge_111i64 (nI p) x2 x3 (nI i) (nI t) τ = some (.inl (nI (i + 1), τ)) := fun τ => by
    unfold bq_purge_111i64
    rw [vln, show nI i + (1:Int32) = nI (i + 1) from n_add i 1]
  have st : lq_purge_64i53 (nI p) x2 x3 (nI t) (nI i) ρ = some (.inl (nI (i + 1), ρ')) := by
    unfold lq_purge_64i53
    rw [en, if_neg (fun w => by have := (n_le (by omega) (by omega)).mp w; omega), i5, ci, e44, if_pos rfl, i5, e45, show (8:Int32) * nI q + nI p = nI (8 * q + p) by rw [show (8:Int32) = nI 8 from rfl, n_mul, n_add], n_ix (show 8 * q + p < 64 by omega) (by omega), n_cl (show 8 * q + p < 2147483648 by omega)]
    rcases hd with ⟨d1, rfl⟩ | ⟨d1, d2⟩
    · rw [if_pos d1, t1]
    · rw [if_neg d1, d2, bd1n, t1]
  have ie := lp_next (body := fun z : (Int32 × rf_S) => lq_purge_64i53 (nI p) x2 x3 (nI t) z.1 z.2) (s := (nI i, ρ)) st
  have cnd : ¬ nI T0 ≤ nI t := fun w => by have := (n_le (by omega) (by omega)).mp w; omega
  unfold lq_purge_53
  rw [show ∀ {α : Type} (z : Option α), ix (0:Int32) 2 z = z from fun z => n_ix (a := 0) (n := 2) (by omega) (by omega), show ∀ {α : Type} (z : Option α), ix (0:Int32) 2 z = z from fun z => n_ix (a := 0) (n := 2) (by omega) (by omega), show (0:Int32).toNatClampNeg = 0 from rfl, e0, e0', if_neg cnd, if_neg cnd]
  unfold bq_purge_64i53
  rw [ie]
theorem run_again {x2 x3 : Int32} {mk : Nat} (v : KV K) (h : Tk K W true k 1 σ ρ) (hk : k < 500) (e48 : ρ.1 48 1 = nI 0) (hmk : BitF mk (flR W p 8)) (hp : p < 8) {T0 : Nat} (e0 : ρ.1 48 0 = nI T0) (hT : T0 ≤ 60000) : ∃ σe ρe ρs W2 i', bc_X5_repeat_91 179 (some 47) (nI mk) (0:Int32) σ = some (cl_w σe 179 8 (0:Int32)) ∧ lp (fun z : (Int32 × Int32 × rf_S) => lq_purge_53 (nI p) x2 x3 z.1 z.2.1 z.2.2) ((0:Int32), (0:Int32), ρ) = some (i', nI T0, ρe) ∧ W.le W2 ∧ Tk K W2 true k 1 σe ρs ∧ Qw ρe ρs := by
  obtain ⟨n, hn', c1, c2, c3, c4⟩ := h.R.oB.ip
  have hn : n < 500 := by omega
  have en := c2
  have stp : ∀ i (ρ1 : rf_S), ρ1.1 48 0 = nI T0 → lp (fun z : (Int32 × Int32 × rf_S) => lq_purge_53 (nI p) x2 x3 z.1 z.2.1 z.2.2) (i, nI T0, ρ1) = some (i, nI T0, ρ1) := fun i ρ1 e => by
    refine lp_end ?_
    show lq_purge_53 (nI p) x2 x3 i (nI T0) ρ1 = _
    unfold lq_purge_53
    rw [show ix (0:Int32) 2 _ = _ from n_ix (a := 0) (n := 2) (by omega) (by omega), show (0:Int32).toNatClampNeg = 0 from rfl, e, if_pos (Int32.le_refl _)]
  have frz' : ∀ {τ : cl_S} {ρ1 : rf_S} {W1 : Wd}, W.le W1 → Tk K W1 true k 1 τ ρ1 → ρ1.1 0 78 = nI n ∧ ρ1.1 48 0 = nI T0 ∧ (∀ j, j < n → ρ1.1 44 j = ρ.1 44 j) := fun {τ ρ1 W1} le T => by
    obtain ⟨z1, z2, z3⟩ := fz_eq (h.R.fz rfl) (T.R.fz rfl) le.ln
    exact ⟨by rw [z3]; exact en, by rw [z1 48 0 (by omega) (by omega) (by omega) (nS1 (by omega))]; exact e0, fun j hj => z1 44 j (by omega) (by omega) (by omega) (nS1 (by omega))⟩
  have tk9 : ∀ {τ : cl_S} {ρ1 : rf_S} {W1 : Wd} {t : Nat}, Tk K W1 true k 1 τ ρ1 → ρ1.1 48 1 = nI t → τ.1 179 9 = nI t := fun {τ ρ1 W1 t} T e => by
    obtain ⟨t', -, a1, a2⟩ := T.M.tk
    exact a1.trans (a2.symm.trans e)
  obtain ⟨σn, en1, ρs, Wn, t, le, T, et, htT, -, fin⟩ := lp_cnt (S := cl_S) (f := fun x4 σ => lc_X5_repeat_91 179 (some 47) (nI mk) x4 σ) (n := n) (fun i τ => ∃ ρs W' t, W.le W' ∧ Tk K W' true k 1 τ ρs ∧ ρs.1 48 1 = nI t ∧ t ≤ T0 ∧ (∀ j, i ≤ j → j < n → t ≤ (ρ.1 44 j).toNatClampNeg) ∧ (lp (fun z : (Int32 × Int32 × rf_S) => lq_purge_53 (nI p) x2 x3 z.1 z.2.1 z.2.2) ((0:Int32), (0:Int32), ρ) = lp (fun z : (Int32 × Int32 × rf_S) => lq_purge_53 (nI p) x2 x3 z.1 z.2.1 z.2.2) (nI i, nI t, ρs) ∨ (t = T0 ∧ ∃ i' ρe, lp (fun z : (Int32 × Int32 × rf_S) => lq_purge_53 (nI p) x2 x3 z.1 z.2.1 z.2.2) ((0:Int32), (0:Int32), ρ) = some (i', nI T0, ρe) ∧ Qw ρe ρs))) (by
    rintro i τ hi ⟨ρs, W', t, le, T, et, htT, ord, fin⟩
    obtain ⟨f1, f2, f3⟩ := frz' le T
    obtain ⟨g1, g2, g3⟩ := ipt T hk f1 hn f2 hT
    obtain ⟨u, q0, a1, a2, a3, -, -, -⟩ := g2 i hi
    have hu : (ρ.1 44 i).toNatClampNeg = u := by rw [← f3 i hi, a2, n_cl (by omega)]
    have tu : t ≤ u := by have := ord i (Nat.le_refl _) hi; omega
    obtain ⟨W1, σ1, ρ1, b1, b2, b3, b4, b5, b6⟩ := tks (x1 := nI p) (x2 := x2) (x3 := x3) v T (i := i) (t := t) (n := n) (T0 := T0) et f2 hT f1 hn (by omega) (u - t) (by omega) (fun _ => ⟨u, a2, by omega, by omega⟩)
    rw [show t + (u - t) = u by omega] at b5 b6
    have le1 := le.trans b3
    obtain ⟨k1, k2, k3⟩ := frz' le1 b4
    obtain ⟨q, hq, d1, d2, σ2, ρ2, d3, d4, d5, d6⟩ := dlv b4 hk hi k1 hn
    have np8 := b4.R.cf.np.1
    have q8 : q < 8 := by omega
    have flw : ρ1.1 37 (8 * q + p) = if flR W p 8 q then 1 else 0 := by
      have := b4.R.cf.fl q p q8 hp (Nat.lt_of_le_of_lt (Nat.zero_le _) hq)
      rw [flR_cg (W := W) (W' := W1) le1.to le1.fr le1.nc] at this
      exact this
    have bit : (nI mk >>> (nI q &&& 31)) &&& (1:Int32) = if flR W p 8 q then 1 else 0 := by rw [i_bit0 mk hmk.1 q q8, hmk.2 q q8]
    have t96 : ∀ τ' : cl_S, bc_X5_repeat_147i91 179 (some 47) (nI mk) (nI i) τ' = some (.inl (nI (i + 1), τ')) := fun τ' => by
      unfold bc_X5_repeat_147i91
      rw [vln, show nI i + (1:Int32) = nI (i + 1) from n_add i 1]
    have i5 : ∀ {α : Type} (z : Option α), ix (nI i) 500 z = z := fun z => n_ix (by omega) (by omega)
    have step : ∀ z, (if flR W p 8 q then some (.inl (nI (i + 1), σ2)) else some (.inl (nI (i + 1), σ1))) = z → lc_X5_repeat_91 179 (some 47) (nI mk) (nI i) τ = z := fun z hz => by
      unfold lc_X5_repeat_91
      rw [nnn, g1, if_neg (fun w => by have := (n_le (by omega) (by omega)).mp w; omega), if_neg (show ¬ (500:Int32) ≤ nI i from fun w => by have := (n_le (a := 500) (b := i) (by omega) (by omega)).mp w; omega), i5, show 47 + 32 + cl_md 47 = 79 from rfl, show 47 + 33 + cl_md 47 = 80 from rfl, n_cl (show i < 2147483648 by omega), a1, tk9 T et, n_sub tu, b2, bd2n, i5, d2, bit, d3, bd1n, t96, t96, ← hz]
      cases flR W p 8 q with
      | true => rfl
      | false => rfl
    have mono : ∀ j, i + 1 ≤ j → j < n → u ≤ (ρ.1 44 j).toNatClampNeg := fun j h1 h2 => by
      have := g3 i j (by omega) h2
      rw [f3 i hi, f3 j h2] at this
      omega
    have nxt : ∀ ρ2, Qw ρ1 ρ2 → (u < T0 → lq_purge_53 (nI p) x2 x3 (nI i) (nI u) ρ1 = lq_purge_53 (nI p) x2 x3 (nI (i + 1)) (nI u) ρ2) → (lp (fun z : (Int32 × Int32 × rf_S) => lq_purge_53 (nI p) x2 x3 z.1 z.2.1 z.2.2) ((0:Int32), (0:Int32), ρ) = lp (fun z : (Int32 × Int32 × rf_S) => lq_purge_53 (nI p) x2 x3 z.1 z.2.1 z.2.2) (nI (i + 1), nI u, ρ2) ∨ (u = T0 ∧ ∃ i' ρe, lp (fun z : (Int32 × Int32 × rf_S) => lq_purge_53 (nI p) x2 x3 z.1 z.2.1 z.2.2) ((0:Int32), (0:Int32), ρ) = some (i', nI T0, ρe) ∧ Qw ρe ρ2)) := fun ρ2 w1 w2 => by
      rcases fin with fin | ⟨ft, i', ρe, fe, fw⟩
      · by_cases c : u < T0
        · left
          rw [fin, b6]
          exact lp_same (body := fun z : (Int32 × Int32 × rf_S) => lq_purge_53 (nI p) x2 x3 z.1 z.2.1 z.2.2) (w2 c)
        · right
          have uT : u = T0 := by omega
          refine ⟨uT, nI i, ρ1, ?_, w1⟩
          rw [fin, b6, uT]
          exact stp _ _ k2
      · right
        have uT : u = T0 := by omega
        refine ⟨uT, i', ρe, fe, fw.trans ?_⟩
        rw [show u - t = 0 by omega] at b1
        have : some (0, ρs) = some (0, ρ1) := b1
        rw [(Prod.mk.inj (Option.some.inj this)).2]
        exact w1
    cases hf : flR W p 8 q with
    | true =>
      refine ⟨σ2, step _ (by rw [hf]; rfl), ρ2, W1, u, le1, d5, ?_, a3, mono, nxt ρ2 d6 (fun c => q_one hp k2 (frz' le1 d5).2.1 c hT k1 hn hi (by rw [k3 i hi, ← f3 i hi]; exact a2) d1 q8 (Or.inr ⟨by rw [flw, hf]; decide, d4⟩))⟩
      rw [d6.1 48 1 (by omega)]; exact b5
    | false =>
      exact ⟨σ1, step _ (by rw [hf]; rfl), ρ1, W1, u, le1, b4, b5, a3, mono, nxt ρ1 (Qw.refl _) (fun c => q_one hp k2 k2 c hT k1 hn hi (by rw [k3 i hi, ← f3 i hi]; exact a2) d1 q8 (Or.inl ⟨by rw [flw, hf]; rfl, rfl⟩))⟩) (by
    rintro τ ⟨ρs, W', t, le, T, et, htT, ord, fin⟩
    obtain ⟨f1, f2, f3⟩ := frz' le T
    obtain ⟨g1, -, -⟩ := ipt T hk f1 hn f2 hT
    show lc_X5_repeat_91 179 (some 47) (nI mk) (nI n) τ = _
    unfold lc_X5_repeat_91
    rw [nnn, g1, if_pos (Int32.le_refl _)]) n 0 σ (by omega) (by omega) ⟨ρ, W, 0, Wd.le.refl W, h, e48, Nat.zero_le _, fun _ _ _ => Nat.zero_le _, Or.inl rfl⟩
  obtain ⟨f1, f2, f3⟩ := frz' le T
  obtain ⟨W1, σ1, ρ1, b1, b2, b3, b4, b5, b6⟩ := tks (x1 := nI p) (x2 := x2) (x3 := x3) v T (i := n) (t := t) (n := n) (T0 := T0) et f2 hT f1 hn (by omega) (T0 - t) (by omega) (fun c => absurd c (by omega))
  rw [show t + (T0 - t) = T0 by omega] at b5 b6
  have ec : bc_X5_repeat_91 179 (some 47) (nI mk) (0:Int32) σ = some (cl_w σ1 179 8 (0:Int32)) := by
    unfold bc_X5_repeat_91
    rw [show lp (fun z : (Int32 × cl_S) => lc_X5_repeat_91 179 (some 47) (nI mk) z.1 z.2) ((0:Int32), σ) = _ from en1, Option.bind_some]
    show bc_X5_repeat_153 179 (some 47) σn = _
    have t0 : σn.1 47 9 = nI T0 := by
      obtain ⟨t', -, a1, a2⟩ := T.R.m0.tk
      exact a1.trans (a2.symm.trans f2)
    unfold bc_X5_repeat_153
    rw [nnn, t0, tk9 T et, n_sub htT, b2, bd2n, vln]
  have le1 := le.trans b3
  rcases fin with fin | ⟨ft, i', ρe, fe, fw⟩
  · exact ⟨σ1, ρ1, ρ1, W1, nI n, ec, by rw [fin, b6]; exact stp _ _ (frz' le1 b4).2.1, le1, b4, Qw.refl _⟩
  · refine ⟨σ1, ρe, ρ1, W1, i', ec, fe, le1, b4, ?_⟩
    rw [show T0 - t = 0 by omega] at b1
    have : some (0, ρs) = some (0, ρ1) := b1
    rw [← (Prod.mk.inj (Option.some.inj this)).2]
    exact fw
end Z2_DD
