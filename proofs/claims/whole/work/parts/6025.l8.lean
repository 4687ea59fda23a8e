section Z2_L8
variable {K : Bd} {W W' : Wd} {b : Bool} {k s p : Nat} {σ σ' : cl_S} {ρ ρ' : rf_S}
theorem bd2n {α β γ : Type} (a : α) (b : β) (f : α → β → Option γ) : bd2 (some (a, b)) f = f a b := Eq.trans (bd2_eq a b f) (Eq.refl _)
theorem ask_measured (h : Ak K W b k s p σ ρ) : Sim (vl (σ.2.2.1 (83 + 135 * s + 12 * p) 16) (fun r_223 => bd2 (fc_X8_comeIn (92 + 135 * s + 12 * p) r_223 σ) (fun r_227 σ_226 => some (r_227, σ_226)))) (ix (ρ.1 0 118) 8 (bd2 (fq_comes (ρ.1 39 (ρ.1 0 118).toNatClampNeg) ρ) (fun r_12 ρ_11 => some (r_12, ρ_11)))) (AkO K W b k s p ρ) := by
  have p8 := h.p8
  obtain ⟨t, ht, e1, e2⟩ := h.P.ms.ms
  rw [h.me, n_ix p8 (by omega), n_cl (by omega), e1, e2, vl_eq]
  exact Sim.bd2 (comes_out h ht) (fun _ _ _ _ q => Sim.mk q)
theorem ask_public (h : Ak K W b k s p σ ρ) : Sim (vl (σ.2.2.1 31 7) (fun r_241 => bd2 (fc_X8_comeIn (92 + 135 * s + 12 * p) r_241 σ) (fun r_245 σ_244 => some (r_245, σ_244)))) (bd2 (fq_comes (ρ.1 0 21) ρ) (fun r_8 ρ_7 => some (r_8, ρ_7))) (AkO K W b k s p ρ) := by
  obtain ⟨k1, -, -, k2, -, -, k3⟩ := h.R.T.k0
  have e7 := h.R.T.C.tms.2.2.2.2.2
  rw [e7, k3, vl_eq, ← k2]
  exact Sim.bd2 (comes_out h k1) (fun _ _ _ _ q => Sim.mk q)
/-- a TERM that the reference has not yet, and a table with room: what was owed for one more is paid with it -/
theorem Ak.mkN {K0 : Bd} (v : KV K0) (h : Ak (K0.up 1) W b k s p σ ρ) {kk : Nat} {n : Int32} {x y z : Nat} {a1 b1 c1 : Int32} (hk : kk < 10) (k1 : kk ≠ 1) (k2 : kk ≠ 2) (ha : argR W.tm W.N kk n x y z a1 b1 c1) (hno : ∀ t, t < W.N → ¬ kyQ ρ t (nI kk) a1 b1 c1) {hh : Nat} (e61 : ρ.1 61 (8 * s + p) = nI hh) (hlt : hh < 100) :
    Sim (fc_X8_comeInMade (92 + 135 * s + 12 * p) (nI kk) n (some x) (some y) (some z) σ) (fq_made (nI kk) a1 b1 c1 ρ) (AkO K0 W b k s p ρ) := by
  have s2 := h.s2
  have p8 := h.p8
  have bdn := h.R.bd.n
  have bdl := h.R.bd.l
  have bdc := h.R.bd.c
  have bds := h.R.bd.s
  have u1 : (K0.up 1).kn = K0.kn + 1 := rfl
  have u2 : (K0.up 1).kl = K0.kl + 1 := rfl
  have u3 : (K0.up 1).kc = K0.kc := rfl
  have u4 : (K0.up 1).ks = K0.ks := rfl
  unfold KV at v
  have e33 := h.R.T.C.tms.2.2.1
  have ne : ∀ {u : Nat}, u ∈ W.ts → ¬ (some u = some 33) := fun hu q => by have := h.R.T.C.mem _ hu; have := Option.some.inj q; omega
  obtain ⟨⟨hh', B, -⟩, tf⟩ := h.P.tb
  have hl := B.hl
  have : hh' = hh := by
    have := B.cq
    rw [e61] at this
    exact ((n_eq (by omega) (by omega)).mp this).symm
  subst this
  have nf : ¬ ρ.1 61 (8 * s + p) = (100:Int32) := by
    rw [e61, show (100:Int32) = nI 100 from rfl, n_eq (by omega) (by omega)]; omega
  have isF : fc_X8_isFull (92 + 135 * s + 12 * p) σ = some (0, σ) := by
    unfold fc_X8_isFull bc_X8_isFull_0
    rw [B.cc, B.lm, if_pos ((n_lt (by omega) (by omega)).mpr hlt)]
  unfold fc_X8_comeInMade bc_X8_comeInMade_0 bc_X8_comeInMade_54 fq_made bq_made_0 bq_made_33
  have ext : ∀ {x : Option (Int32 × cl_S)} {y : Option (Int32 × rf_S)} {P : Int32 × cl_S → Int32 × rf_S → Prop}, Sim x y P → Sim (bd2 x (fun r σ => some (r, σ))) (bd2 y (fun r ρ => some (r, ρ))) P := fun q => Sim.bd2 q (fun _ _ _ _ q => Sim.mk q)
  have fresh : ∀ ρ' : rf_S, QFr ρ ρ' → ∀ j n, n ≤ 100 → ρ'.1 61 (8 * s + p) = nI n → j < n → ρ'.1 60 (100 * (8 * s + p) + j) ≠ nI W.N := by
    intro ρ' F j n hn en hj qq
    rw [F.o 61 (by omega), B.cq] at en
    rw [F.o 60 (by omega)] at qq
    have : n = hh' := ((n_eq (by omega) (by omega)).mp en).symm
    subst this
    obtain ⟨t, ht, et, -⟩ := B.en j hj
    have et' : ρ.1 60 (100 * (8 * s + p) + j) = nI t := et
    rw [et'] at qq
    have hN := h.R.T.Q.n.2
    have := (n_eq (by omega) (by omega)).mp qq
    omega
  rcases t_mk h.R.T hk k1 k2 ha with ⟨t, ht, e1, e2⟩ | ⟨vv, hv, ev, ⟨e, he, h33, hni, e1, add⟩ | ⟨e1, add⟩⟩
  · exfalso
    have hN := h.R.T.Q.n.2
    rcases q_peek h.R.T.Q.toRSt0 (nI kk) a1 b1 c1 (fun q => k1 ((n_eq (by omega) (by omega)).mp q)) with ⟨u, hu, hq, -⟩ | ⟨-, w, hw, ew⟩
    · exact hno u hu hq
    · rw [e2] at ew
      have := Option.some.inj ew
      rw [Prod.mk.injEq] at this
      rw [← this.1] at hw
      exact n_nneg (by omega) hw
  · have nn : ¬ (0:Int32) ≤ vv := Int32.not_le.mpr hv
    rw [e1, ev, bd2_eq, bd2_eq, e33, vl_eq, if_neg (ne he), if_neg nn, h.at', n_ix (show 8 * s + p < 16 by omega) (by omega), n_cl (by omega), if_neg nf, if_pos hv]
    obtain ⟨ρ', ea, F, T'⟩ := add (by omega)
    have hw := Wd.le_add (W := W) (ts := W.ts) (e := e) (fun _ q => q)
    have h2 : Ak (K0.up 2) (W.add W.ts e) b k s p σ ρ' := h.terms (TFr.refl σ W.ts) F hw T' (show W.N + 1 + (K0.kn + 1) ≤ W.N + (K0.kn + 2) by omega) (show W.ts.length + (K0.kl + 1) ≤ W.ts.length + (K0.kl + 2) by omega) (Nat.le_refl _) (Nat.le_refl _)
    have tmN : (W.add W.ts e).tm W.N = e := up_s
    rw [q_term_a hv ev ea, bd2_eq]
    have c := come_new (n := hh') h2 (show W.N < (W.add W.ts e).N from Nat.lt_succ_self _) (fresh ρ' F) (by rw [F.o 61 (by omega)]; exact B.cq) (by omega)
    rw [tmN] at c
    refine ext (c.imp ?_)
    rintro u w ⟨q1, W2, q2, q3, q4⟩
    exact ⟨q1, W2, hw.trans q2, q3, F.kp.trans q4⟩
  · have nn : ¬ (0:Int32) ≤ vv := Int32.not_le.mpr hv
    rw [e1, ev, bd2_eq, bd2_eq, e33, vl_eq, if_pos rfl, if_neg nn, h.at', n_ix (show 8 * s + p < 16 by omega) (by omega), n_cl (by omega), isF, bd2_eq, if_pos rfl, if_neg nf, if_pos hv]
    obtain ⟨σ', ρ', ec, ea, F, F', T'⟩ := add (by omega) (by omega) (by omega)
    rw [ec, bd2_eq, q_term_a hv ev ea, bd2_eq]
    have hw := Wd.le_add (W := W) (ts := σ.2.2.2.2.1 :: W.ts) (e := σ.2.2.2.2.1) (fun _ q => List.mem_cons_of_mem _ q)
    have h' : Ak (K0.up 2) (W.add (σ.2.2.2.2.1 :: W.ts) σ.2.2.2.2.1) b k s p σ' ρ' := h.terms F' F hw T' (show W.N + 1 + (K0.kn + 1) ≤ W.N + (K0.kn + 2) by omega) (show (σ.2.2.2.2.1 :: W.ts).length + (K0.kl + 1) ≤ W.ts.length + (K0.kl + 2) by rw [List.length_cons]; omega) (Nat.le_refl _) (Nat.le_refl _)
    have tmN : (W.add (σ.2.2.2.2.1 :: W.ts) σ.2.2.2.2.1).tm W.N = σ.2.2.2.2.1 := up_s
    have c := come_new (n := hh') h' (show W.N < (W.add (σ.2.2.2.2.1 :: W.ts) σ.2.2.2.2.1).N from Nat.lt_succ_self _) (fresh ρ' F) (by rw [F.o 61 (by omega)]; exact B.cq) (by omega)
    rw [tmN] at c
    refine ext (c.imp ?_)
    rintro u w ⟨q1, W2, q2, q3, q4⟩
    exact ⟨q1, W2, hw.trans q2, q3, F.kp.trans q4⟩
/-- no term of the reference has a part that is not there yet -/
theorem no_part {N : Nat} (Q : RSt0 ρ N) {t u kk : Nat} {a c : Int32} (hk : 2 < kk ∧ kk < 10) (h46 : kk ≠ 4 ∧ kk ≠ 6) (hN : N ≤ 112000) (hu : u < 2147483648) (hge : t ≤ u) (ht : t < N) : ¬ kyQ ρ t (nI kk) a (nI u) c := by
  rintro ⟨q1, -, q3, -⟩
  obtain ⟨E, -, -, hE⟩ := Q.e
  obtain ⟨k2, hk2, ek2, hr⟩ := hE t ht
  have : k2 = kk := (n_eq (by omega) (by omega)).mp (ek2.symm.trans q1)
  subst this
  unfold rsh at hr
  rw [if_neg (by omega), if_neg (by omega), if_neg (by omega)] at hr
  have h2 := hr.2.1
  rw [if_neg (by omega)] at h2
  obtain ⟨x, ex, hx⟩ := h2
  have := (n_eq (by omega) (by omega)).mp (ex.symm.trans q3)
  omega
/-- a full table takes no TERM that only the class has a part of -/
theorem full_no (h : Ak K W b k s p σ ρ) {e : Nat} (hni : ∀ t, t < W.N → W.tm t ≠ e) (he : e ≠ 33) (hf : ρ.1 61 (8 * s + p) = nI 100) : fc_X8_comeInMade (92 + 135 * s + 12 * p) (7:Int32) (0:Int32) (some 36) (some e) (some 33) σ = some (-4, σ) := by
  have s2 := h.s2
  have p8 := h.p8
  have e33 := h.R.T.C.tms.2.2.1
  obtain ⟨⟨hh, B, -⟩, tf⟩ := h.P.tb
  have hl := B.hl
  have : hh = 100 := by
    have := B.cq
    rw [hf] at this
    exact ((n_eq (by omega) (by omega)).mp this).symm
  subst this
  have isF : fc_X8_isFull (92 + 135 * s + 12 * p) σ = some (1, σ) := by
    unfold fc_X8_isFull bc_X8_isFull_0
    rw [B.cc, B.lm, if_neg (fun w => by have := (n_lt (by omega) (by omega)).mp w; omega)]
  unfold fc_X8_comeInMade bc_X8_comeInMade_0 bc_X8_comeInMade_54
  rcases c_find h.R.T.C.toCSt0 (7:Int32) (0:Int32) 36 e 33 with ⟨d, hd, hky, ed⟩ | ⟨hno, ed⟩
  · have nd : ¬ (some d = some 33) := fun q => by have := h.R.T.C.mem _ hd; have := Option.some.inj q; omega
    have dni : ∀ t, t < W.N → W.tm t ≠ d := by
      rintro t ht rfl
      have q1 : ρ.1 1 t = nI 7 := by rw [← h.R.T.L.kd t ht]; exact hky.1
      obtain ⟨a, ha, -, ra⟩ := h.R.T.prB (kk := 7) ht (by omega) (by omega) (by omega) q1
      rw [hky.2.2.2.1] at ra
      exact hni a ha (Option.some.inj ra).symm
    rw [ed, bd2_eq, e33, vl_eq, if_neg nd]
    obtain ⟨s0, d0, hs, hd0, es, pth, esl, hend⟩ := c_slot B d
    unfold fc_X8_comeIn bc_X8_comeIn_0
    have hps : (s0 + d0) % 256 < 256 := Nat.mod_lt _ (by omega)
    rw [esl, bd2_eq, B.cs.1, n_ix hps (by omega), n_cl (by omega)]
    rcases hend with ⟨j, hj, ex, -⟩ | ⟨-, ep⟩
    · exfalso
      obtain ⟨t, ht, -, et⟩ := B.en j hj
      rw [ex] at et
      exact dni t ht (Option.some.inj et).symm
    · rw [ep, if_pos (show nI 0 = 0 from rfl), isF, bd2_eq, if_neg (by decide), bd2_eq]
  · rw [ed, bd2_eq, e33, vl_eq, if_pos rfl, isF, bd2_eq, if_neg (by decide)]
theorem ask_quote (v : KV K) (h : Ak K W b k s p σ ρ) (x : Int32) : Sim (bd2 (fc_X8_at (92 + 135 * s + 12 * p) x σ) (fun r σ => bd2 (fc_X5_quote (47 + 132 * s) (some (83 + 135 * s + 12 * p)) r σ) (fun r σ => some (r, σ)))) (bd2 (fq_quote x ρ) (fun r ρ => some (r, ρ))) (AkO K W b k s p ρ) := by
  have z1 : ¬ (1:Int32) = 0 := by decide
  have s2 := h.s2
  have p8 := h.p8
  have hN := h.R.T.Q.n.2
  obtain ⟨r1, r2, r3⟩ := h.room v
  have e33 := h.R.T.C.tms.2.2.1
  have e36 := h.R.T.C.tms.2.2.2.2.1
  obtain ⟨k3, -, k36, -, -, kq, -⟩ := h.R.T.k0
  have a9 : 83 + 135 * s + 12 * p + 9 = 92 + 135 * s + 12 * p := by omega
  obtain ⟨⟨hh, B, -⟩, tf⟩ := h.P.tb
  have hl := B.hl
  obtain ⟨mt, hmt, em1, em2⟩ := h.P.ms.ms
  unfold fc_X5_quote bc_X5_quote_0 bc_X5_quote_82 fq_quote bq_quote_0 bq_quote_68
  have ext : ∀ {x : Option (Int32 × cl_S)} {y : Option (Int32 × rf_S)} {P : Int32 × cl_S → Int32 × rf_S → Prop}, Sim x y P → Sim (bd2 x (fun r σ => some (r, σ))) (bd2 y (fun r ρ => some (r, ρ))) P := fun q => Sim.bd2 q (fun _ _ _ _ q => Sim.mk q)
  rcases h.hnd x with ⟨t, ht, -, e2, e3, e4⟩ | ⟨-, e2, e3⟩
  rotate_left
  · rw [e3, bd2_eq, e2, bd2_eq, if_pos rfl, e33, vl_eq, if_pos rfl, bd2_eq, bd2_eq]
    exact Sim.mk (AkO.same h _)
  have f100 : (ρ.1 61 (8 * s + p) = (100:Int32) ↔ hh = 100) := by
    rw [B.cq, show (100:Int32) = nI 100 from rfl, n_eq (by omega) (by omega)]
  rw [e3, bd2_eq, e2, bd2_eq, if_neg z1, e33, vl_eq, if_neg (h.ne33 ht), nn_eq, em2, vl_eq, vl_eq, h.me, n_ix p8 (by omega), n_cl (show p < 2147483648 by omega), em1, e4, bd2_eq]
  have arg3 : argR W.tm W.N 3 0 (W.tm mt) (W.tm t) 33 (nI mt) (nI t) 0 := by
    unfold argR
    rw [if_neg (by omega), if_neg (by omega), if_neg (by omega)]
    exact ⟨rfl, ⟨mt, hmt, rfl, rfl⟩, ⟨t, ht, rfl, rfl⟩, rfl, rfl⟩
  have f6' : ∀ (u : Nat) (σ1 : cl_S), σ1.2.2.1 31 6 = some 36 → σ1.2.2.1 31 4 = some 33 → nn (some (83 + 135 * s + 12 * p)) (fun a_31 => vl (σ1.2.2.1 31 6) (fun r_37 => vl (σ1.2.2.1 31 4) (fun r_42 => bd2 (fc_X8_comeInMade (a_31 + 9) (7:Int32) (0:Int32) r_37 (some u) r_42 σ1) (fun r_46 σ_45 => some (r_46, σ_45))))) = bd2 (fc_X8_comeInMade (92 + 135 * s + 12 * p) (7:Int32) (0:Int32) (some 36) (some u) (some 33) σ1) (fun r_46 σ_45 => some (r_46, σ_45)) := by
    intro u σ1 f6 f4
    rw [nn_eq, f6, vl_eq, f4, vl_eq, a9]
  have arg7 : ∀ (W1 : Wd) (u : Nat), u < W1.N → 3 < W1.N → W1.tm 2 = 36 → argR W1.tm W1.N 7 0 36 (W1.tm u) 33 (nI 2) (nI u) 0 := by
    intro W1 u hu h3 e36'
    unfold argR
    rw [if_neg (by omega), if_neg (by omega), if_neg (by omega)]
    exact ⟨rfl, ⟨2, by omega, rfl, e36'.symm⟩, ⟨u, hu, rfl, rfl⟩, rfl, rfl⟩
  have z0 : ∀ {σ : cl_S}, fc_X10_find 31 (3:Int32) (0:Int32) (some (W.tm mt)) (some (W.tm t)) (some 33) σ = fc_X10_find 31 (nI 3) 0 (some (W.tm mt)) (some (W.tm t)) (some 33) σ := rfl
  have z00 : fq_peek (3:Int32) (nI mt) (nI t) (0:Int32) ρ = fq_peek (nI 3) (nI mt) (nI t) 0 ρ := rfl
  rw [z0, z00]
  rcases t_mk h.R.T (k := 3) (by omega) (by omega) (by omega) arg3 with ⟨u, hu, e1, e2'⟩ | ⟨vv, hv, ev, ⟨e, he, h33, hni, e1, add⟩ | ⟨e1, add⟩⟩
  · -- the pair is on both sides
    have S7 := h.mkT v (kk := 7) (by omega) (by omega) (by omega) (arg7 W u hu k3 k36)
    have qt : fq_term (3:Int32) (nI mt) (nI t) (0:Int32) ρ = some (nI u, ρ) := q_term_f (by omega) e2'
    rw [e1, bd2_eq, e33, vl_eq, if_neg (h.ne33 hu), nn_eq, e36, vl_eq, vl_eq, a9, e2', bd2_eq, h.at', n_ix (show 8 * s + p < 16 by omega) (by omega), n_cl (by omega), if_neg (n_nneg (by omega)), kq]
    simp only [e4, bd2n, qt, h.me, n_ix p8 (show 8 < 2147483648 by omega), n_cl (show p < 2147483648 by omega), em1, kq]
    have S7' : Sim (fc_X8_comeInMade (92 + 135 * s + 12 * p) (7:Int32) (0:Int32) (some 36) (some (W.tm u)) (some 33) σ) (fq_made (7:Int32) (nI 2) (nI u) (0:Int32) ρ) (AkO K W b k s p ρ) := S7
    by_cases c : hh = 100
    · rw [if_pos (f100.mpr c)]
      obtain ⟨⟨y11, y12⟩, ⟨y21, y22⟩, g1, g2, g3⟩ := S7'
      rcases q_peek h.R.T.Q.toRSt0 (nI 7) (nI 2) (nI u) 0 (fun q => by have := (n_eq (by omega) (by omega)).mp q; omega) with ⟨w, hw, hq, ew⟩ | ⟨hq, w, hw, ew⟩
      · have ew' : fq_peek (7:Int32) (nI 2) (nI u) (0:Int32) ρ = some (nI w, ρ) := ew
        have wp : (0:Int32) ≤ nI w := by rw [i32_0, n_le (by omega) (by omega)]; omega
        rw [ew', bd2_eq, if_pos wp, g1, h.me, n_ix p8 (by omega), n_cl (show p < 2147483648 by omega), em1, e4]
        simp only [bd2n, qt, kq, g2]
        exact Sim.mk g3
      · have ew' : fq_peek (7:Int32) (nI 2) (nI u) (0:Int32) ρ = some (w, ρ) := ew
        rw [ew', bd2_eq, if_neg (Int32.not_le.mpr hw), g1]
        simp only [bd2n]
        have g2' : fq_made (7:Int32) (nI 2) (nI u) (0:Int32) ρ = some (-4, ρ) := by
          unfold fq_made bq_made_0
          rw [ew', bd2_eq, if_neg (Int32.not_le.mpr hw), h.at', n_ix (show 8 * s + p < 16 by omega) (by omega), n_cl (by omega), if_pos (f100.mpr c)]
        rw [g2'] at g2
        have g4 := Option.some.inj g2
        rw [Prod.mk.injEq] at g4
        rw [← g4.1, ← g4.2] at g3
        exact Sim.mk g3
    · rw [if_neg (fun w => c (f100.mp w))]
      exact ext (ext S7')
  · -- the class alone has the pair
    have nn : vv < 0 := hv
    rw [e1, bd2_eq, e33, vl_eq, if_neg (fun q => h33 (Option.some.inj q)), nn_eq, e36, vl_eq, vl_eq, a9, ev, bd2_eq, h.at', n_ix (show 8 * s + p < 16 by omega) (by omega), n_cl (by omega), if_pos hv]
    by_cases c : hh = 100
    · rw [if_pos (f100.mpr c), full_no h hni h33 (by rw [B.cq, c]), bd2_eq, bd2_eq, bd2_eq]
      exact Sim.mk (AkO.same h _)
    · rw [if_neg (fun w => c (f100.mp w)), kq]
      obtain ⟨ρ', ea, F, T'⟩ := add (by omega)
      have hw := Wd.le_add (W := W) (ts := W.ts) (e := e) (fun _ q => q)
      have h' : Ak (K.up 1) (W.add W.ts e) b k s p σ ρ' := h.terms (TFr.refl σ W.ts) F hw T' (show W.N + 1 + K.kn ≤ W.N + (K.kn + 1) by omega) (show W.ts.length + K.kl ≤ W.ts.length + (K.kl + 1) by omega) (Nat.le_refl _) (Nat.le_refl _)
      have tmN : (W.add W.ts e).tm W.N = e := up_s
      have qt : fq_term (3:Int32) (nI mt) (nI t) (0:Int32) ρ = some (nI W.N, ρ') := q_term_a hv ev ea
      simp only [e4, bd2n, qt, h.me, n_ix p8 (show 8 < 2147483648 by omega), n_cl (show p < 2147483648 by omega), em1, kq]
      have S7 := h'.mkN v (kk := 7) (by omega) (by omega) (by omega) (arg7 (W.add W.ts e) W.N (Nat.lt_succ_self _) (show 3 < W.N + 1 by omega) ((hw.tm 2 (by omega)).trans k36)) (fun t' ht' => no_part T'.Q.toRSt0 (by omega) (by omega) T'.Q.n.2 (by omega) (Nat.lt_succ_iff.mp ht') ht') (hh := hh) (by rw [F.o 61 (by omega)]; exact B.cq) (by omega)
      rw [tmN] at S7
      refine ext (ext (S7.imp ?_))
      rintro u w ⟨q1, W2, q2, q3, q4⟩
      exact ⟨q1, W2, hw.trans q2, q3, F.kp.trans q4⟩
  · -- neither has
    have isF : fc_X8_isFull (92 + 135 * s + 12 * p) σ = some (if hh < 100 then 0 else 1, σ) := by
      unfold fc_X8_isFull bc_X8_isFull_0
      rw [B.cc, B.lm]
      by_cases q : hh < 100
      · rw [if_pos q, if_pos ((n_lt (by omega) (by omega)).mpr q)]
      · rw [if_neg q, if_neg (fun w => q ((n_lt (by omega) (by omega)).mp w))]
    rw [e1, bd2_eq, e33, vl_eq, if_pos rfl, a9, isF, bd2_eq, ev, bd2_eq, h.at', n_ix (show 8 * s + p < 16 by omega) (by omega), n_cl (by omega), if_pos hv]
    by_cases c : hh = 100
    · rw [if_neg (show ¬ hh < 100 by omega), if_neg z1, if_pos (f100.mpr c), bd2_eq, bd2_eq]
      exact Sim.mk (AkO.same h _)
    · rw [if_pos (show hh < 100 by omega), if_pos rfl, if_neg (fun w => c (f100.mp w)), kq, em2, vl_eq, e33, vl_eq]
      obtain ⟨σ', ρ', ec, ea, F, F', T'⟩ := add (by omega) (by omega) (by omega)
      have ec' : fc_X10_add 31 (3:Int32) (0:Int32) (some (W.tm mt)) (some (W.tm t)) (some 33) σ = some (some σ.2.2.2.2.1, σ') := ec
      have hw := Wd.le_add (W := W) (ts := σ.2.2.2.2.1 :: W.ts) (e := σ.2.2.2.2.1) (fun _ q => List.mem_cons_of_mem _ q)
      have h' : Ak (K.up 1) (W.add (σ.2.2.2.2.1 :: W.ts) σ.2.2.2.2.1) b k s p σ' ρ' := h.terms F' F hw T' (show W.N + 1 + K.kn ≤ W.N + (K.kn + 1) by omega) (show (σ.2.2.2.2.1 :: W.ts).length + K.kl ≤ W.ts.length + (K.kl + 1) by rw [List.length_cons]; omega) (Nat.le_refl _) (Nat.le_refl _)
      have tmN : (W.add (σ.2.2.2.2.1 :: W.ts) σ.2.2.2.2.1).tm W.N = σ.2.2.2.2.1 := up_s
      have qt : fq_term (3:Int32) (nI mt) (nI t) (0:Int32) ρ = some (nI W.N, ρ') := q_term_a hv ev ea
      rw [ec', bd2_eq, f6' _ _ (by rw [F'.R31 6 (by omega) (by omega)]; exact e36) (by rw [F'.R31 4 (by omega) (by omega)]; exact e33)]
      simp only [e4, bd2n, qt, h.me, n_ix p8 (show 8 < 2147483648 by omega), n_cl (show p < 2147483648 by omega), em1, kq]
      have S7 := h'.mkN v (kk := 7) (by omega) (by omega) (by omega) (arg7 (W.add (σ.2.2.2.2.1 :: W.ts) σ.2.2.2.2.1) W.N (Nat.lt_succ_self _) (show 3 < W.N + 1 by omega) ((hw.tm 2 (by omega)).trans k36)) (fun t' ht' => no_part T'.Q.toRSt0 (by omega) (by omega) T'.Q.n.2 (by omega) (Nat.lt_succ_iff.mp ht') ht') (hh := hh) (by rw [F.o 61 (by omega)]; exact B.cq) (by omega)
      rw [tmN] at S7
      refine ext (ext (S7.imp ?_))
      rintro u w ⟨q1, W2, q2, q3, q4⟩
      exact ⟨q1, W2, hw.trans q2, q3, F.kp.trans q4⟩
end Z2_L8
