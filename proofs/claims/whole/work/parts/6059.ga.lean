section Z2_GA
variable {K : Bd} {W W' : Wd} {b : Bool} {k s p : Nat} {σ σ' : cl_S} {ρ ρ' : rf_S}
variable {sp L a : Nat} {f : Nat → Int32} {e : Bool}
theorem nx_n {v : Int32} {l h : Nat} (hl : l ≤ h) (hh : h < 2147483648) (w : v = nI l ∨ (¬ v < nI l ∧ v ≤ nI h)) : ∃ n, v = nI n ∧ l ≤ n ∧ n ≤ h := by
  rcases w with w | ⟨w1, w2⟩
  · exact ⟨l, w, Nat.le_refl _, hl⟩
  · rcases n_cases v with hv | ⟨n, hn, rfl⟩
    · exact absurd (n_neg hv (show l < 2147483648 by omega)).1 w1
    · refine ⟨n, rfl, ?_, (n_le hn hh).mp w2⟩
      apply Classical.byContradiction
      intro q
      exact w1 ((n_lt hn (by omega)).mpr (by omega))
theorem PI.cg {bs sz ar : Nat → Nat} (h : PI sp p bs sz ar σ ρ) (h1 : ∀ d, sp < d → d < sp + 5 → σ'.1 d = σ.1 d) (h2 : ∀ i, i < 24 → ρ'.1 79 i = ρ.1 79 i) (hp : p ≤ 8) : PI sp p bs sz ar σ' ρ' := by
  refine ⟨fun q hq => ?_, h.bd, h.dj, h.sm⟩
  rw [h1 _ (by omega) (by omega), h1 _ (by omega) (by omega), h1 _ (by omega) (by omega), h1 _ (by omega) (by omega), h2 _ (by omega), h2 _ (by omega), h2 _ (by omega)]
  exact h.v q hq
theorem CI.cg {c n : Nat} {fr to ln : Nat → Nat} (h : CI sp c n fr to ln σ ρ) (h1 : ∀ d, sp + 4 < d → d < sp + 8 → σ'.1 d = σ.1 d) (h2 : ∀ i, 23 < i → i < 72 → ρ'.1 79 i = ρ.1 79 i) (hp : c ≤ 16) : CI sp c n fr to ln σ' ρ' := by
  intro i hi
  rw [h1 _ (by omega) (by omega), h1 _ (by omega) (by omega), h1 _ (by omega) (by omega), h2 _ (by omega) (by omega), h2 _ (by omega) (by omega), h2 _ (by omega) (by omega)]
  exact h i hi
theorem SI.cg {c n : Nat} {who stp : Nat → Nat} (h : SI sp c n who stp σ ρ) (h1 : ∀ d, sp + 7 < d → d < sp + 10 → σ'.1 d = σ.1 d) (h2 : ∀ i, 71 < i → i < 136 → ρ'.1 79 i = ρ.1 79 i) (hp : c ≤ 32) : SI sp c n who stp σ' ρ' := by
  intro i hi
  rw [h1 _ (by omega) (by omega), h1 _ (by omega) (by omega), h2 _ (by omega) (by omega), h2 _ (by omega) (by omega)]
  exact h i hi
/-- a config that was read -/
def RdC (sp : Nat) (σ : cl_S) (ρ : rf_S) : Prop := ∃ (n m t : Nat) (bs sz ar fr to ln who stp : Nat → Nat), 1 ≤ n ∧ n ≤ 8 ∧ m ≤ 16 ∧ 1 ≤ t ∧ t ≤ 32 ∧ σ.1 sp 0 = nI n ∧ σ.1 sp 5 = nI m ∧ σ.1 sp 9 = nI t ∧ ρ.1 79 196 = nI n ∧ ρ.1 79 197 = nI m ∧ ρ.1 79 198 = nI t ∧ PI sp n bs sz ar σ ρ ∧ CI sp m n fr to ln σ ρ ∧ SI sp t n who stp σ ρ
theorem rd_all (hsp : sp = 48 ∨ sp = 314) (hL : L ≤ 200) (T : (σ.2.2.2.1 29).2 = 2048) (l9 : ρ.1 27 9 = nI L) (fw : ∀ j, j < L → σ.1 29 j = ρ.1 26 (16640 + j)) :
    ∃ v vq σ' ρ', fc_X1_read sp (some 29) (nI L) σ = some (v, σ') ∧ fq_readConfig ρ = some (vq, ρ') ∧ Kf sp (cl_wr σ sp 12 (some 29)) σ' ρ ρ' ∧ ((∃ i, i ≤ 200 ∧ v = nI i ∧ vq = 0 ∧ ρ'.1 0 115 = nI i) ∨ (v = -1 ∧ vq = 1 ∧ RdC sp σ' ρ')) := by
  have C0 : CsC sp L (fun j => ρ.1 26 (16640 + j)) 0 false (cl_w (cl_w (cl_w (cl_wr σ sp 12 (some 29)) sp 13 (nI L)) sp 14 (0:Int32)) sp 15 (-1:Int32)) := by
    refine ⟨hsp, hL, Nat.zero_le _, r_rs, by rw [r_wk (by decide), r_wk (by decide), r_ws], T, fun j hj => ?_, fun _ => ⟨by rw [r_wk (by decide), r_ws]; rfl, r_ws⟩, fun w => Bool.noConfusion w⟩
    rw [r_w (by omega), r_w (by omega), r_w (by omega)]
    exact fw j hj
  have Q0 : CsQ L (fun j => ρ.1 26 (16640 + j)) 0 false (rf_w (rf_w ρ 0 115 (0:Int32)) 0 116 (0:Int32)) := by
    refine ⟨hL, Nat.zero_le _, by rw [q_w (by decide), q_w (by decide)]; exact l9, fun j hj => by rw [q_w (by decide), q_w (by decide)], by rw [q_wk (by decide), q_ws]; rfl, by rw [q_ws]; rfl⟩
  have K0 : Kf sp (cl_wr σ sp 12 (some 29)) (cl_w (cl_w (cl_w (cl_wr σ sp 12 (some 29)) sp 13 (nI L)) sp 14 (0:Int32)) sp 15 (-1:Int32)) ρ (rf_w (rf_w ρ 0 115 (0:Int32)) 0 116 (0:Int32)) := ⟨fun d hd => by rw [r_w (by omega), r_w (by omega), r_w (by omega)], rfl, fun c h1 h2 => by rw [q_w h1, q_w h1], rfl, fun j h1 h2 => by rw [q_wk h2, q_wk h1]⟩
  -- the count of partitions
  obtain ⟨v1, σ1, ρ1, a1, e1, c1, q1, C1, Q1, K1, d1, n1, g1, l1⟩ := nx_same C0 Q0 1 8
  obtain ⟨n, rfl, hn1, hn8⟩ := nx_n (l := 1) (h := 8) (by omega) (by omega) l1
  have C1' : CsC sp L (fun j => ρ.1 26 (16640 + j)) a1 e1 (cl_w σ1 sp 0 (nI n)) := C1.cg (fun j hj => by rw [r_wk (by omega)]) (r_w (by omega)) rfl
  obtain ⟨σ2, ρ2, a2, e2, y, y', z, z', c2, q2, C2, Q2, K2, s2, t2, u2, g2⟩ := rd_parts (sp := sp) (L := L) (f := fun j => ρ.1 26 (16640 + j)) hn8 n 0 a1 e1 (cl_w σ1 sp 0 (nI n)) ρ1 0 0 rfl (by omega) C1' Q1 r_ws (fun _ => ⟨fun _ => 0, fun _ => 0, fun _ => 0, rfl, rfl, ⟨fun q hq => absurd hq (by omega), fun q hq => absurd hq (by omega), fun q q' _ hq => absurd hq (by omega), by show asum _ 0 ≤ 32; unfold asum; omega⟩⟩)
  -- the count of channels
  obtain ⟨v3, σ3, ρ3, a3, e3, c3, q3, C3, Q3, K3, d3, n3, g3, l3⟩ := nx_same C2 Q2 0 16
  obtain ⟨m, rfl, -, hm16⟩ := nx_n (l := 0) (h := 16) (by omega) (by omega) l3
  have C3' : CsC sp L (fun j => ρ.1 26 (16640 + j)) a3 e3 (cl_w σ3 sp 5 (nI m)) := C3.cg (fun j hj => by rw [r_wk (by omega)]) (r_w (by omega)) rfl
  have z30 : (cl_w σ3 sp 5 (nI m)).1 sp 0 = nI n := by rw [r_wk (by decide), d3 sp 0 (by omega), s2 0 (by decide) (by decide), r_ws]
  obtain ⟨σ4, ρ4, a4, e4, y4, z4, c4, q4, C4, Q4, K4, s4, t4, u4, w4, g4⟩ := rd_chans (sp := sp) (L := L) (f := fun j => ρ.1 26 (16640 + j)) hn1 hn8 hm16 m 0 a3 e3 (cl_w σ3 sp 5 (nI m)) ρ3 rfl (by omega) C3' Q3 z30 r_ws (fun _ => ⟨fun _ => 0, fun _ => 0, fun _ => 0, fun q hq => absurd hq (by omega)⟩)
  -- the count of slots
  obtain ⟨v5, σ5, ρ5, a5, e5, c5, q5, C5, Q5, K5, d5, n5, g5, l5⟩ := nx_same C4 Q4 1 32
  obtain ⟨t, rfl, ht1, ht32⟩ := nx_n (l := 1) (h := 32) (by omega) (by omega) l5
  have C5' : CsC sp L (fun j => ρ.1 26 (16640 + j)) a5 e5 (cl_w σ5 sp 9 (nI t)) := C5.cg (fun j hj => by rw [r_wk (by omega)]) (r_w (by omega)) rfl
  have z50 : (cl_w σ5 sp 9 (nI t)).1 sp 0 = nI n := by rw [r_wk (by decide), d5 sp 0 (by omega), s4 0 (by decide) (by decide)]; exact z30
  have z55 : (cl_w σ5 sp 9 (nI t)).1 sp 5 = nI m := by rw [r_wk (by decide), d5 sp 5 (by omega), s4 5 (by decide) (by decide), r_ws]
  obtain ⟨σ6, ρ6, a6, e6, y6, z6, c6, q6, C6, Q6, K6, s6, t6, u6, w6, g6⟩ := rd_slots (sp := sp) (L := L) (f := fun j => ρ.1 26 (16640 + j)) (x3 := nI m) hn1 hn8 ht32 t 0 a5 e5 (cl_w σ5 sp 9 (nI t)) ρ5 rfl (by omega) C5' Q5 (fun _ => z50) r_ws (fun _ => ⟨fun _ => 0, fun _ => 0, fun q hq => absurd hq (by omega)⟩)
  have ec : fc_X1_read sp (some 29) (nI L) σ = bc_X1_read_192 sp σ6 := by
    unfold fc_X1_read bc_X1_read_0
    rw [vln, nnn, show ((cl_wr σ sp 12 (some 29)).2.2.2.1 29).2 = 2048 from T, if_neg (fun w => by have := (n_lt (by omega) (by omega)).mp w; omega), vln, vln, vln, c1, bd2n, vln]
    unfold bc_X1_read_41
    rw [show (0:Int32) = nI 0 from rfl, show lp (fun z : (Int32 × Int32 × cl_S) => lc_X1_read_41 sp z.1 z.2.1 z.2.2) (nI 0, nI 0, cl_w σ1 sp 0 (nI n)) = _ from c2, Option.bind_some]
    unfold ec_X1_read_41 bc_X1_read_88
    rw [c3, bd2n, vln]
    unfold bc_X1_read_102
    rw [show (0:Int32) = nI 0 from rfl, c4, Option.bind_some]
    unfold ec_X1_read_102 bc_X1_read_130
    rw [c5, bd2n, vln]
    unfold bc_X1_read_144
    rw [show (0:Int32) = nI 0 from rfl, c6, Option.bind_some]
    rfl
  have eq : fq_readConfig ρ = bq_readConfig_433 (nI n) (nI m) (nI t) ρ6 := by
    unfold fq_readConfig bq_readConfig_0
    rw [vln, vln, q1, bd2n]
    unfold bq_readConfig_22
    rw [show (0:Int32) = nI 0 from rfl, show lp (fun z : (Int32 × Int32 × rf_S) => lq_readConfig_22 (nI n) z.1 z.2.1 z.2.2) (nI 0, nI 0, ρ1) = _ from q2, Option.bind_some]
    unfold eq_readConfig_22 bq_readConfig_221
    rw [q3, bd2n]
    unfold bq_readConfig_232
    rw [show (0:Int32) = nI 0 from rfl, q4, Option.bind_some]
    unfold eq_readConfig_232 bq_readConfig_334
    rw [q5, bd2n]
    unfold bq_readConfig_346
    rw [show (0:Int32) = nI 0 from rfl, q6, Option.bind_some]
    rfl
  have KA : Kf sp (cl_wr σ sp 12 (some 29)) σ6 ρ ρ6 := by
    have k1 : Kf sp σ1 (cl_w σ1 sp 0 (nI n)) ρ1 ρ1 := ⟨fun d hd => r_w (by omega), rfl, fun _ _ _ => rfl, rfl, fun _ _ _ => rfl⟩
    have k3 : Kf sp σ3 (cl_w σ3 sp 5 (nI m)) ρ3 ρ3 := ⟨fun d hd => r_w (by omega), rfl, fun _ _ _ => rfl, rfl, fun _ _ _ => rfl⟩
    have k5 : Kf sp σ5 (cl_w σ5 sp 9 (nI t)) ρ5 ρ5 := ⟨fun d hd => r_w (by omega), rfl, fun _ _ _ => rfl, rfl, fun _ _ _ => rfl⟩
    exact K0.trans (K1.trans (k1.trans (K2.trans (K3.trans (k3.trans (K4.trans (K5.trans (k5.trans K6))))))))
  have x9 : ∀ {α : Type} (z : Option α), ix (9:Int32) 10 z = z := fun z => n_ix (a := 9) (by omega) (by omega)
  have x96 : ∀ {α : Type} (z : Option α), ix (196:Int32) 200 z = z := fun z => n_ix (a := 196) (by omega) (by omega)
  have x97 : ∀ {α : Type} (z : Option α), ix (197:Int32) 200 z = z := fun z => n_ix (a := 197) (by omega) (by omega)
  have x98 : ∀ {α : Type} (z : Option α), ix (198:Int32) 200 z = z := fun z => n_ix (a := 198) (by omega) (by omega)
  have hL' := C6.L2
  have haL := C6.aL
  cases e6 with
  | true =>
    have no := C6.no rfl
    have hw : ρ6.1 0 116 = 1 := Q6.w
    have ev : bc_X1_read_192 sp σ6 = some (nI a6, σ6) := by
      unfold bc_X1_read_192
      rw [if_pos C6.z15, no]
    have eqv : bq_readConfig_433 (nI n) (nI m) (nI t) ρ6 = some (0, ρ6) := by
      unfold bq_readConfig_433
      rw [hw, if_neg (by decide)]
    exact ⟨_, _, _, _, ec.trans ev, eq.trans eqv, KA, Or.inl ⟨a6, by omega, rfl, rfl, Q6.at'⟩⟩
  | false =>
    obtain ⟨o1, o2⟩ := C6.ok rfl
    have hw : ρ6.1 0 116 = 0 := Q6.w
    have ha : ρ6.1 0 115 = nI a6 := Q6.at'
    have hl9 := Q6.l9
    by_cases cl : L ≤ a6
    · have ev : bc_X1_read_192 sp σ6 = some (-1, σ6) := by
        unfold bc_X1_read_192
        rw [o2, if_neg (by decide), C6.w13, o1, if_pos ((n_le (by omega) (by omega)).mpr cl)]
      have eqv : bq_readConfig_433 (nI n) (nI m) (nI t) ρ6 = some (1, rf_w (rf_w (rf_w ρ6 79 196 (nI n)) 79 197 (nI m)) 79 198 (nI t)) := by
        unfold bq_readConfig_433
        rw [hw, if_pos rfl, x9, show ρ6.1 27 (9:Int32).toNatClampNeg = nI L from hl9, ha, if_pos ((n_le (by omega) (by omega)).mpr cl), x96, vln, x97, vln, x98, vln]
        rfl
      have u79 : ∀ i, i < 196 → (rf_w (rf_w (rf_w ρ6 79 196 (nI n)) 79 197 (nI m)) 79 198 (nI t)).1 79 i = ρ6.1 79 i := fun i hi => by rw [q_wk (by omega), q_wk (by omega), q_wk (by omega)]
      refine ⟨_, _, _, _, ec.trans ev, eq.trans eqv, KA.trans ⟨fun _ _ => rfl, rfl, fun c h1 h2 => by rw [q_w h2, q_w h2, q_w h2], rfl, fun j _ _ => by rw [q_w (by decide), q_w (by decide), q_w (by decide)]⟩, Or.inr ⟨rfl, rfl, ?_⟩⟩
      have f5 : e5 = false := by
        cases e5 with
        | false => rfl
        | true => exact Bool.noConfusion (w6 rfl)
      have f4 := (g5 f5).1
      have f3 : e3 = false := by
        cases e3 with
        | false => rfl
        | true => rw [w4 rfl] at f4; exact f4
      have f2 := (g3 f3).1
      obtain ⟨bs, sz, ar, P⟩ := g2 f2
      obtain ⟨fr, to, ln, C⟩ := g4 f4
      obtain ⟨who, stp, S⟩ := g6 rfl
      refine ⟨n, m, t, bs, sz, ar, fr, to, ln, who, stp, hn1, hn8, hm16, ht1, ht32, by rw [s6 0 (by decide) (by decide)]; exact z50, by rw [s6 5 (by decide) (by decide)]; exact z55, by rw [s6 9 (by decide) (by decide), r_ws], by rw [q_wk (by decide), q_wk (by decide), q_ws], by rw [q_wk (by decide), q_ws], q_ws, ?_, ?_, ?_⟩
      · exact P.cg (fun d h1 h2 => by
          rw [t6 d (by omega) (by omega), r_w (by omega), funext (fun j => d5 d j (by omega)), t4 d (by omega) (by omega), r_w (by omega), funext (fun j => d3 d j (by omega))]) (fun i hi => by rw [u79 i (by omega), u6 i (by omega), n5, u4 i (by omega), n3]) hn8
      · exact C.cg (fun d h1 h2 => by
          rw [t6 d (by omega) (by omega), r_w (by omega), funext (fun j => d5 d j (by omega))]) (fun i h1 h2 => by rw [u79 i (by omega), u6 i (by omega), n5]) hm16
      · exact S.cg (fun d h1 h2 => rfl) (fun i h1 h2 => u79 i (by omega)) ht32
    · have ev : bc_X1_read_192 sp σ6 = some (nI a6, cl_w σ6 sp 15 (nI a6)) := by
        unfold bc_X1_read_192
        rw [o2, if_neg (by decide), C6.w13, o1, if_neg (fun w => cl ((n_le (by omega) (by omega)).mp w)), vln, r_ws]
      have eqv : bq_readConfig_433 (nI n) (nI m) (nI t) ρ6 = some (0, ρ6) := by
        unfold bq_readConfig_433
        rw [hw, if_pos rfl, x9, show ρ6.1 27 (9:Int32).toNatClampNeg = nI L from hl9, ha, if_neg (fun w => cl ((n_le (by omega) (by omega)).mp w))]
      exact ⟨_, _, _, _, ec.trans ev, eq.trans eqv, KA.trans ⟨fun d hd => r_w (by omega), rfl, fun _ _ _ => rfl, rfl, fun _ _ _ => rfl⟩, Or.inl ⟨a6, by omega, rfl, rfl, ha⟩⟩
end Z2_GA
