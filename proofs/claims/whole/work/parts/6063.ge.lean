section Z2_GE
variable {K : Bd} {W W' : Wd} {b : Bool} {k s p : Nat} {σ σ' : cl_S} {ρ ρ' : rf_S}
theorem asum_mono {ar : Nat → Nat} {p q : Nat} (h : p ≤ q) : asum ar p ≤ asum ar q := by
  induction q with
  | zero => rw [Nat.le_zero.mp h]; exact Nat.le_refl _
  | succ q ih =>
    by_cases c : p = q + 1
    · rw [c]; exact Nat.le_refl _
    · have := ih (by omega)
      show _ ≤ asum ar q + ar q
      omega
/-- the world with another config -/
def Wd.cfg (W : Wd) (sp n m t : Nat) (bs sz ar fr to ln who stp : Nat → Nat) : Wd := (W.ts, W.tm, W.N, sp, n, m, t, bs, sz, ar, asum ar, fr, to, ln, who, stp, W.n0)
def W00 : Wd := ([], id, 0, 0, 0, 0, 0, id, id, id, id, id, id, id, id, id, 0)
/-- the config is taken -/
theorem tk_all {sp n m t : Nat} {bs sz ar fr to ln who stp : Nat → Nat} (hsp : sp = 48 ∨ sp = 314) (hn1 : 1 ≤ n) (hn8 : n ≤ 8) (hm : m ≤ 16) (ht1 : 1 ≤ t) (ht : t ≤ 32) (c0 : σ.1 sp 0 = nI n) (c5 : σ.1 sp 5 = nI m) (c9 : σ.1 sp 9 = nI t) (q6 : ρ.1 79 196 = nI n) (q7 : ρ.1 79 197 = nI m) (q8 : ρ.1 79 198 = nI t) (P : PI sp n bs sz ar σ ρ) (C : CI sp m n fr to ln σ ρ) (S : SI sp t n who stp σ ρ) :
    ∃ ρ', fq_takeConfig ρ = some ρ' ∧ (∀ c, c ≠ 0 → (c < 28 ∨ 37 < c) → ρ'.1 c = ρ.1 c) ∧ ρ'.2 = ρ.2 ∧ (∀ j, j ≠ 55 → j ≠ 60 → j ≠ 64 → ρ'.1 0 j = ρ.1 0 j) ∧ ∀ W : Wd, CfgR (W.cfg sp n m t bs sz ar fr to ln who stp) σ ρ' := by
  have x96 : ∀ {α : Type} (z : Option α), ix (196:Int32) 200 z = z := fun z => n_ix (a := 196) (by omega) (by omega)
  have x97 : ∀ {α : Type} (z : Option α), ix (197:Int32) 200 z = z := fun z => n_ix (a := 197) (by omega) (by omega)
  have x98 : ∀ {α : Type} (z : Option α), ix (198:Int32) 200 z = z := fun z => n_ix (a := 198) (by omega) (by omega)
  have s79 : ∀ i, (rf_w (rf_w (rf_w ρ 0 55 (nI n)) 0 60 (nI m)) 0 64 (nI t)).1 79 i = ρ.1 79 i := fun i => by rw [q_w (by decide), q_w (by decide), q_w (by decide)]
  have so : ∀ c, c ≠ 0 → (rf_w (rf_w (rf_w ρ 0 55 (nI n)) 0 60 (nI m)) 0 64 (nI t)).1 c = ρ.1 c := fun c hc => by rw [q_w hc, q_w hc, q_w hc]
  have sf : ∀ j, j ≠ 55 → j ≠ 60 → j ≠ 64 → (rf_w (rf_w (rf_w ρ 0 55 (nI n)) 0 60 (nI m)) 0 64 (nI t)).1 0 j = ρ.1 0 j := fun j h1 h2 h3 => by rw [q_wk h3, q_wk h2, q_wk h1]
  have s55 : (rf_w (rf_w (rf_w ρ 0 55 (nI n)) 0 60 (nI m)) 0 64 (nI t)).1 0 55 = nI n := by rw [q_wk (by decide), q_wk (by decide), q_ws]
  have s60 : (rf_w (rf_w (rf_w ρ 0 55 (nI n)) 0 60 (nI m)) 0 64 (nI t)).1 0 60 = nI m := by rw [q_wk (by decide), q_ws]
  have s64 : (rf_w (rf_w (rf_w ρ 0 55 (nI n)) 0 60 (nI m)) 0 64 (nI t)).1 0 64 = nI t := q_ws
  have sl : (rf_w (rf_w (rf_w ρ 0 55 (nI n)) 0 60 (nI m)) 0 64 (nI t)).2 = ρ.2 := rfl
  have e0 : fq_takeConfig ρ = bq_takeConfig_40 (0:Int32) (0:Int32) (rf_w (rf_w (rf_w ρ 0 55 (nI n)) 0 60 (nI m)) 0 64 (nI t)) := by
    unfold fq_takeConfig bq_takeConfig_0
    rw [x96, show ρ.1 79 (196:Int32).toNatClampNeg = nI n from q6, vln, x97, show (rf_w ρ 0 55 (nI n)).1 79 (197:Int32).toNatClampNeg = nI m from by rw [q_w (by decide)]; exact q7, vln, x98, show (rf_w (rf_w ρ 0 55 (nI n)) 0 60 (nI m)).1 79 (198:Int32).toNatClampNeg = nI t from by rw [q_w (by decide), q_w (by decide)]; exact q8, vln]
  generalize (rf_w (rf_w (rf_w ρ 0 55 (nI n)) 0 60 (nI m)) 0 64 (nI t)) = τ at s79 so sf s55 s60 s64 sl e0
  obtain ⟨τ1, g1, a1, l1, v1⟩ := tk_parts (ρ := τ) (bs := bs) (sz := sz) (ar := ar) hn8 s55 (fun q hq => by rw [s79, s79, s79]; have := P.v q hq; exact ⟨this.2.1, this.2.2.2.1, this.2.2.2.2.2.1⟩) n 0 τ (by omega) (by omega) (fun _ _ => rfl) rfl (fun q hq => absurd hq (by omega))
  obtain ⟨τ2, g2, a2, l2, v2⟩ := tk_chans (ρ := τ1) (fr := fr) (to := to) (ln := ln) hm (by rw [a1 0 (by omega)]; exact s60) (fun q hq => by rw [a1 79 (by omega), s79, s79, s79]; have := C q hq; exact ⟨this.2.1, this.2.2.2.1, this.2.2.2.2.2.1⟩)
  obtain ⟨τ3, g3, a3, l3, v3⟩ := tk_slots (ρ := τ2) (who := who) (stp := stp) ht (by rw [a2 0 (by omega), a1 0 (by omega)]; exact s64) (fun q hq => by rw [a2 79 (by omega), a1 79 (by omega), s79, s79]; have := S q hq; exact ⟨this.2.1, this.2.2.2.1⟩)
  obtain ⟨τ4, g4, a4, l4, v4⟩ := tk_flow (W := Wd.cfg W00 sp n m t bs sz ar fr to ln who stp) (ρ := τ3) hm (show τ3.1 0 60 = nI m by rw [a3 0 (by omega), a2 0 (by omega), a1 0 (by omega)]; exact s60) (fun c hc => by
    have hv := v2 c hc
    have hC := C c hc
    rw [a3 32 (by omega), a3 33 (by omega)]
    exact ⟨hv.1, hv.2.1, show fr c < 8 by omega, show to c < 8 by omega⟩)
  have o : ∀ c, (c < 28 ∨ 37 < c) → τ4.1 c = τ.1 c := fun c hc => by rw [a4 c (by omega), a3 c (by omega), a2 c (by omega), a1 c (by omega)]
  refine ⟨τ4, ?_, fun c h1 h2 => by rw [o c h2, so c h1], by rw [l4, l3, l2, l1]; exact sl, fun j h1 h2 h3 => by rw [o 0 (by omega)]; exact sf j h1 h2 h3, fun W => ?_⟩
  · rw [e0]
    unfold bq_takeConfig_40
    rw [show (0:Int32) = nI 0 from rfl, show lp (fun z : (Int32 × Int32 × rf_S) => lq_takeConfig_40 z.1 z.2.1 z.2.2) (nI 0, nI 0, τ) = _ from g1, Option.bind_some]
    unfold eq_takeConfig_40 bq_takeConfig_118
    rw [show (0:Int32) = nI 0 from rfl, g2, Option.bind_some]
    unfold eq_takeConfig_118 bq_takeConfig_185
    rw [show (0:Int32) = nI 0 from rfl, g3, Option.bind_some]
    exact g4
  · refine ⟨hsp, ⟨hn8, c0, by rw [o 0 (by omega)]; exact s55⟩, ⟨hm, c5, by rw [o 0 (by omega)]; exact s60⟩, ⟨ht, fun _ => ht1, c9, by rw [o 0 (by omega)]; exact s64⟩, fun p hp => ?_, fun p q hp hq hpq => ?_, fun p q hpq hq => ?_, fun c hc => ?_, fun i hi => ?_, fun q p hq hp _ => ?_⟩
    · have hp : p < n := hp
      obtain ⟨b1, b2, b3, b4⟩ := P.bd p hp
      obtain ⟨y1, y2, y3, y4, y5, y6, y7⟩ := P.v p hp
      obtain ⟨z1, z2, z3, z4⟩ := v1 p hp
      have := asum_mono (ar := ar) (show p + 1 ≤ n by omega)
      have hs := P.sm
      rw [a4 29 (by omega), a4 28 (by omega), a4 30 (by omega), a4 31 (by omega), a3 29 (by omega), a3 28 (by omega), a3 30 (by omega), a3 31 (by omega), a2 29 (by omega), a2 28 (by omega), a2 30 (by omega), a2 31 (by omega)]
      exact ⟨⟨b1, b2, b3, b4, Nat.le_trans this hs⟩, y3, z2, z1, y5, z3, y7, z4⟩
    · rcases Nat.lt_or_gt_of_ne hpq with w | w
      · exact P.dj p q w hq
      · exact (P.dj q p w hp).symm
    · exact asum_mono (ar := ar) (show p + 1 ≤ q by omega)
    · obtain ⟨y1, y2, y3, y4, y5, y6, y7, y8, y9, y10⟩ := C c hc
      obtain ⟨z1, z2, z3⟩ := v2 c hc
      rw [a4 32 (by omega), a4 33 (by omega), a4 34 (by omega), a3 32 (by omega), a3 33 (by omega), a3 34 (by omega)]
      exact ⟨⟨y7, y8, y9, y10⟩, y1, z1, y3, z2, y5, z3⟩
    · obtain ⟨y1, y2, y3, y4, y5, y6, y7⟩ := S i hi
      obtain ⟨z1, z2⟩ := v3 i hi
      rw [a4 35 (by omega), a4 36 (by omega)]
      exact ⟨⟨y5, y6, y7⟩, y1, z1, y3, z2⟩
    · have hv := v4 q p hq hp
      rw [hv]
      show b01 (flR _ p 8 q) = _
      rw [flR_cg (W := W.cfg sp n m t bs sz ar fr to ln who stp) (W' := Wd.cfg W00 sp n m t bs sz ar fr to ln who stp) rfl rfl rfl]
      rfl
end Z2_GE
