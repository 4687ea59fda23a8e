section Z2_W
/-! LAYER 2: tables -/
theorem pigeon : ∀ (m n : Nat) (f : Nat → Nat), (∀ i, i < n → f i < m) → (∀ i j, i < n → j < n → f i = f j → i = j) → n ≤ m := by
  intro m
  induction m with
  | zero =>
    intro n f h _
    cases n with
    | zero => omega
    | succ n => have := h 0 (by omega); omega
  | succ m ih =>
    intro n f h hi
    cases n with
    | zero => omega
    | succ n =>
      have key : n ≤ m := by
        refine ih n (fun i => if f i = m then f n else f i) ?_ ?_
        · intro i hn
          show (if f i = m then f n else f i) < m
          have a1 := h i (by omega)
          have a2 := h n (by omega)
          by_cases q : f i = m
          · rw [if_pos q]
            have : f n ≠ m := fun q' => by have := hi i n (by omega) (by omega) (q.trans q'.symm); omega
            omega
          · rw [if_neg q]; omega
        · intro i j hi' hj' q
          have q' : (if f i = m then f n else f i) = (if f j = m then f n else f j) := q
          by_cases c1 : f i = m
          · by_cases c2 : f j = m
            · exact hi i j (by omega) (by omega) (c1.trans c2.symm)
            · rw [if_pos c1, if_neg c2] at q'
              have := hi n j (by omega) (by omega) q'
              omega
          · by_cases c2 : f j = m
            · rw [if_neg c1, if_pos c2] at q'
              have := hi i n (by omega) (by omega) q'
              omega
            · rw [if_neg c1, if_neg c2] at q'
              exact hi i j (by omega) (by omega) q'
      omega
theorem n_and {q k : Nat} (hq : q < 2147483648) (hk : k ≤ 30) : nI q &&& nI (2 ^ k - 1) = nI (q % 2 ^ k) := by
  unfold nI
  apply Int32.toBitVec_inj.mp
  rw [Int32.toBitVec_and, Int32.toBitVec_ofNat', Int32.toBitVec_ofNat', Int32.toBitVec_ofNat']
  apply BitVec.eq_of_toNat_eq
  have hp : 2 ^ k ≤ 2 ^ 30 := Nat.pow_le_pow_right (by omega) hk
  have hp0 : 0 < 2 ^ k := Nat.two_pow_pos k
  rw [BitVec.toNat_and, BitVec.toNat_ofNat, BitVec.toNat_ofNat, BitVec.toNat_ofNat, Nat.mod_eq_of_lt (by omega), Nat.mod_eq_of_lt (by omega), Nat.and_two_pow_sub_one_eq_mod]
  have := Nat.mod_lt q hp0
  exact (Nat.mod_eq_of_lt (by omega)).symm
/-- a table: h handles; tb the reference's entries; sl slots, a power of two -/
def TabR (σ : cl_S) (tm : Nat → Nat) (N a lim sl : Nat) (tb : Nat → Int32) (cnt : Int32) (h : Nat) : Prop := (∃ e, e ≤ 11 ∧ sl = 2 ^ e) ∧ (cl_ts a = sl ∧ cl_th a = lim + 1 ∧ lim < sl) ∧ (h ≤ lim) ∧ (σ.1 a 5 = nI h) ∧ (cnt = nI h) ∧ (σ.1 a 1 = nI lim) ∧ (∀ j, j < h → ∃ t, t < N ∧ tb j = nI t ∧ σ.2.2.1 (a + 1) (j + 1) = some (tm t)) ∧ (∀ i j, i < j → j < h → tb i ≠ tb j) ∧ (∀ i, i < sl → ∃ c, c ≤ h ∧ σ.1 (a + 2) i = nI c) ∧ (∀ i j, i < sl → j < sl → σ.1 (a + 2) i = σ.1 (a + 2) j → σ.1 (a + 2) i ≠ nI 0 → i = j) ∧ (∀ j, j < h → ∃ x s d, σ.2.2.1 (a + 1) (j + 1) = some x ∧ s < sl ∧ σ.1 x 2 &&& nI (sl - 1) = nI s ∧ d < sl ∧ (∀ d', d' < d → σ.1 (a + 2) ((s + d') % sl) ≠ nI 0) ∧ σ.1 (a + 2) ((s + d) % sl) = nI (j + 1))
theorem TabR.sh {σ : cl_S} {tm : Nat → Nat} {N a lim sl : Nat} {tb : Nat → Int32} {cnt : Int32} {h : Nat} (hS : TabR σ tm N a lim sl tb cnt h) : ∃ e, e ≤ 11 ∧ sl = 2 ^ e := hS.1
theorem TabR.cs {σ : cl_S} {tm : Nat → Nat} {N a lim sl : Nat} {tb : Nat → Int32} {cnt : Int32} {h : Nat} (hS : TabR σ tm N a lim sl tb cnt h) : cl_ts a = sl ∧ cl_th a = lim + 1 ∧ lim < sl := hS.2.1
theorem TabR.hl {σ : cl_S} {tm : Nat → Nat} {N a lim sl : Nat} {tb : Nat → Int32} {cnt : Int32} {h : Nat} (hS : TabR σ tm N a lim sl tb cnt h) : h ≤ lim := hS.2.2.1
theorem TabR.cc {σ : cl_S} {tm : Nat → Nat} {N a lim sl : Nat} {tb : Nat → Int32} {cnt : Int32} {h : Nat} (hS : TabR σ tm N a lim sl tb cnt h) : σ.1 a 5 = nI h := hS.2.2.2.1
theorem TabR.cq {σ : cl_S} {tm : Nat → Nat} {N a lim sl : Nat} {tb : Nat → Int32} {cnt : Int32} {h : Nat} (hS : TabR σ tm N a lim sl tb cnt h) : cnt = nI h := hS.2.2.2.2.1
theorem TabR.lm {σ : cl_S} {tm : Nat → Nat} {N a lim sl : Nat} {tb : Nat → Int32} {cnt : Int32} {h : Nat} (hS : TabR σ tm N a lim sl tb cnt h) : σ.1 a 1 = nI lim := hS.2.2.2.2.2.1
theorem TabR.en {σ : cl_S} {tm : Nat → Nat} {N a lim sl : Nat} {tb : Nat → Int32} {cnt : Int32} {h : Nat} (hS : TabR σ tm N a lim sl tb cnt h) : ∀ j, j < h → ∃ t, t < N ∧ tb j = nI t ∧ σ.2.2.1 (a + 1) (j + 1) = some (tm t) := hS.2.2.2.2.2.2.1
theorem TabR.nd {σ : cl_S} {tm : Nat → Nat} {N a lim sl : Nat} {tb : Nat → Int32} {cnt : Int32} {h : Nat} (hS : TabR σ tm N a lim sl tb cnt h) : ∀ i j, i < j → j < h → tb i ≠ tb j := hS.2.2.2.2.2.2.2.1
theorem TabR.sv {σ : cl_S} {tm : Nat → Nat} {N a lim sl : Nat} {tb : Nat → Int32} {cnt : Int32} {h : Nat} (hS : TabR σ tm N a lim sl tb cnt h) : ∀ i, i < sl → ∃ c, c ≤ h ∧ σ.1 (a + 2) i = nI c := hS.2.2.2.2.2.2.2.2.1
theorem TabR.si {σ : cl_S} {tm : Nat → Nat} {N a lim sl : Nat} {tb : Nat → Int32} {cnt : Int32} {h : Nat} (hS : TabR σ tm N a lim sl tb cnt h) : ∀ i j, i < sl → j < sl → σ.1 (a + 2) i = σ.1 (a + 2) j → σ.1 (a + 2) i ≠ nI 0 → i = j := hS.2.2.2.2.2.2.2.2.2.1
theorem TabR.po {σ : cl_S} {tm : Nat → Nat} {N a lim sl : Nat} {tb : Nat → Int32} {cnt : Int32} {h : Nat} (hS : TabR σ tm N a lim sl tb cnt h) : ∀ j, j < h → ∃ x s d, σ.2.2.1 (a + 1) (j + 1) = some x ∧ s < sl ∧ σ.1 x 2 &&& nI (sl - 1) = nI s ∧ d < sl ∧ (∀ d', d' < d → σ.1 (a + 2) ((s + d') % sl) ≠ nI 0) ∧ σ.1 (a + 2) ((s + d) % sl) = nI (j + 1) := hS.2.2.2.2.2.2.2.2.2.2
theorem TabR.free {σ : cl_S} {tm : Nat → Nat} {N a lim sl : Nat} {tb : Nat → Int32} {cnt : Int32} {h : Nat} (B : TabR σ tm N a lim sl tb cnt h) : ∃ i, i < sl ∧ σ.1 (a + 2) i = nI 0 := by
  apply Classical.byContradiction
  intro hno
  have hno' : ∀ i, i < sl → σ.1 (a + 2) i ≠ nI 0 := fun i hi q => hno ⟨i, hi, q⟩
  obtain ⟨e, he, hsl⟩ := B.sh
  have hp : 2 ^ e ≤ 2 ^ 11 := Nat.pow_le_pow_right (by omega) he
  have h1 := B.cs.2.2
  have h2 := B.hl
  have cl : ∀ i, i < sl → ∃ c, c < h ∧ σ.1 (a + 2) i = nI (c + 1) := by
    intro i hi
    obtain ⟨c, hc, ec⟩ := B.sv i hi
    have : c ≠ 0 := fun q => hno' i hi (by rw [ec, q])
    exact ⟨c - 1, by omega, by rw [ec]; congr 1; omega⟩
  have : sl ≤ h := by
    refine pigeon h sl (fun i => if hi : i < sl then Classical.choose (cl i hi) else 0) ?_ ?_
    · intro i hi
      show (if hi : i < sl then Classical.choose (cl i hi) else 0) < h
      rw [dif_pos hi]
      exact (Classical.choose_spec (cl i hi)).1
    · intro i j hi hj q
      have q' : (if hi : i < sl then Classical.choose (cl i hi) else 0) = (if hi : j < sl then Classical.choose (cl j hi) else 0) := q
      rw [dif_pos hi, dif_pos hj] at q'
      refine B.si i j hi hj ?_ (hno' i hi)
      rw [(Classical.choose_spec (cl i hi)).2, (Classical.choose_spec (cl j hj)).2, q']
  omega
theorem c_slot {σ : cl_S} {tm : Nat → Nat} {N a lim sl : Nat} {tb : Nat → Int32} {cnt : Int32} {h : Nat} (B : TabR σ tm N a lim sl tb cnt h) (x : Nat) :
    ∃ s d, s < sl ∧ d < sl ∧ σ.1 x 2 &&& nI (sl - 1) = nI s ∧ (∀ d', d' < d → σ.1 (a + 2) ((s + d') % sl) ≠ nI 0) ∧ fc_X8_slotOf a (some x) σ = some (nI ((s + d) % sl), σ) ∧ ((∃ j, j < h ∧ σ.2.2.1 (a + 1) (j + 1) = some x ∧ σ.1 (a + 2) ((s + d) % sl) = nI (j + 1)) ∨ ((∀ j, j < h → σ.2.2.1 (a + 1) (j + 1) ≠ some x) ∧ σ.1 (a + 2) ((s + d) % sl) = nI 0)) := by
  obtain ⟨e, he, hsl⟩ := B.sh
  have hp : 2 ^ e ≤ 2 ^ 11 := Nat.pow_le_pow_right (by omega) he
  have hp0 : 0 < 2 ^ e := Nat.two_pow_pos e
  obtain ⟨hts, hth, hlim⟩ := B.cs
  have hh := B.hl
  obtain ⟨s, hs, es⟩ := and_lt (σ.1 x 2) (sl - 1) (by omega)
  obtain ⟨i0, hi0, e0⟩ := B.free
  -- the free slot's distance
  obtain ⟨f, hf, ef⟩ : ∃ f, f < sl ∧ (s + f) % sl = i0 := by
    by_cases q : s ≤ i0
    · exact ⟨i0 - s, by omega, by rw [Nat.mod_eq_of_lt (by omega)]; omega⟩
    · refine ⟨i0 + sl - s, by omega, ?_⟩
      have : s + (i0 + sl - s) = i0 + sl := by omega
      rw [this, Nat.add_mod_right, Nat.mod_eq_of_lt hi0]
  have msk : (nI (cl_ts a)) - (1:Int32) = nI (sl - 1) := by rw [hts]; exact n_sub (a := sl) (b := 1) (by omega)
  have e1 : fc_X8_slotOf a (some x) σ = (lp (fun z : (Int32 × Int32 × cl_S) => lc_X8_slotOf_15 a (some x) z.1 z.2.1 z.2.2) (nI ((s + 0) % sl), nI 0, σ)).bind (fun y => Sum.elim (fun z => some z) (fun z => ec_X8_slotOf_15 a (some x) z.1 z.2.1 z.2.2) y) := by
    unfold fc_X8_slotOf bc_X8_slotOf_0 bc_X8_slotOf_15
    rw [nn_eq, vl_eq, msk, es, Nat.add_zero, Nat.mod_eq_of_lt (by omega)]
    rfl
  have loop := lp_ok (b := fun z : (Int32 × Int32 × cl_S) => lc_X8_slotOf_15 a (some x) z.1 z.2.1 z.2.2)
    (fun m z => ∃ d, d + m = f ∧ z = (nI ((s + d) % sl), nI d, σ) ∧ ∀ d', d' < d → σ.1 (a + 2) ((s + d') % sl) ≠ nI 0 ∧ ∀ c, c ≤ h → σ.1 (a + 2) ((s + d') % sl) = nI c → σ.2.2.1 (a + 1) c ≠ some x)
    (fun y => ∃ d, d < sl ∧ y = .inl (nI ((s + d) % sl), σ) ∧ (∀ d', d' < d → σ.1 (a + 2) ((s + d') % sl) ≠ nI 0 ∧ ∀ c, c ≤ h → σ.1 (a + 2) ((s + d') % sl) = nI c → σ.2.2.1 (a + 1) c ≠ some x) ∧ (σ.1 (a + 2) ((s + d) % sl) = nI 0 ∨ ∃ c, c ≠ 0 ∧ c ≤ h ∧ σ.1 (a + 2) ((s + d) % sl) = nI c ∧ σ.2.2.1 (a + 1) c = some x)) ?_ f (nI ((s + 0) % sl), nI 0, σ) ⟨0, by omega, rfl, fun d' hd' => absurd hd' (by omega)⟩
  · obtain ⟨y, ey, d, hd, rfl, hpath, hend⟩ := loop
    refine ⟨s, d, by omega, hd, es, fun d' hd' => (hpath d' hd').1, ?_, ?_⟩
    · rw [e1, ey]; rfl
    · rcases hend with hz | ⟨c, hc0, hc, ec, ex⟩
      · refine Or.inr ⟨fun j hj q => ?_, hz⟩
        obtain ⟨x', s', d', ex', hs', es', hd', pth, ep⟩ := B.po j hj
        rw [q] at ex'
        cases ex'
        have : s' = s := (n_eq (by omega) (by omega)).mp (es'.symm.trans es)
        subst this
        by_cases c1 : d' < d
        · exact (hpath d' c1).2 (j + 1) (by omega) ep q
        · by_cases c2 : d' = d
          · subst c2
            rw [hz] at ep
            have := (n_eq (by omega) (by omega)).mp ep
            omega
          · exact pth d (by omega) hz
      · refine Or.inl ⟨c - 1, by omega, ?_, ?_⟩
        · rw [Nat.sub_add_cancel (by omega)]; exact ex
        · rw [Nat.sub_add_cancel (by omega)]; exact ec
  · rintro m z ⟨d, hdm, rfl, hpath⟩
    have hd : d < sl := by omega
    have hps : (s + d) % sl < sl := Nat.mod_lt _ (by omega)
    obtain ⟨c, hc, ec⟩ := B.sv _ hps
    show (∃ t m', lc_X8_slotOf_15 a (some x) (nI ((s + d) % sl)) (nI d) σ = some (.inl t) ∧ m' < m ∧ _) ∨ (∃ y, lc_X8_slotOf_15 a (some x) (nI ((s + d) % sl)) (nI d) σ = some (.inr y) ∧ _)
    have u1 : ¬ nI sl ≤ nI d := by rw [n_le (by omega) (by omega)]; omega
    by_cases q0 : c = 0
    · right
      subst q0
      refine ⟨.inl (nI ((s + d) % sl), σ), ?_, d, hd, rfl, hpath, Or.inl ec⟩
      unfold lc_X8_slotOf_15
      rw [hts, if_neg u1, n_ix hps (by omega), n_cl (by omega), ec, if_pos (show nI 0 = 0 from rfl)]
    · have u2 : ¬ nI c = 0 := by rw [i32_0, n_eq (by omega) (by omega)]; exact q0
      by_cases qx : σ.2.2.1 (a + 1) c = some x
      · right
        refine ⟨.inl (nI ((s + d) % sl), σ), ?_, d, hd, rfl, hpath, Or.inr ⟨c, q0, hc, ec, qx⟩⟩
        unfold lc_X8_slotOf_15
        rw [hts, if_neg u1, n_ix hps (by omega), n_cl (by omega), ec, if_neg u2, n_ix hps (by omega), hth, n_ix (by omega) (by omega), n_cl (by omega), vl_eq, if_pos qx]
      · left
        have hdf : d ≠ f := by
          intro q
          subst q
          rw [ef, e0] at ec
          exact q0 ((n_eq (by omega) (by omega)).mp ec).symm
        refine ⟨(nI ((s + (d + 1)) % sl), nI (d + 1), σ), m - 1, ?_, by omega, d + 1, by omega, rfl, ?_⟩
        · unfold lc_X8_slotOf_15
          rw [hts, if_neg u1, n_ix hps (by omega), n_cl (by omega), ec, if_neg u2, n_ix hps (by omega), hth, n_ix (by omega) (by omega), n_cl (by omega), vl_eq, if_neg qx, ← hts, msk]
          have k1 : (nI ((s + d) % sl) + (1:Int32)) &&& nI (sl - 1) = nI ((s + (d + 1)) % sl) := by
            have : nI ((s + d) % sl) + (1:Int32) = nI ((s + d) % sl + 1) := n_add _ 1
            rw [this, hsl, n_and (by rw [← hsl]; omega) (by omega), ← hsl]
            congr 1
            rw [Nat.mod_add_mod, Nat.add_assoc]
          rw [hts, k1, vl_eq, vl_eq, show nI d + (1:Int32) = nI (d + 1) from n_add d 1]
        · intro d' hd'
          by_cases c1 : d' < d
          · exact hpath d' c1
          · have : d' = d := by omega
            subst this
            refine ⟨fun q => q0 ((n_eq (by omega) (by omega)).mp (ec.symm.trans q)), fun c' hc' ec' => ?_⟩
            have : c' = c := (n_eq (by omega) (by omega)).mp (ec'.symm.trans ec)
            rw [this]; exact qx
/-- the table's state after a term came in -/
def tbI (σ : cl_S) (a x h p : Nat) : cl_S := cl_w (cl_wr (cl_w σ a 5 (nI (h + 1))) (a + 1) (h + 1) (some x)) (a + 2) p (nI (h + 1))
theorem c_comeIn {σ : cl_S} {tm : Nat → Nat} {N a lim sl : Nat} {tb : Nat → Int32} {cnt : Int32} {h : Nat} (B : TabR σ tm N a lim sl tb cnt h) (hf : ∀ t, t < N → tm t ≠ a ∧ tm t ≠ a + 2) (inj : ∀ t u, t < N → u < N → tm t = tm u → t = u) (hN : N < 2147483648) {t : Nat} (ht : t < N) :
    (∃ j, j < h ∧ tb j = nI t ∧ fc_X8_comeIn a (some (tm t)) σ = some (nI (j + 1), σ)) ∨
    ((∀ j, j < h → tb j ≠ nI t) ∧ ((h = lim ∧ fc_X8_comeIn a (some (tm t)) σ = some (-4, σ)) ∨
      (h < lim ∧ ∃ p, fc_X8_comeIn a (some (tm t)) σ = (if σ.1 a 2 = 0 then some (nI (h + 1), tbI σ a (tm t) h p) else bd1 (fc_X10_tell 31 (some (tm t)) (tbI σ a (tm t) h p)) (fun τ => some (τ.1 a 5, τ))) ∧
        ∀ tb' : Nat → Int32, (∀ j, j < h → tb' j = tb j) → tb' h = nI t → TabR (tbI σ a (tm t) h p) tm N a lim sl tb' (nI (h + 1)) (h + 1)))) := by
  obtain ⟨e, he, hsl⟩ := B.sh
  have hp : 2 ^ e ≤ 2 ^ 11 := Nat.pow_le_pow_right (by omega) he
  obtain ⟨hts, hth, hlim⟩ := B.cs
  have hh := B.hl
  obtain ⟨s, d, hs, hd, es, pth, esl, hend⟩ := c_slot B (tm t)
  have hps : (s + d) % sl < sl := Nat.mod_lt _ (by omega)
  have tbx : ∀ j, j < h → (tb j = nI t ↔ σ.2.2.1 (a + 1) (j + 1) = some (tm t)) := by
    intro j hj
    obtain ⟨u, hu, e1, e2⟩ := B.en j hj
    rw [e1, e2, n_eq (by omega) (by omega)]
    exact ⟨fun q => by rw [q], fun q => inj u t hu ht (Option.some.inj q)⟩
  unfold fc_X8_comeIn bc_X8_comeIn_0 fc_X8_isFull bc_X8_isFull_0
  rw [esl, bd2_eq, hts, n_ix hps (by omega), n_cl (by omega)]
  rcases hend with ⟨j, hj, ex, ep⟩ | ⟨hno, ep⟩
  · left
    refine ⟨j, hj, (tbx j hj).mpr ex, ?_⟩
    rw [ep, if_neg (by rw [i32_0, n_eq (by omega) (by omega)]; omega), n_ix hps (by omega)]
  · right
    refine ⟨fun j hj q => hno j hj ((tbx j hj).mp q), ?_⟩
    rw [ep, if_pos (show nI 0 = 0 from rfl), B.cc, B.lm]
    by_cases q : h = lim
    · left
      refine ⟨q, ?_⟩
      rw [if_neg (by rw [n_lt (by omega) (by omega)]; omega), bd2_eq, if_neg (by decide)]
    · right
      refine ⟨by omega, (s + d) % sl, ?_, ?_⟩
      · rw [if_pos (by rw [n_lt (by omega) (by omega)]; omega), bd2_eq, if_pos rfl]
        have k1 : nI h + (1:Int32) = nI (h + 1) := n_add h 1
        have g5 : (cl_w σ a 5 (nI (h + 1))).1 a 5 = nI (h + 1) := r_ws
        have g5' : (cl_wr (cl_w σ a 5 (nI (h + 1))) (a + 1) (h + 1) (some (tm t))).1 a 5 = nI (h + 1) := r_ws
        have g5'' : (tbI σ a (tm t) h ((s + d) % sl)).1 a 5 = nI (h + 1) := by
          unfold tbI
          rw [r_w (by omega)]; exact g5'
        have g2 : (tbI σ a (tm t) h ((s + d) % sl)).1 a 2 = σ.1 a 2 := by
          unfold tbI
          rw [r_w (by omega)]
          exact r_wk (by decide)
        have el : (5 : Nat) = 5 := rfl
        rw [B.cc, k1]
        simp only [vl_eq]
        rw [g5, hth, n_ix (by omega) (by omega), n_cl (by omega), n_ix hps (by omega), g5']
        show (if (tbI σ a (tm t) h ((s + d) % sl)).1 a 2 = 0 then some ((tbI σ a (tm t) h ((s + d) % sl)).1 a 5, tbI σ a (tm t) h ((s + d) % sl)) else bd1 (fc_X10_tell 31 (some (tm t)) (tbI σ a (tm t) h ((s + d) % sl))) (fun τ => some (τ.1 a 5, τ))) = _
        rw [g2, g5'']
      · intro tb' ho hn
        have f1 : ∀ u, u < N → (tbI σ a (tm t) h ((s + d) % sl)).1 (tm u) = σ.1 (tm u) := by
          intro u hu
          have := hf u hu
          unfold tbI
          rw [r_w this.2, r_rI, r_w this.1]
        have f2 : ∀ i, i ≠ (s + d) % sl → (tbI σ a (tm t) h ((s + d) % sl)).1 (a + 2) i = σ.1 (a + 2) i := by
          intro i hi
          unfold tbI
          rw [r_wk hi, r_rI, r_w (by omega)]
        have f3 : (tbI σ a (tm t) h ((s + d) % sl)).1 (a + 2) ((s + d) % sl) = nI (h + 1) := r_ws
        have f4 : ∀ j, j < h → (tbI σ a (tm t) h ((s + d) % sl)).2.2.1 (a + 1) (j + 1) = σ.2.2.1 (a + 1) (j + 1) := by
          intro j hj
          unfold tbI
          rw [r_wL, r_rk (by omega), r_wL]
        have f5 : (tbI σ a (tm t) h ((s + d) % sl)).2.2.1 (a + 1) (h + 1) = some (tm t) := r_rs
        have nz1 : nI (h + 1) ≠ nI 0 := fun q => by have := (n_eq (by omega) (by omega)).mp q; omega
        have nzp : ∀ i, i < sl → σ.1 (a + 2) i ≠ nI 0 → (tbI σ a (tm t) h ((s + d) % sl)).1 (a + 2) i ≠ nI 0 := by
          intro i hi q
          by_cases c : i = (s + d) % sl
          · rw [c, f3]; exact nz1
          · rw [f2 i c]; exact q
        refine ⟨?_, ?_, ?_, ?_, ?_, ?_, ?_, ?_, ?_, ?_, ?_⟩
        · exact ⟨e, he, hsl⟩
        · exact ⟨hts, hth, hlim⟩
        · omega
        · unfold tbI; rw [r_w (by omega)]; exact r_ws
        · rfl
        · unfold tbI; rw [r_w (by omega), r_rI, r_wk (by decide)]; exact B.lm
        · intro j hj
          by_cases c : j = h
          · subst c; exact ⟨t, ht, hn, f5⟩
          · rw [ho j (by omega), f4 j (by omega)]; exact B.en j (by omega)
        · intro i j hij hj
          by_cases c : j = h
          · subst c
            rw [hn, ho i hij]
            exact fun q => hno i hij ((tbx i hij).mp q)
          · rw [ho i (by omega), ho j (by omega)]; exact B.nd i j hij (by omega)
        · intro i hi
          by_cases c : i = (s + d) % sl
          · rw [c, f3]; exact ⟨h + 1, by omega, rfl⟩
          · rw [f2 i c]
            obtain ⟨c', hc', ec'⟩ := B.sv i hi
            exact ⟨c', by omega, ec'⟩
        · intro i j hi hj q qz
          by_cases c : i = (s + d) % sl
          · by_cases c' : j = (s + d) % sl
            · omega
            · exfalso
              rw [c, f3, f2 j c'] at q
              obtain ⟨v, hv, ev⟩ := B.sv j hj
              rw [ev] at q
              have := (n_eq (by omega) (by omega)).mp q
              omega
          · by_cases c' : j = (s + d) % sl
            · exfalso
              rw [c', f3, f2 i c] at q
              obtain ⟨v, hv, ev⟩ := B.sv i hi
              rw [ev] at q
              have := (n_eq (by omega) (by omega)).mp q
              omega
            · rw [f2 i c, f2 j c'] at q
              rw [f2 i c] at qz
              exact B.si i j hi hj q qz
        · intro j hj
          by_cases c : j = h
          · subst c
            refine ⟨tm t, s, d, f5, hs, by rw [f1 t ht]; exact es, hd, ?_, f3⟩
            intro d' hd'
            exact nzp _ (Nat.mod_lt _ (by omega)) (pth d' hd')
          · obtain ⟨x, s', d', ex, hs', es', hd', pth', ep'⟩ := B.po j (by omega)
            obtain ⟨u, hu, -, eu⟩ := B.en j (by omega)
            rw [eu] at ex
            cases ex
            refine ⟨tm u, s', d', by rw [f4 j (by omega)]; exact eu, hs', by rw [f1 u hu]; exact es', hd', ?_, ?_⟩
            · intro d'' hd''
              exact nzp _ (Nat.mod_lt _ (by omega)) (pth' d'' hd'')
            · rw [f2]
              · exact ep'
              · intro q'
                rw [q', ep] at ep'
                have := (n_eq (by omega) (by omega)).mp ep'
                omega
/-- a TERM is looked for among the handles -/
theorem q_find {ρ : rf_S} {g h : Nat} (hg : ρ.1 0 119 = nI g) (hg' : g < 16) (hh : ρ.1 61 g = nI h) (hl : h ≤ 100) (v : Int32) :
    (∃ j, j < h ∧ ρ.1 60 (100 * g + j) = v ∧ fq_find v ρ = some (nI (j + 1), ρ)) ∨ ((∀ j, j < h → ρ.1 60 (100 * g + j) ≠ v) ∧ fq_find v ρ = some (nI 0, ρ)) := by
  have e1 : fq_find v ρ = (lp (fun z : (Int32 × rf_S) => lq_find_2 v z.1 z.2) (nI 0, ρ)).bind (fun y => Sum.elim (fun z => some z) (fun z => eq_find_2 v z.1 z.2) y) := rfl
  have loop := lp_ok (b := fun z : (Int32 × rf_S) => lq_find_2 v z.1 z.2) (fun m z => ∃ j, j + m = h ∧ z = (nI j, ρ) ∧ ∀ i, i < j → ρ.1 60 (100 * g + i) ≠ v)
    (fun y => (∃ j, j < h ∧ ρ.1 60 (100 * g + j) = v ∧ y = .inl (nI (j + 1), ρ)) ∨ ((∀ j, j < h → ρ.1 60 (100 * g + j) ≠ v) ∧ ∃ w, y = .inr (w, ρ))) ?_ h (nI 0, ρ) ⟨0, by omega, rfl, fun i hi => absurd hi (by omega)⟩
  · obtain ⟨y, ey, q⟩ := loop
    rw [e1, ey]
    rcases q with ⟨j, hj, ej, rfl⟩ | ⟨hn, w, rfl⟩
    · exact Or.inl ⟨j, hj, ej, rfl⟩
    · exact Or.inr ⟨hn, rfl⟩
  · rintro m z ⟨j, hjm, rfl, hpre⟩
    show (∃ t m', lq_find_2 v (nI j) ρ = some (.inl t) ∧ m' < m ∧ _) ∨ (∃ y, lq_find_2 v (nI j) ρ = some (.inr y) ∧ _)
    unfold lq_find_2
    rw [hg, n_ix hg' (by omega), n_cl (by omega), hh]
    by_cases q : h ≤ j
    · right
      rw [if_pos ((n_le (by omega) (by omega)).mpr q)]
      exact ⟨_, rfl, Or.inr ⟨fun i hi => hpre i (by omega), nI j, rfl⟩⟩
    · rw [if_neg (fun k => q ((n_le (by omega) (by omega)).mp k))]
      have k1 : (100:Int32) * nI g + nI j = nI (100 * g + j) := by rw [li, n_mul, n_add]
      rw [k1, n_ix (by omega) (by omega), n_cl (by omega)]
      by_cases q2 : ρ.1 60 (100 * g + j) = v
      · right
        rw [if_pos q2]
        exact ⟨_, rfl, Or.inl ⟨j, by omega, q2, by rw [show nI j + (1:Int32) = nI (j + 1) from n_add j 1]⟩⟩
      · left
        rw [if_neg q2, vl_eq]
        refine ⟨_, m - 1, rfl, by omega, j + 1, by omega, by rw [show nI j + (1:Int32) = nI (j + 1) from n_add j 1], ?_⟩
        intro i hi
        by_cases c : i < j
        · exact hpre i c
        · have : i = j := by omega
          subst this; exact q2
theorem q_comes {ρ : rf_S} {g h : Nat} (hg : ρ.1 0 119 = nI g) (hg' : g < 16) (hh : ρ.1 61 g = nI h) (hl : h ≤ 100) (v : Int32) :
    (∃ j, j < h ∧ ρ.1 60 (100 * g + j) = v ∧ fq_comes v ρ = some (nI (j + 1), ρ)) ∨ ((∀ j, j < h → ρ.1 60 (100 * g + j) ≠ v) ∧ ((h = 100 ∧ fq_comes v ρ = some (-4, ρ)) ∨ (h < 100 ∧ fq_comes v ρ = some (nI (h + 1), rf_w (rf_w ρ 60 (100 * g + h) v) 61 g (nI (h + 1)))))) := by
  unfold fq_comes bq_comes_0
  rcases q_find hg hg' hh hl v with ⟨j, hj, ej, e⟩ | ⟨hn, e⟩
  · left
    refine ⟨j, hj, ej, ?_⟩
    rw [e, bd2_eq, if_neg (by rw [i32_0, n_le (by omega) (by omega)]; omega)]
  · right
    refine ⟨hn, ?_⟩
    rw [e, bd2_eq, if_pos (by rw [i32_0, n_le (by omega) (by omega)]; omega), hg, n_ix hg' (by omega), n_cl (by omega), hh]
    by_cases q : h = 100
    · left
      refine ⟨q, ?_⟩
      rw [q, if_pos (show nI 100 = 100 from rfl)]
    · right
      refine ⟨by omega, ?_⟩
      have k1 : (100:Int32) * nI g + nI h = nI (100 * g + h) := by rw [li, n_mul, n_add]
      rw [if_neg (by rw [show (100:Int32) = nI 100 from rfl, n_eq (by omega) (by omega)]; exact q), n_ix hg' (by omega), k1, n_ix (by omega) (by omega), n_cl (by omega), vl_eq]
      have w0 : (rf_w ρ 60 (100 * g + h) v).1 0 119 = nI g := by rw [q_w (by decide)]; exact hg
      have w1 : (rf_w ρ 60 (100 * g + h) v).1 61 g = nI h := by rw [q_w (by decide)]; exact hh
      rw [w0, n_ix hg' (by omega), n_ix hg' (by omega), n_cl (by omega), w1, vl_eq, show nI h + (1:Int32) = nI (h + 1) from n_add h 1]
      have w2 : (rf_w (rf_w ρ 60 (100 * g + h) v) 61 g (nI (h + 1))).1 0 119 = nI g := by rw [q_w (by decide)]; exact w0
      rw [w2, n_ix hg' (by omega), n_cl (by omega), q_ws]
end Z2_W
