section Z2_Q
/-! LAYER 2: the reference's terms -/
def RLR (nx : Nat → Int32) : List Nat → Int32 → Prop
  | [], r => r < 0
  | a :: l, r => r = nI a ∧ RLR nx l (nx a)
def RL (nx : Nat → Int32) (r : Int32) (l : List Nat) : Prop := RLR nx l r
theorem RL.nil {nx : Nat → Int32} {v : Int32} (h : v < 0) : RL nx v [] := h
theorem RL.cons {nx : Nat → Int32} {t : Nat} {l : List Nat} (h : RL nx (nx t) l) : RL nx (nI t) (t :: l) := ⟨rfl, h⟩
theorem RL.ind {nx : Nat → Int32} {motive : (r : Int32) → (l : List Nat) → RL nx r l → Prop} (nil : ∀ {v : Int32} (h : v < 0), motive v [] (RL.nil h)) (cons : ∀ {t : Nat} {l : List Nat} (h : RL nx (nx t) l), motive (nx t) l h → motive (nI t) (t :: l) (RL.cons h)) : ∀ {r : Int32} {l : List Nat} (h : RL nx r l), motive r l h := by
  intro r l
  induction l generalizing r with
  | nil => intro h; exact nil h
  | cons a l ih =>
    intro h
    obtain ⟨rfl, h'⟩ := (show r = nI a ∧ RL nx (nx a) l from h)
    exact cons h' (ih h')
theorem RL.congr {nx nx' : Nat → Int32} {r : Int32} {l : List Nat} (h : RL nx r l) (e : ∀ a ∈ l, nx' a = nx a) : RL nx' r l := by
  induction h using RL.ind with
  | nil h => exact .nil h
  | cons h ih =>
    refine .cons ?_
    rw [e _ List.mem_cons_self]
    exact ih (fun a ha => e a (List.mem_cons_of_mem _ ha))
def hQ (k a b c : Int32) : Int32 :=
  let h0 := (k * (625341585:Int32)) + a
  let h1 := ((h0 ^^^ ((h0.toUInt32 >>> ((15:Int32).toUInt32 &&& Int32.toUInt32 31)).toInt32)) * (739982445:Int32)) + b
  let h2 := ((h1 ^^^ ((h1.toUInt32 >>> ((13:Int32).toUInt32 &&& Int32.toUInt32 31)).toInt32)) * (695872825:Int32)) + c
  (h2 ^^^ ((h2.toUInt32 >>> ((16:Int32).toUInt32 &&& Int32.toUInt32 31)).toInt32)) &&& (16383:Int32)
theorem q_hash (k a b c : Int32) (ρ : rf_S) : fq_hash k a b c ρ = some (hQ k a b c, ρ) := rfl
theorem and_lt (x : Int32) (m : Nat) (hm : m < 2147483648) : ∃ q, q ≤ m ∧ x &&& nI m = nI q := by
  refine ⟨(x &&& nI m).toBitVec.toNat, ?_, ?_⟩
  · rw [Int32.toBitVec_and, BitVec.toNat_and]
    have e : (nI m).toBitVec.toNat = m := by
      unfold nI
      rw [Int32.toBitVec_ofNat', BitVec.toNat_ofNat]
      omega
    rw [e]
    exact Nat.and_le_right
  · unfold nI
    apply Int32.toBitVec_inj.mp
    rw [Int32.toBitVec_ofNat', BitVec.ofNat_toNat, BitVec.setWidth_eq]
theorem hQ_lt (k a b c : Int32) : ∃ m, m < 16384 ∧ hQ k a b c = nI m := by
  unfold hQ
  obtain ⟨q, hq, e⟩ := and_lt (((((((k * (625341585:Int32)) + a) ^^^ ((((k * (625341585:Int32)) + a).toUInt32 >>> ((15:Int32).toUInt32 &&& Int32.toUInt32 31)).toInt32)) * (739982445:Int32)) + b ^^^ ((((((k * (625341585:Int32)) + a) ^^^ ((((k * (625341585:Int32)) + a).toUInt32 >>> ((15:Int32).toUInt32 &&& Int32.toUInt32 31)).toInt32)) * (739982445:Int32)) + b).toUInt32 >>> ((13:Int32).toUInt32 &&& Int32.toUInt32 31)).toInt32) * (695872825:Int32)) + c ^^^ ((((((((k * (625341585:Int32)) + a) ^^^ ((((k * (625341585:Int32)) + a).toUInt32 >>> ((15:Int32).toUInt32 &&& Int32.toUInt32 31)).toInt32)) * (739982445:Int32)) + b ^^^ ((((((k * (625341585:Int32)) + a) ^^^ ((((k * (625341585:Int32)) + a).toUInt32 >>> ((15:Int32).toUInt32 &&& Int32.toUInt32 31)).toInt32)) * (739982445:Int32)) + b).toUInt32 >>> ((13:Int32).toUInt32 &&& Int32.toUInt32 31)).toInt32) * (695872825:Int32)) + c).toUInt32 >>> ((16:Int32).toUInt32 &&& Int32.toUInt32 31)).toInt32) 16383 (by omega)
  exact ⟨q, by omega, e⟩
/-- the bucket of a term -/
def rbk (ρ : rf_S) (t i : Nat) : Prop := (ρ.1 1 t ≠ nI 1 ∧ hQ (ρ.1 1 t) (ρ.1 2 t) (ρ.1 3 t) (ρ.1 4 t) = nI i) ∨ (ρ.1 1 t = nI 1 ∧ ∃ o l, o < 2147483648 ∧ l < 2147483648 ∧ ρ.1 2 t = nI o ∧ ρ.1 3 t = nI l ∧ hQ (nI 1) (rowH (fun j => ρ.1 12 (o + j)) l l) (nI l) 0 = nI i)
def kyQ (ρ : rf_S) (t : Nat) (k a b c : Int32) : Prop := ρ.1 1 t = k ∧ ρ.1 2 t = a ∧ ρ.1 3 t = b ∧ ρ.1 4 t = c
def rsh (E t k : Nat) (a b c : Int32) : Prop :=
  if k = 0 then b = 0 ∧ c = 0 else if k = 1 then ∃ o l, a = nI o ∧ b = nI l ∧ c = 0 ∧ o + l ≤ E ∧ l ≤ 2048 else if k = 2 then b = 0 ∧ c = 0 else (∃ x, a = nI x ∧ x < t) ∧ (if k = 4 ∨ k = 6 then b = 0 else ∃ x, b = nI x ∧ x < t) ∧ (if k = 8 then ∃ x, c = nI x ∧ x < t else c = 0)
def RSt0 (ρ : rf_S) (N : Nat) : Prop := (ρ.1 0 12 = nI N ∧ N ≤ 112000) ∧ (∃ E, ρ.1 0 18 = nI E ∧ E ≤ 690000 ∧ ∀ t, t < N → ∃ k, k < 10 ∧ ρ.1 1 t = nI k ∧ rsh E t k (ρ.1 2 t) (ρ.1 3 t) (ρ.1 4 t)) ∧ (∀ t u, t < N → u < N → ρ.1 1 t ≠ nI 1 → kyQ ρ u (ρ.1 1 t) (ρ.1 2 t) (ρ.1 3 t) (ρ.1 4 t) → t = u) ∧ (∀ i, i < 16384 → ∃ l, RL (ρ.1 5) (ρ.1 11 i) l ∧ (∀ t, t ∈ l ↔ t < N ∧ rbk ρ t i) ∧ l.Pairwise (fun a b => b < a))
theorem RSt0.n {ρ : rf_S} {N : Nat} (hS : RSt0 ρ N) : ρ.1 0 12 = nI N ∧ N ≤ 112000 := hS.1
theorem RSt0.e {ρ : rf_S} {N : Nat} (hS : RSt0 ρ N) : ∃ E, ρ.1 0 18 = nI E ∧ E ≤ 690000 ∧ ∀ t, t < N → ∃ k, k < 10 ∧ ρ.1 1 t = nI k ∧ rsh E t k (ρ.1 2 t) (ρ.1 3 t) (ρ.1 4 t) := hS.2.1
theorem RSt0.uq {ρ : rf_S} {N : Nat} (hS : RSt0 ρ N) : ∀ t u, t < N → u < N → ρ.1 1 t ≠ nI 1 → kyQ ρ u (ρ.1 1 t) (ρ.1 2 t) (ρ.1 3 t) (ρ.1 4 t) → t = u := hS.2.2.1
theorem RSt0.ch {ρ : rf_S} {N : Nat} (hS : RSt0 ρ N) : ∀ i, i < 16384 → ∃ l, RL (ρ.1 5) (ρ.1 11 i) l ∧ (∀ t, t ∈ l ↔ t < N ∧ rbk ρ t i) ∧ l.Pairwise (fun a b => b < a) := hS.2.2.2
def RSt (ρ : rf_S) (N : Nat) : Prop := RSt0 ρ N ∧ (∃ S, ρ.1 0 13 = nI S ∧ S ≤ N ∧ ∀ t, t < N → ρ.1 1 t = nI 2 → ∃ i, i < S ∧ ρ.1 2 t = nI i)
theorem RSt.toRSt0 {ρ : rf_S} {N : Nat} (hS : RSt ρ N) : RSt0 ρ N := hS.1
theorem RSt.n {ρ : rf_S} {N : Nat} (hS : RSt ρ N) : ρ.1 0 12 = nI N ∧ N ≤ 112000 := (hS.1).n
theorem RSt.e {ρ : rf_S} {N : Nat} (hS : RSt ρ N) : ∃ E, ρ.1 0 18 = nI E ∧ E ≤ 690000 ∧ ∀ t, t < N → ∃ k, k < 10 ∧ ρ.1 1 t = nI k ∧ rsh E t k (ρ.1 2 t) (ρ.1 3 t) (ρ.1 4 t) := (hS.1).e
theorem RSt.uq {ρ : rf_S} {N : Nat} (hS : RSt ρ N) : ∀ t u, t < N → u < N → ρ.1 1 t ≠ nI 1 → kyQ ρ u (ρ.1 1 t) (ρ.1 2 t) (ρ.1 3 t) (ρ.1 4 t) → t = u := (hS.1).uq
theorem RSt.ch {ρ : rf_S} {N : Nat} (hS : RSt ρ N) : ∀ i, i < 16384 → ∃ l, RL (ρ.1 5) (ρ.1 11 i) l ∧ (∀ t, t ∈ l ↔ t < N ∧ rbk ρ t i) ∧ l.Pairwise (fun a b => b < a) := (hS.1).ch
theorem RSt.sec {ρ : rf_S} {N : Nat} (hS : RSt ρ N) : ∃ S, ρ.1 0 13 = nI S ∧ S ≤ N ∧ ∀ t, t < N → ρ.1 1 t = nI 2 → ∃ i, i < S ∧ ρ.1 2 t = nI i := hS.2
theorem i32_0 : (0:Int32) = nI 0 := rfl
theorem n_nneg {a : Nat} (h : a < 2147483648) : ¬ nI a < 0 := by
  rw [i32_0, n_lt h (by omega)]; omega
theorem q_peek_lp (k a b c : Int32) (ρ : rf_S) : ∀ (l : List Nat) (r : Int32), RL (ρ.1 5) r l → (∀ t ∈ l, t < 112000) →
    (∃ t, t ∈ l ∧ kyQ ρ t k a b c ∧ lp (fun z : (Int32 × rf_S) => lq_peek_15 k a b c z.1 z.2) (r, ρ) = some (nI t, ρ)) ∨ ((∀ t ∈ l, ¬ kyQ ρ t k a b c) ∧ ∃ v, v < 0 ∧ lp (fun z : (Int32 × rf_S) => lq_peek_15 k a b c z.1 z.2) (r, ρ) = some (v, ρ)) := by
  intro l r h
  induction h using RL.ind with
  | @nil v h =>
    intro _
    refine Or.inr ⟨fun a ha => (List.not_mem_nil ha).elim, v, h, lp_end ?_⟩
    show lq_peek_15 k a b c v ρ = _
    unfold lq_peek_15
    rw [if_pos h]
  | @cons t l h ih =>
    intro hl
    have ht := hl t List.mem_cons_self
    have h1 : ¬ nI t < 0 := n_nneg (by omega)
    have c1 : (nI t).toNatClampNeg = t := n_cl (by omega)
    by_cases q : kyQ ρ t k a b c
    · refine Or.inl ⟨t, List.mem_cons_self, q, lp_end ?_⟩
      show lq_peek_15 k a b c (nI t) ρ = _
      unfold lq_peek_15
      obtain ⟨q1, q2, q3, q4⟩ := q
      simp only [if_neg h1, n_ix ht (show 112000 < 2147483648 by omega), c1, q1, q2, q3, q4, if_true]
    · have step : lq_peek_15 k a b c (nI t) ρ = some (.inl (ρ.1 5 t, ρ)) := by
        unfold lq_peek_15 bq_peek_65i15
        simp only [if_neg h1, n_ix ht (show 112000 < 2147483648 by omega), c1, vl_eq]
        unfold kyQ at q
        split
        · split
          · split
            · split
              · exact absurd ⟨by assumption, by assumption, by assumption, by assumption⟩ q
              · rfl
            · rfl
          · rfl
        · rfl
      rcases ih (fun t ht => hl t (List.mem_cons_of_mem _ ht)) with ⟨u, hu, hk, e⟩ | ⟨hn, v, hv, e⟩
      · exact Or.inl ⟨u, List.mem_cons_of_mem _ hu, hk, (lp_next (s := (nI t, ρ)) step).trans e⟩
      · refine Or.inr ⟨fun b hb => ?_, v, hv, (lp_next (s := (nI t, ρ)) step).trans e⟩
        rcases List.mem_cons.mp hb with rfl | hb
        · exact q
        · exact hn b hb
theorem q_peek {ρ : rf_S} {N : Nat} (Q : RSt0 ρ N) (k a b c : Int32) (hk : k ≠ nI 1) :
    (∃ t, t < N ∧ kyQ ρ t k a b c ∧ fq_peek k a b c ρ = some (nI t, ρ)) ∨ ((∀ t, t < N → ¬ kyQ ρ t k a b c) ∧ ∃ v, v < 0 ∧ fq_peek k a b c ρ = some (v, ρ)) := by
  obtain ⟨m, hm, em⟩ := hQ_lt k a b c
  obtain ⟨l, hl, ml, -⟩ := Q.ch m hm
  have hN := Q.n.2
  have e0 : fq_peek k a b c ρ = (lp (fun z : (Int32 × rf_S) => lq_peek_15 k a b c z.1 z.2) (ρ.1 11 m, ρ)).bind (fun z => some (z.1, z.2)) := by
    unfold fq_peek bq_peek_0
    rw [q_hash, bd2_eq, em, n_ix hm (by omega), vl_eq, n_cl (by omega)]
    rfl
  rw [e0]
  rcases q_peek_lp k a b c ρ l _ hl (fun t ht => by have := ((ml t).mp ht).1; omega) with ⟨t, ht, hk', e⟩ | ⟨hn, v, hv, e⟩
  · exact Or.inl ⟨t, ((ml t).mp ht).1, hk', by rw [e]; rfl⟩
  · refine Or.inr ⟨fun t ht hq => ?_, v, hv, by rw [e]; rfl⟩
    refine hn t ((ml t).mpr ⟨ht, Or.inl ⟨by rw [hq.1]; exact hk, ?_⟩⟩) hq
    rw [hq.1, hq.2.1, hq.2.2.1, hq.2.2.2, em]
/-- what the making of a term changes -/
def AddQ (ρ ρ' : rf_S) (N : Nat) (k a b c : Int32) (m : Nat) : Prop := (∀ d, d ≠ 0 → d ≠ 1 → d ≠ 2 → d ≠ 3 → d ≠ 4 → d ≠ 5 → d ≠ 6 → d ≠ 11 → ρ'.1 d = ρ.1 d) ∧ (ρ'.2 = ρ.2) ∧ (∀ j, j ≠ 12 → ρ'.1 0 j = ρ.1 0 j) ∧ (ρ'.1 0 12 = nI (N + 1)) ∧ (∀ d t, (d = 1 ∨ d = 2 ∨ d = 3 ∨ d = 4 ∨ d = 5 ∨ d = 6) → t ≠ N → ρ'.1 d t = ρ.1 d t) ∧ (∀ i, i ≠ m → ρ'.1 11 i = ρ.1 11 i) ∧ (ρ'.1 11 m = nI N) ∧ (ρ'.1 1 N = k) ∧ (ρ'.1 2 N = a) ∧ (ρ'.1 3 N = b) ∧ (ρ'.1 4 N = c) ∧ (ρ'.1 5 N = ρ.1 11 m) ∧ (ρ'.1 6 N = 0)
theorem AddQ.o {ρ ρ' : rf_S} {N : Nat} {k a b c : Int32} {m : Nat} (hS : AddQ ρ ρ' N k a b c m) : ∀ d, d ≠ 0 → d ≠ 1 → d ≠ 2 → d ≠ 3 → d ≠ 4 → d ≠ 5 → d ≠ 6 → d ≠ 11 → ρ'.1 d = ρ.1 d := hS.1
theorem AddQ.l {ρ ρ' : rf_S} {N : Nat} {k a b c : Int32} {m : Nat} (hS : AddQ ρ ρ' N k a b c m) : ρ'.2 = ρ.2 := hS.2.1
theorem AddQ.f {ρ ρ' : rf_S} {N : Nat} {k a b c : Int32} {m : Nat} (hS : AddQ ρ ρ' N k a b c m) : ∀ j, j ≠ 12 → ρ'.1 0 j = ρ.1 0 j := hS.2.2.1
theorem AddQ.n {ρ ρ' : rf_S} {N : Nat} {k a b c : Int32} {m : Nat} (hS : AddQ ρ ρ' N k a b c m) : ρ'.1 0 12 = nI (N + 1) := hS.2.2.2.1
theorem AddQ.p {ρ ρ' : rf_S} {N : Nat} {k a b c : Int32} {m : Nat} (hS : AddQ ρ ρ' N k a b c m) : ∀ d t, (d = 1 ∨ d = 2 ∨ d = 3 ∨ d = 4 ∨ d = 5 ∨ d = 6) → t ≠ N → ρ'.1 d t = ρ.1 d t := hS.2.2.2.2.1
theorem AddQ.h {ρ ρ' : rf_S} {N : Nat} {k a b c : Int32} {m : Nat} (hS : AddQ ρ ρ' N k a b c m) : ∀ i, i ≠ m → ρ'.1 11 i = ρ.1 11 i := hS.2.2.2.2.2.1
theorem AddQ.hm {ρ ρ' : rf_S} {N : Nat} {k a b c : Int32} {m : Nat} (hS : AddQ ρ ρ' N k a b c m) : ρ'.1 11 m = nI N := hS.2.2.2.2.2.2.1
theorem AddQ.p1 {ρ ρ' : rf_S} {N : Nat} {k a b c : Int32} {m : Nat} (hS : AddQ ρ ρ' N k a b c m) : ρ'.1 1 N = k := hS.2.2.2.2.2.2.2.1
theorem AddQ.p2 {ρ ρ' : rf_S} {N : Nat} {k a b c : Int32} {m : Nat} (hS : AddQ ρ ρ' N k a b c m) : ρ'.1 2 N = a := hS.2.2.2.2.2.2.2.2.1
theorem AddQ.p3 {ρ ρ' : rf_S} {N : Nat} {k a b c : Int32} {m : Nat} (hS : AddQ ρ ρ' N k a b c m) : ρ'.1 3 N = b := hS.2.2.2.2.2.2.2.2.2.1
theorem AddQ.p4 {ρ ρ' : rf_S} {N : Nat} {k a b c : Int32} {m : Nat} (hS : AddQ ρ ρ' N k a b c m) : ρ'.1 4 N = c := hS.2.2.2.2.2.2.2.2.2.2.1
theorem AddQ.p5 {ρ ρ' : rf_S} {N : Nat} {k a b c : Int32} {m : Nat} (hS : AddQ ρ ρ' N k a b c m) : ρ'.1 5 N = ρ.1 11 m := hS.2.2.2.2.2.2.2.2.2.2.2.1
theorem AddQ.p6 {ρ ρ' : rf_S} {N : Nat} {k a b c : Int32} {m : Nat} (hS : AddQ ρ ρ' N k a b c m) : ρ'.1 6 N = 0 := hS.2.2.2.2.2.2.2.2.2.2.2.2
theorem i8_k {k : Nat} (h : k < 10) : ((nI k).toInt8.toInt32).toInt8.toInt32 = nI k := by
  have : ∀ k, k < 10 → ((nI k).toInt8.toInt32).toInt8.toInt32 = nI k := by decide
  exact this k h
theorem nar_0 : vp_nar .boolean (0:Int32) = 0 := by decide
theorem nar_1 : vp_nar .boolean (1:Int32) = 1 := by decide
theorem q_add {ρ : rf_S} {N : Nat} (hN : ρ.1 0 12 = nI N) (hN' : N < 112000) {k : Nat} (hk : k < 10) (a b c : Int32) {m : Nat} (hm : m < 16384) : ∃ ρ', fq_add (nI k) a b c (nI m) ρ = some (nI N, ρ') ∧ AddQ ρ ρ' N (nI k) a b c m := by
  have c1 : (nI N).toNatClampNeg = N := n_cl (by omega)
  have c2 : (nI m).toNatClampNeg = m := n_cl (by omega)
  unfold fq_add bq_add_0
  simp only [vl_eq, hN, n_ix hN' (show 112000 < 2147483648 by omega), n_ix hm (show 16384 < 2147483648 by omega), c1, c2, i8_k hk, nar_0]
  refine ⟨_, rfl, ?_⟩
  refine ⟨?_, ?_, ?_, ?_, ?_, ?_, ?_, ?_, ?_, ?_, ?_, ?_, ?_⟩
  · intro d h0 h1 h2 h3 h4 h5 h6 h11; funext j; simp only [g_q, h0, h1, h2, h3, h4, h5, h6, h11, false_and, if_false]
  · rfl
  · intro j h; simp only [g_q, h, and_false, false_and, if_false, Nat.reduceEqDiff, reduceCtorEq]
  · simp only [g_q, true_and, if_true, false_and, if_false, Nat.reduceEqDiff, hN]; exact n_add N 1
  · intro d t hd ht
    rcases hd with rfl | rfl | rfl | rfl | rfl | rfl <;> simp only [g_q, ht, and_false, false_and, if_false, Nat.reduceEqDiff]
  · intro i h; simp only [g_q, h, and_false, false_and, if_false, Nat.reduceEqDiff]
  · simp only [g_q, true_and, false_and, if_true, if_false, Nat.reduceEqDiff]
  · simp only [g_q, true_and, false_and, if_true, if_false, Nat.reduceEqDiff]
  · simp only [g_q, true_and, false_and, if_true, if_false, Nat.reduceEqDiff]
  · simp only [g_q, true_and, false_and, if_true, if_false, Nat.reduceEqDiff]
  · simp only [g_q, true_and, false_and, if_true, if_false, Nat.reduceEqDiff]
  · simp only [g_q, true_and, false_and, if_true, if_false, Nat.reduceEqDiff]
  · simp only [g_q, true_and, false_and, if_true, if_false, Nat.reduceEqDiff]
theorem q_add_st {ρ ρ' : rf_S} {N : Nat} (Q : RSt0 ρ N) (hN : N < 112000) {k : Nat} {a b c : Int32} {m : Nat} (hk : k < 10) (hs : ∀ E, ρ.1 0 18 = nI E → E ≤ 690000 → rsh E N k a b c) (hm : m < 16384)
    (em : (k ≠ 1 ∧ hQ (nI k) a b c = nI m) ∨ (k = 1 ∧ ∃ o l, o < 2147483648 ∧ l < 2147483648 ∧ a = nI o ∧ b = nI l ∧ hQ (nI 1) (rowH (fun j => ρ.1 12 (o + j)) l l) (nI l) 0 = nI m)) (hn : k ≠ 1 → ∀ t, t < N → ¬ kyQ ρ t (nI k) a b c) (A : AddQ ρ ρ' N (nI k) a b c m) : RSt0 ρ' (N + 1) := by
  have po : ∀ d t, (d = 1 ∨ d = 2 ∨ d = 3 ∨ d = 4 ∨ d = 5 ∨ d = 6) → t < N → ρ'.1 d t = ρ.1 d t := fun d t hd ht => A.p d t hd (by omega)
  have f1 : ∀ t, t < N → ρ'.1 1 t = ρ.1 1 t := fun t ht => po 1 t (by omega) ht
  have f2 : ∀ t, t < N → ρ'.1 2 t = ρ.1 2 t := fun t ht => po 2 t (by omega) ht
  have f3 : ∀ t, t < N → ρ'.1 3 t = ρ.1 3 t := fun t ht => po 3 t (by omega) ht
  have f4 : ∀ t, t < N → ρ'.1 4 t = ρ.1 4 t := fun t ht => po 4 t (by omega) ht
  have f5 : ∀ t, t < N → ρ'.1 5 t = ρ.1 5 t := fun t ht => po 5 t (by omega) ht
  have f12 : ρ'.1 12 = ρ.1 12 := A.o 12 (by decide) (by decide) (by decide) (by decide) (by decide) (by decide) (by decide) (by decide)
  have ro : ∀ t, t < N → ∀ i, (rbk ρ' t i ↔ rbk ρ t i) := by
    intro t ht i
    unfold rbk
    rw [f1 t ht, f2 t ht, f3 t ht, f4 t ht, f12]
  have k1 : nI k = nI 1 ↔ k = 1 := n_eq (by omega) (by omega)
  have rn : ∀ i, i < 16384 → (rbk ρ' N i ↔ i = m) := by
    intro i hi
    unfold rbk
    rw [A.p1, A.p2, A.p3, A.p4, f12]
    refine ⟨?_, ?_⟩
    · rintro (⟨h1, h2⟩ | ⟨h1, o, l, ho, hl, e1, e2, h2⟩)
      · rcases em with ⟨-, e⟩ | ⟨q, -⟩
        · rw [e] at h2; exact ((n_eq (by omega) (by omega)).mp h2).symm
        · exact absurd (k1.mpr q) h1
      · rcases em with ⟨q, -⟩ | ⟨-, o', l', ho', hl', e1', e2', e⟩
        · exact absurd (k1.mp h1) q
        · rw [e1] at e1'; rw [e2] at e2'
          have q1 := (n_eq ho ho').mp e1'
          have q2 := (n_eq hl hl').mp e2'
          subst q1; subst q2
          rw [e] at h2; exact ((n_eq (by omega) (by omega)).mp h2).symm
    · rintro rfl
      rcases em with ⟨q, e⟩ | ⟨q, o, l, ho, hl, e1, e2, e⟩
      · exact Or.inl ⟨fun h => q (k1.mp h), e⟩
      · exact Or.inr ⟨k1.mpr q, o, l, ho, hl, e1, e2, e⟩
  refine ⟨?_, ?_, ?_, ?_⟩
  · exact ⟨A.n, by omega⟩
  · obtain ⟨E, e1, e2, e3⟩ := Q.e
    refine ⟨E, by rw [A.f 18 (by decide)]; exact e1, e2, ?_⟩
    intro t ht
    by_cases q : t = N
    · subst q
      refine ⟨k, hk, A.p1, ?_⟩
      rw [A.p2, A.p3, A.p4]
      exact hs E e1 e2
    · have ht' : t < N := by omega
      rw [f1 t ht', f2 t ht', f3 t ht', f4 t ht']
      exact e3 t ht'
  · intro t u ht hu h1 hq
    obtain ⟨q1, q2, q3, q4⟩ := hq
    by_cases c1 : t = N
    · by_cases c2 : u = N
      · omega
      · exfalso
        have hu' : u < N := by omega
        subst c1
        rw [A.p1] at h1
        rw [f1 u hu', A.p1] at q1
        rw [f2 u hu', A.p2] at q2
        rw [f3 u hu', A.p3] at q3
        rw [f4 u hu', A.p4] at q4
        exact hn (fun h => h1 (k1.mpr h)) u hu' ⟨q1, q2, q3, q4⟩
    · have ht' : t < N := by omega
      by_cases c2 : u = N
      · exfalso
        subst c2
        rw [f1 t ht'] at h1
        rw [f1 t ht', A.p1] at q1
        rw [f2 t ht', A.p2] at q2
        rw [f3 t ht', A.p3] at q3
        rw [f4 t ht', A.p4] at q4
        refine hn (fun h => h1 ?_) t ht' ⟨q1.symm, q2.symm, q3.symm, q4.symm⟩
        rw [← q1]; exact k1.mpr h
      · have hu' : u < N := by omega
        rw [f1 t ht'] at h1
        rw [f1 t ht', f1 u hu'] at q1
        rw [f2 t ht', f2 u hu'] at q2
        rw [f3 t ht', f3 u hu'] at q3
        rw [f4 t ht', f4 u hu'] at q4
        exact Q.uq t u ht' hu' h1 ⟨q1, q2, q3, q4⟩
  · intro i hi
    obtain ⟨l, hl, ml, pl⟩ := Q.ch i hi
    have hl' : ∀ t ∈ l, t < N := fun t ht => ((ml t).mp ht).1
    have cg : ∀ r, RL (ρ.1 5) r l → RL (ρ'.1 5) r l := fun r h => h.congr (fun t ht => f5 t (hl' t ht))
    by_cases q : i = m
    · subst q
      refine ⟨N :: l, ?_, ?_, ?_⟩
      · rw [A.hm]
        refine .cons ?_
        rw [A.p5]
        exact cg _ hl
      · intro t
        rw [List.mem_cons]
        refine ⟨?_, ?_⟩
        · rintro (rfl | ht)
          · exact ⟨by omega, (rn i hi).mpr rfl⟩
          · have := hl' t ht
            exact ⟨by omega, (ro t this i).mpr ((ml t).mp ht).2⟩
        · rintro ⟨ht, hr⟩
          by_cases c : t = N
          · exact Or.inl c
          · have ht' : t < N := by omega
            exact Or.inr ((ml t).mpr ⟨ht', (ro t ht' i).mp hr⟩)
      · exact List.pairwise_cons.mpr ⟨fun t ht => hl' t ht, pl⟩
    · refine ⟨l, ?_, ?_, pl⟩
      · rw [A.h i q]
        exact cg _ hl
      · intro t
        refine ⟨?_, ?_⟩
        · intro ht
          have := hl' t ht
          exact ⟨by omega, (ro t this i).mpr ((ml t).mp ht).2⟩
        · rintro ⟨ht, hr⟩
          by_cases c : t = N
          · subst c
            exact absurd ((rn i hi).mp hr) q
          · have ht' : t < N := by omega
            exact (ml t).mpr ⟨ht', (ro t ht' i).mp hr⟩
end Z2_Q
