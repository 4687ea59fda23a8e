section Z2_Z2
variable {σ σ' σ0 : cl_S} {ρ ρ' ρ0 : rf_S} {x : Nat → Nat} {n : Nat}
theorem pv_s {m : Nat} {r : Bool} {p : Nat} (hp : p < n) (h10 : ¬ x p = 10) : pv x n (m + 1) r p = if (r || x p == 59) = true then pv x n m true (p + 1) else if blk (x p) = true then pv x n m false (p + 1) else p := by
  show (if n ≤ p then p else if x p = 10 then p else if (r || x p == 59) = true then pv x n m true (p + 1) else if blk (x p) = true then pv x n m false (p + 1) else p) = _
  rw [if_neg (show ¬ n ≤ p by omega), if_neg h10]
theorem pv_end : ∀ m p, n - p = m → p ≤ n → (pv x n m true p = n ∨ x (pv x n m true p) = 10) := by
  intro m
  induction m with
  | zero => intro p hm hp; exact Or.inl (by show p = n; omega)
  | succ m ih =>
    intro p hm hp
    unfold pv
    rw [if_neg (show ¬ n ≤ p by omega)]
    by_cases c : x p = 10
    · rw [if_pos c]; exact Or.inr c
    · rw [if_neg c, if_pos (by simp)]; exact ih (p + 1) (by omega) (by omega)
theorem oc_or (p : Nat) (c : Nat) (hx : x p < 256) (hc : c < 256) : (oc x n p = nI c) ↔ (p < n ∧ x p = c) := by
  unfold oc
  by_cases h : p < n
  · rw [if_pos h, oc_eq hx hc]; exact ⟨fun q => ⟨h, q⟩, fun q => q.2⟩
  · rw [if_neg h]
    refine ⟨?_, ?_⟩
    · intro q; exact absurd q.symm (n_m1 (by omega))
    · intro q; exact absurd q.1 h
theorem oc_neg (p : Nat) (hx : x p < 256) : (oc x n p < (0:Int32)) ↔ n ≤ p := by
  unfold oc
  by_cases h : p < n
  · rw [if_pos h]
    refine ⟨?_, ?_⟩
    · intro q; exact absurd q (n_nneg (by omega))
    · intro q; omega
  · rw [if_neg h]
    exact ⟨fun _ => by omega, fun _ => by decide⟩
/-- the reference passes a remark -/
theorem q_pass_in {x1 : Int32} (T : TxQ ρ x n) : ∀ m p, n - p = m → p ≤ n → lp (fun z : rf_S => lq_pass_52i2 x1 z) (rf_w ρ 0 48 (nI p)) = some (rf_w ρ 0 48 (nI (pv x n m true p))) := by
  have hn := T.le
  intro m
  induction m with
  | zero =>
    intro p hm hp
    refine lp_end ?_
    show lq_pass_52i2 x1 (rf_w ρ 0 48 (nI p)) = _
    unfold lq_pass_52i2
    rw [q_ws, T.mv.oct (by omega), bd2_eq, if_pos ((oc_neg p (T.b p)).mpr (by omega))]
    rfl
  | succ m ih =>
    intro p hm hp
    have nn : ¬ oc x n p < (0:Int32) := fun q => by have := (oc_neg p (T.b p)).mp q; omega
    unfold pv
    rw [if_neg (show ¬ n ≤ p by omega)]
    by_cases c : x p = 10
    · rw [if_pos c]
      refine lp_end ?_
      show lq_pass_52i2 x1 (rf_w ρ 0 48 (nI p)) = _
      unfold lq_pass_52i2
      rw [q_ws, T.mv.oct (by omega), bd2_eq, if_neg nn, q_ws, T.mv.oct (by omega), bd2_eq, if_pos (show oc x n p = (10:Int32) from (oc_or p 10 (T.b p) (by omega)).mpr ⟨by omega, c⟩)]
    · rw [if_neg c, if_pos (by simp)]
      have st : lq_pass_52i2 x1 (rf_w ρ 0 48 (nI p)) = some (.inl (rf_w ρ 0 48 (nI (p + 1)))) := by
        unfold lq_pass_52i2
        rw [q_ws, T.mv.oct (by omega), bd2_eq, if_neg nn, q_ws, T.mv.oct (by omega), bd2_eq, if_neg (show ¬ oc x n p = (10:Int32) from fun q => c ((oc_or p 10 (T.b p) (by omega)).mp q).2), vl_eq, q_ws, w_q, show nI p + (1:Int32) = nI (p + 1) from n_add p 1]
      rw [lp_next st]
      exact ih (p + 1) (by omega) (by omega)
theorem q_pass_stop {p : Nat} (T : TxQ ρ x n) (hp : p ≤ n) (h : p = n ∨ (x p ≠ 59 ∧ ¬ blk (x p) = true)) : lp (fun z : (Int32 × rf_S) => lq_pass_2 z.1 z.2) ((1:Int32), rf_w ρ 0 48 (nI p)) = some ((0:Int32), rf_w ρ 0 48 (nI p)) := by
  have hn := T.le
  have hb : blk (x p) = true ↔ (x p = 32 ∨ x p = 9 ∨ x p = 13) := by unfold blk; simp [or_assoc]
  have e : ∀ c, c < 256 → (c = 32 ∨ c = 9 ∨ c = 13 ∨ c = 59) → ¬ oc x n p = nI c := by
    intro c hc h' q
    obtain ⟨q1, q2⟩ := (oc_or p c (T.b p) hc).mp q
    rcases h with h | ⟨h1, h2⟩
    · omega
    · rcases h' with rfl | rfl | rfl | rfl
      · exact h2 (hb.mpr (Or.inl q2))
      · exact h2 (hb.mpr (Or.inr (Or.inl q2)))
      · exact h2 (hb.mpr (Or.inr (Or.inr q2)))
      · exact h1 q2
  have st : lq_pass_2 (1:Int32) (rf_w ρ 0 48 (nI p)) = some (.inl ((0:Int32), rf_w ρ 0 48 (nI p))) := by
    unfold lq_pass_2 bq_pass_91i2
    rw [if_neg (by decide), q_ws, T.mv.oct (by omega), bd2_eq, if_neg (show ¬ oc x n p = (32:Int32) from e 32 (by omega) (by omega)), if_neg (show ¬ oc x n p = (9:Int32) from e 9 (by omega) (by omega)), if_neg (show ¬ oc x n p = (13:Int32) from e 13 (by omega) (by omega)), if_neg (show ¬ oc x n p = (59:Int32) from e 59 (by omega) (by omega))]
  rw [lp_next (s := ((1:Int32), rf_w ρ 0 48 (nI p))) st]
  refine lp_end (s := ((0:Int32), rf_w ρ 0 48 (nI p))) ?_
  show lq_pass_2 (0:Int32) (rf_w ρ 0 48 (nI p)) = _
  unfold lq_pass_2
  rw [if_pos rfl]
theorem q_pass_lp (T : TxQ ρ x n) : ∀ m p, n - p = m → p ≤ n → lp (fun z : (Int32 × rf_S) => lq_pass_2 z.1 z.2) ((1:Int32), rf_w ρ 0 48 (nI p)) = some ((0:Int32), rf_w ρ 0 48 (nI (pv x n m false p))) := by
  have hn := T.le
  intro m
  induction m with
  | zero => intro p hm hp; exact q_pass_stop T hp (Or.inl (by omega))
  | succ m ih =>
    intro p hm hp
    have hb : blk (x p) = true ↔ (x p = 32 ∨ x p = 9 ∨ x p = 13) := by unfold blk; simp [or_assoc]
    by_cases c59 : x p = 59
    · have e1 : pv x n (m + 1) false p = pv x n (m + 1) true p := by
        rw [pv_s (by omega) (by omega), pv_s (by omega) (by omega), if_pos (show (false || x p == 59) = true by simp [c59]), if_pos (show (true || x p == 59) = true by simp)]
      rw [e1]
      have st : lq_pass_2 (1:Int32) (rf_w ρ 0 48 (nI p)) = some (.inl ((1:Int32), rf_w ρ 0 48 (nI (pv x n (m + 1) true p)))) := by
        have nc : ∀ c, c < 256 → c ≠ 59 → ¬ oc x n p = nI c := fun c hc h q => h (by have := ((oc_or p c (T.b p) hc).mp q).2; omega)
        unfold lq_pass_2 bq_pass_52i2
        rw [if_neg (by decide), q_ws, T.mv.oct (by omega), bd2_eq, if_neg (show ¬ oc x n p = (32:Int32) from nc 32 (by omega) (by omega)), if_neg (show ¬ oc x n p = (9:Int32) from nc 9 (by omega) (by omega)), if_neg (show ¬ oc x n p = (13:Int32) from nc 13 (by omega) (by omega)), if_pos (show oc x n p = (59:Int32) from (oc_or p 59 (T.b p) (by omega)).mpr ⟨by omega, c59⟩), q_pass_in T (m + 1) p hm hp, Option.bind_some]
        rfl
      rw [lp_next (s := ((1:Int32), rf_w ρ 0 48 (nI p))) st]
      have le := pv_le (x := x) (n := n) (m + 1) true p hp
      refine q_pass_stop T le ?_
      rcases pv_end (x := x) (m + 1) p hm hp with q | q
      · exact Or.inl q
      · exact Or.inr ⟨by omega, by rw [q]; decide⟩
    by_cases cb : blk (x p) = true
    · have e1 : pv x n (m + 1) false p = pv x n m false (p + 1) := by
        have n10 : ¬ x p = 10 := by have := hb.mp cb; omega
        show (if n ≤ p then p else if x p = 10 then p else if (false || x p == 59) = true then pv x n m true (p + 1) else if blk (x p) = true then pv x n m false (p + 1) else p) = _
        rw [if_neg (show ¬ n ≤ p by omega), if_neg n10, if_neg (by simp [c59]), if_pos cb]
      rw [e1]
      have st : lq_pass_2 (1:Int32) (rf_w ρ 0 48 (nI p)) = some (.inl ((1:Int32), rf_w ρ 0 48 (nI (p + 1)))) := by
        have b33 : bq_pass_33i2 (1:Int32) (rf_w ρ 0 48 (nI p)) = some (.inl ((1:Int32), rf_w ρ 0 48 (nI (p + 1)))) := by
          unfold bq_pass_33i2 bq_pass_91i2
          rw [vl_eq, q_ws, w_q, show nI p + (1:Int32) = nI (p + 1) from n_add p 1]
        unfold lq_pass_2
        rw [if_neg (by decide), q_ws, T.mv.oct (by omega), bd2_eq, b33]
        have pc : ∀ c, c < 256 → x p = c → oc x n p = nI c := fun c hc h => (oc_or p c (T.b p) hc).mpr ⟨by omega, h⟩
        by_cases d1 : oc x n p = (32:Int32)
        · rw [if_pos d1]
        rw [if_neg d1]
        by_cases d2 : oc x n p = (9:Int32)
        · rw [if_pos d2]
        rw [if_neg d2]
        rcases hb.mp cb with q | q | q
        · exact absurd (pc 32 (by omega) q) d1
        · exact absurd (pc 9 (by omega) q) d2
        · rw [if_pos (show oc x n p = (13:Int32) from pc 13 (by omega) q)]
      rw [lp_next (s := ((1:Int32), rf_w ρ 0 48 (nI p))) st]
      exact ih (p + 1) (by omega) (by omega)
    · have e1 : pv x n (m + 1) false p = p := by
        show (if n ≤ p then p else if x p = 10 then p else if (false || x p == 59) = true then pv x n m true (p + 1) else if blk (x p) = true then pv x n m false (p + 1) else p) = _
        rw [if_neg (show ¬ n ≤ p by omega), if_neg (show ¬ (false || x p == 59) = true by simp [c59]), if_neg cb]
        split <;> rfl
      rw [e1]
      exact q_pass_stop T hp (Or.inr ⟨c59, cb⟩)
theorem q_passOver {p : Nat} (T : TxQ ρ x n) (hp : p ≤ n) : fq_pass (rf_w ρ 0 48 (nI p)) = some (rf_w ρ 0 48 (nI (pv x n (n - p) false p))) := by
  unfold fq_pass bq_pass_0 bq_pass_2
  rw [q_pass_lp T (n - p) p rfl hp, Option.bind_some]
  rfl
/-! longs -/
theorem L_sh {s : Nat} (hs : s < 64) (a c : Nat) (hc : c < 2 ^ s) : ((Int64.ofNat a) <<< (Int64.ofNat s)) ||| (Int64.ofNat c) = Int64.ofNat (a * 2 ^ s + c) := by
  apply Int64.toBitVec_inj.mp
  rw [Int64.toBitVec_or, Int64.toBitVec_shiftLeft, Int64.toBitVec_ofNat', Int64.toBitVec_ofNat', Int64.toBitVec_ofNat', Int64.toBitVec_ofNat']
  have e1 : ((BitVec.ofNat 64 s).smod 64) = BitVec.ofNat 64 s := by
    have : ∀ s, s < 64 → (BitVec.ofNat 64 s).smod 64 = BitVec.ofNat 64 s := by decide
    exact this s hs
  rw [e1]
  have e2 : (BitVec.ofNat 64 a) <<< (BitVec.ofNat 64 s) = BitVec.ofNat 64 (a * 2 ^ s) := by
    apply BitVec.eq_of_toNat_eq
    rw [BitVec.shiftLeft_eq', BitVec.toNat_shiftLeft, BitVec.toNat_ofNat, BitVec.toNat_ofNat, BitVec.toNat_ofNat, Nat.mod_eq_of_lt (show s < 2 ^ 64 by omega), Nat.shiftLeft_eq, Nat.mod_mul_mod]
  rw [e2]
  apply BitVec.eq_of_toNat_eq
  rw [BitVec.toNat_or, BitVec.toNat_ofNat, BitVec.toNat_ofNat, BitVec.toNat_ofNat]
  have p64 : 2 ^ 64 = 2 ^ (64 - s) * 2 ^ s := by rw [← Nat.pow_add]; congr 1; omega
  have hc64 : c < 2 ^ 64 := Nat.lt_of_lt_of_le hc (Nat.pow_le_pow_right (by omega) (by omega))
  have e3 : a * 2 ^ s % 2 ^ 64 = (a % 2 ^ (64 - s)) <<< s := by rw [p64, Nat.mul_mod_mul_right, Nat.shiftLeft_eq]
  rw [Nat.mod_eq_of_lt hc64, e3, ← Nat.shiftLeft_add_eq_or_of_lt hc, Nat.shiftLeft_eq]
  have e4 : (a * 2 ^ s + c) % 2 ^ 64 = (a % 2 ^ (64 - s)) * 2 ^ s + c := by
    rw [Nat.add_mod, show a * 2 ^ s % 2 ^ 64 = (a % 2 ^ (64 - s)) * 2 ^ s by rw [e3, Nat.shiftLeft_eq], Nat.mod_eq_of_lt hc64]
    apply Nat.mod_eq_of_lt
    have : a % 2 ^ (64 - s) < 2 ^ (64 - s) := Nat.mod_lt _ (Nat.pow_pos (by omega))
    have : (a % 2 ^ (64 - s) + 1) * 2 ^ s ≤ 2 ^ (64 - s) * 2 ^ s := Nat.mul_le_mul_right _ this
    rw [p64, Nat.add_mul] at *
    omega
  rw [e4]
end Z2_Z2
