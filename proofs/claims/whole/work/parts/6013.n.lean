section Z2_N
/-! LAYER 2: more numbers -/
theorem n_div {a b : Nat} (h : a < 2147483648) (hb : b < 2147483648) : nI a / nI b = nI (a / b) := by
  have h1 : a / b ≤ a := Nat.div_le_self a b
  rw [← Int32.toInt_inj, Int32.toInt_div, n_toInt h, n_toInt hb, n_toInt (by omega)]
  have e : ((a : Int).tdiv (b : Int)) = ((a / b : Nat) : Int) := by
    rw [Int.tdiv_eq_ediv_of_nonneg (by omega)]
    exact (Int.natCast_ediv a b).symm
  rw [e]
  generalize a / b = q at h1 ⊢
  exact Int.bmod_eq_of_le (by omega) (by omega)
theorem n_shr2 {a : Nat} (h : a < 2147483648) : nI a >>> ((2:Int32) &&& 31) = nI (a / 4) := by
  have e : ((2:Int32) &&& 31) = 2 := by decide
  rw [e]
  apply Int32.toBitVec_inj.mp
  rw [Int32.toBitVec_shiftRight]
  have e2 : ((2:Int32).toBitVec.smod 32) = 2#32 := by decide
  rw [e2]
  apply BitVec.eq_of_toInt_eq
  unfold BitVec.sshiftRight'
  rw [BitVec.toInt_sshiftRight]
  show (nI a).toInt >>> 2 = (nI (a / 4)).toInt
  rw [n_toInt h, n_toInt (by omega)]
  show ((a : Int) >>> 2) = _
  rw [Int.shiftRight_eq_div_pow]
  norm_cast
theorem n_and3 {q : Nat} (hq : q < 2147483648) : nI q &&& (3:Int32) = nI (q % 4) := n_and (k := 2) hq (by omega)
theorem n_rem4 {q : Nat} (hq : q < 2147483648) : nI q - nI q / (4:Int32) * (4:Int32) = nI (q % 4) := by
  rw [show (4:Int32) = nI 4 from rfl, n_div hq (by omega), n_mul, n_sub (by omega)]
  congr 1
  omega
theorem n_usr (x : Int32) (k : Nat) (hk : 0 < k) (hk' : k < 32) : ∃ q, q < 2 ^ (32 - k) ∧ (x.toUInt32 >>> ((nI k).toUInt32 &&& Int32.toUInt32 31)).toInt32 = nI q := by
  refine ⟨(x.toUInt32 >>> ((nI k).toUInt32 &&& Int32.toUInt32 31)).toNat, ?_, u_nI _⟩
  rw [UInt32.toNat_shiftRight, Nat.shiftRight_eq_div_pow]
  have e : (((nI k).toUInt32 &&& Int32.toUInt32 31).toNat % 32) = k := by
    have : ∀ k, k < 32 → (((nI k).toUInt32 &&& Int32.toUInt32 31).toNat % 32) = k := by decide
    exact this k hk'
  rw [e]
  have h1 := x.toUInt32.toNat_lt
  rw [Nat.div_lt_iff_lt_mul (Nat.two_pow_pos k), ← Nat.pow_add, show 32 - k + k = 32 by omega]
  exact h1
theorem n_and15 (x : Int32) : ∃ q, q < 16 ∧ x &&& (15:Int32) = nI q := by
  obtain ⟨q, hq, e⟩ := and_lt x 15 (by omega)
  exact ⟨q, by omega, e⟩
end Z2_N
