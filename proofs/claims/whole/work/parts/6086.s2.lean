section Z2_S2
variable {σ σ' σ0 : cl_S} {ρ ρ' ρ0 : rf_S} {l : List Nat}
theorem L_toInt {a : Nat} (h : a < 9223372036854775808) : (Int64.ofNat a).toInt = (a : Int) := Int64.toInt_ofNat_of_lt h
theorem L_div {a b : Nat} (h : a < 9223372036854775808) (hb : b < 9223372036854775808) : Int64.ofNat a / Int64.ofNat b = Int64.ofNat (a / b) := by
  have h1 : a / b ≤ a := Nat.div_le_self a b
  rw [← Int64.toInt_inj, Int64.toInt_div, L_toInt h, L_toInt hb, L_toInt (by omega)]
  have e : ((a : Int).tdiv (b : Int)) = ((a / b : Nat) : Int) := by
    rw [Int.tdiv_eq_ediv_of_nonneg (by omega)]
    exact (Int.natCast_ediv a b).symm
  rw [e]
  generalize a / b = q at h1 ⊢
  exact Int.bmod_eq_of_le (by omega) (by omega)
theorem L_mul (a b : Nat) : Int64.ofNat a * Int64.ofNat b = Int64.ofNat (a * b) := (Int64.ofNat_mul a b).symm
theorem L_add (a b : Nat) : Int64.ofNat a + Int64.ofNat b = Int64.ofNat (a + b) := (Int64.ofNat_add a b).symm
theorem L_sub {a b : Nat} (h : b ≤ a) : Int64.ofNat a - Int64.ofNat b = Int64.ofNat (a - b) := by
  have : Int64.ofNat (a - b) + Int64.ofNat b = Int64.ofNat a := by rw [L_add, Nat.sub_add_cancel h]
  rw [← this, Int64.add_sub_cancel]
theorem L_i32 {a : Nat} (h : a < 2147483648) : (Int64.ofNat a).toInt32 = nI a := by
  rw [← Int32.toInt_inj, Int64.toInt_toInt32, L_toInt (by omega), n_toInt h]
  exact Int.bmod_eq_of_le (by omega) (by omega)
/-- a digit -/
theorem L_dig {z p : Nat} (hz : z < 9223372036854775808) (hp : p < 9223372036854775808) : ((48:Int64) + ((Int64.ofNat z / Int64.ofNat p) - (Int64.ofNat z / Int64.ofNat p) / (10:Int64) * (10:Int64))).toInt32 = nI (48 + z / p % 10) := by
  have h1 : z / p ≤ z := Nat.div_le_self z p
  rw [L_div hz hp, show (10:Int64) = Int64.ofNat 10 from rfl, L_div (by omega) (by omega), L_mul, L_sub (Nat.div_mul_le_self _ _), show (48:Int64) = Int64.ofNat 48 from rfl, L_add]
  have : z / p - z / p / 10 * 10 = z / p % 10 := by
    have := Nat.div_add_mod (z / p) 10
    rw [Nat.mul_comm] at this
    omega
  rw [this, L_i32 (by omega)]
end Z2_S2
