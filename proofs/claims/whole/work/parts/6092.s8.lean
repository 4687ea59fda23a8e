section Z2_S8
variable {σ σ' σ0 : cl_S} {ρ ρ' ρ0 : rf_S} {l : List Nat} {o : Nat}
theorem lt_l {o c : Nat} (ho : o < 64) (hc : c < 64) : (nI o < nI c) ↔ o < c := n_lt (by omega) (by omega)
theorem le_l {o c : Nat} (ho : o < 64) (hc : c < 64) : (nI o ≤ nI c) ↔ o ≤ c := n_le (by omega) (by omega)
theorem eq_l {o c : Nat} (ho : o < 64) (hc : c < 64) : (nI o = nI c) ↔ o = c := n_eq (by omega) (by omega)
theorem has_D (ho : o < 64) (σ : cl_S) : fc_X0_hasD (nI o) σ = some ((if 1 ≤ o ∧ o ≤ 37 then 1 else 0 : Int32), σ) := by
  unfold fc_X0_hasD bc_X0_hasD_0
  by_cases c1 : o < 1
  · rw [if_pos (show nI o < (1:Int32) from (lt_l (c := 1) ho (by omega)).mpr c1), if_neg (by omega)]
  rw [if_neg (show ¬ nI o < (1:Int32) from fun q => c1 ((lt_l (c := 1) ho (by omega)).mp q))]
  by_cases c2 : 37 < o
  · rw [if_pos (show (37:Int32) < nI o from (lt_l (o := 37) (c := o) (by omega) ho).mpr c2), if_neg (by omega)]
  rw [if_neg (show ¬ (37:Int32) < nI o from fun q => c2 ((lt_l (o := 37) (c := o) (by omega) ho).mp q)), if_pos (by omega)]
theorem has_B (ho : o < 64) (σ : cl_S) : fc_X0_hasB (nI o) σ = some ((if 1 ≤ o ∧ o ≤ 11 then 1 else 0 : Int32), σ) := by
  unfold fc_X0_hasB bc_X0_hasB_0
  by_cases c1 : o < 1
  · rw [if_pos (show nI o < (1:Int32) from (lt_l (c := 1) ho (by omega)).mpr c1), if_neg (by omega)]
  rw [if_neg (show ¬ nI o < (1:Int32) from fun q => c1 ((lt_l (c := 1) ho (by omega)).mp q))]
  by_cases c2 : 11 < o
  · rw [if_pos (show (11:Int32) < nI o from (lt_l (o := 11) (c := o) (by omega) ho).mpr c2), if_neg (by omega)]
  rw [if_neg (show ¬ (11:Int32) < nI o from fun q => c2 ((lt_l (o := 11) (c := o) (by omega) ho).mp q)), if_pos (by omega)]
theorem has_M (ho : o < 64) (σ : cl_S) : fc_X0_hasM (nI o) σ = some ((if 12 ≤ o ∧ o ≤ 38 then 1 else 0 : Int32), σ) := by
  unfold fc_X0_hasM bc_X0_hasM_0
  by_cases c1 : o < 12
  · rw [if_pos (show nI o < (12:Int32) from (lt_l (c := 12) ho (by omega)).mpr c1), if_neg (by omega)]
  rw [if_neg (show ¬ nI o < (12:Int32) from fun q => c1 ((lt_l (c := 12) ho (by omega)).mp q))]
  by_cases c2 : 38 < o
  · rw [if_pos (show (38:Int32) < nI o from (lt_l (o := 38) (c := o) (by omega) ho).mpr c2), if_neg (by omega)]
  rw [if_neg (show ¬ (38:Int32) < nI o from fun q => c2 ((lt_l (o := 38) (c := o) (by omega) ho).mp q)), if_pos (by omega)]
theorem has_A (ho : o < 64) (σ : cl_S) : fc_X0_hasA (nI o) σ = some ((if 1 ≤ o ∧ o ≤ 37 ∧ o ≠ 21 ∧ o ≠ 36 then 1 else 0 : Int32), σ) := by
  unfold fc_X0_hasA bc_X0_hasA_0
  rw [has_D ho, bd2_eq]
  by_cases c1 : 1 ≤ o ∧ o ≤ 37
  · rw [if_pos c1, if_neg (by decide)]
    by_cases c2 : o = 21
    · rw [if_pos (show nI o = (21:Int32) from (eq_l (c := 21) ho (by omega)).mpr c2), if_neg (by omega)]
    rw [if_neg (show ¬ nI o = (21:Int32) from fun q => c2 ((eq_l (c := 21) ho (by omega)).mp q))]
    by_cases c3 : o = 36
    · rw [if_pos (show nI o = (36:Int32) from (eq_l (c := 36) ho (by omega)).mpr c3), if_neg (by omega)]
    rw [if_neg (show ¬ nI o = (36:Int32) from fun q => c3 ((eq_l (c := 36) ho (by omega)).mp q)), if_pos (by omega)]
  · rw [if_neg c1, if_pos rfl, if_neg (by omega)]
/-! masks and shifts -/
theorem bv_f {w : Nat} (y m : BitVec w) (s : Nat) (hm : (m <<< s) >>> s = m) : (y &&& (m <<< s) = 0#w) ↔ ((y >>> s) &&& m = 0#w) := by
  refine ⟨?_, ?_⟩
  · intro h
    have := congrArg (fun z : BitVec w => z >>> s) h
    simp only [BitVec.ushiftRight_and_distrib, hm] at this
    rw [this]; exact BitVec.zero_ushiftRight
  · intro h
    have := congrArg (fun z : BitVec w => z <<< s) h
    simp only [BitVec.shiftLeft_and_distrib] at this
    rw [BitVec.shiftLeft_ushiftRight] at this
    have e : (BitVec.allOnes w <<< s) &&& (m <<< s) = m <<< s := by
      rw [← BitVec.shiftLeft_and_distrib, BitVec.allOnes_and]
    rw [BitVec.and_assoc, e] at this
    rw [this]; exact BitVec.zero_shiftLeft s
theorem m_a (x m : Int32) : (x &&& (67108863:Int32)) &&& m = x &&& ((67108863:Int32) &&& m) := Int32.and_assoc ..
theorem i32_z (x : Int32) : x = 0 ↔ x.toBitVec = 0#32 := ⟨fun h => by rw [h]; rfl, fun h => Int32.toBitVec.inj h⟩
theorem m_18 (x : Int32) : (x &&& (3932160:Int32) = 0) ↔ (((x.toUInt32 >>> ((18:Int32).toUInt32 &&& Int32.toUInt32 31)).toInt32) &&& (15:Int32)) = 0 := by
  rw [i32_z, i32_z]
  exact bv_f x.toBitVec 15#32 18 (by decide)
theorem m_17 (x : Int32) : (x &&& (66977792:Int32) = 0) ↔ (((x.toUInt32 >>> ((17:Int32).toUInt32 &&& Int32.toUInt32 31)).toInt32) &&& (511:Int32)) = 0 := by
  rw [i32_z, i32_z]
  exact bv_f x.toBitVec 511#32 17 (by decide)
theorem m_6 (x : Int32) : (x &&& (67108863:Int32) = 0) ↔ (x <<< ((6:Int32) &&& 31)) = 0 := by
  rw [i32_z, i32_z]
  show (x.toBitVec &&& 67108863#32 = 0#32) ↔ x.toBitVec <<< 6 = 0#32
  generalize x.toBitVec = y
  rw [BitVec.toNat_eq, BitVec.toNat_eq, BitVec.toNat_and, BitVec.toNat_shiftLeft, Nat.shiftLeft_eq, show (67108863#32).toNat = 2 ^ 26 - 1 by decide, Nat.and_two_pow_sub_one_eq_mod, show (0#32).toNat = 0 from rfl]
  have := y.isLt
  omega
/-- whether a word is a statement's -/
theorem made (ho : o < 64) (x : Int32) (ex : (x.toUInt32 >>> ((26:Int32).toUInt32 &&& Int32.toUInt32 31)).toInt32 = nI o) : ∃ r : Int32, (∀ σ, fc_X0_isMadeBy (nI o) x σ = some (r, σ)) ∧ (∀ ρ, fq_isStatement x ρ = some (r, ρ)) ∧ (r ≠ 0 → 1 ≤ o ∧ o ≤ 39) := by
  by_cases c0 : o < 1
  · refine ⟨0, fun σ => ?_, fun ρ => ?_, fun q => absurd rfl q⟩
    · unfold fc_X0_isMadeBy bc_X0_isMadeBy_0
      rw [if_pos (show nI o < (1:Int32) from (lt_l (c := 1) ho (by omega)).mpr c0)]
    · unfold fq_isStatement bq_isStatement_0
      rw [ex, vl_eq, if_pos (show nI o < (1:Int32) from (lt_l (c := 1) ho (by omega)).mpr c0)]
  have n0 : ¬ nI o < (1:Int32) := fun q => c0 ((lt_l (c := 1) ho (by omega)).mp q)
  by_cases c1 : o ≤ 39
  rotate_left
  · have n1 : ¬ nI o ≤ (39:Int32) := fun q => c1 ((le_l (c := 39) ho (by omega)).mp q)
    refine ⟨0, fun σ => ?_, fun ρ => ?_, fun q => absurd rfl q⟩
    · unfold fc_X0_isMadeBy bc_X0_isMadeBy_0
      rw [if_neg n0, if_neg n1]
    · unfold fq_isStatement bq_isStatement_0
      rw [ex, vl_eq, if_neg n0, if_neg n1]
  have p1 : nI o ≤ (39:Int32) := (le_l (c := 39) ho (by omega)).mpr c1
  have E : ∀ σ, fc_X0_isMadeBy (nI o) x σ = (if x &&& ((67108863:Int32) &&& ((if o = 38 then 131071 else ((((if 1 ≤ o ∧ o ≤ 37 then 62914560 else 0) ||| (if 1 ≤ o ∧ o ≤ 37 ∧ o ≠ 21 ∧ o ≠ 36 then 3932160 else 0)) ||| (if 1 ≤ o ∧ o ≤ 11 then 245760 else 0)) ||| (if 12 ≤ o ∧ o ≤ 38 then 262143 else 0) : Int32)) ^^^ (-1:Int32))) = 0 then some ((1:Int32), σ) else some ((0:Int32), σ)) := by
    intro σ
    unfold fc_X0_isMadeBy bc_X0_isMadeBy_0
    rw [if_neg n0, if_pos p1, has_D ho, bd2_eq]
    have t : ∀ (σ : cl_S) (v w : Int32), bc_X0_isMadeBy_73 (nI o) x v w σ = (if x &&& ((67108863:Int32) &&& ((if o = 38 then 131071 else (v ||| w)) ^^^ (-1:Int32))) = 0 then some ((1:Int32), σ) else some ((0:Int32), σ)) := by
      intro σ v w
      unfold bc_X0_isMadeBy_73 bc_X0_isMadeBy_84
      rw [vl_eq]
      by_cases c : o = 38
      · rw [if_pos (show nI o = (38:Int32) from (eq_l (c := 38) ho (by omega)).mpr c), if_pos c, m_a]
      · rw [if_neg (show ¬ nI o = (38:Int32) from fun q => c ((eq_l (c := 38) ho (by omega)).mp q)), if_neg c, m_a]
    have t2 : ∀ (σ : cl_S) (v w : Int32), bc_X0_isMadeBy_57 (nI o) x v w σ = bc_X0_isMadeBy_73 (nI o) x (v ||| w) (if 12 ≤ o ∧ o ≤ 38 then 262143 else 0) σ := by
      intro σ v w
      unfold bc_X0_isMadeBy_57
      rw [vl_eq, has_M ho, bd2_eq]
      by_cases c : 12 ≤ o ∧ o ≤ 38
      · rw [if_pos c, if_neg (by decide), if_pos c]
      · rw [if_neg c, if_pos rfl, if_neg c]
    have t3 : ∀ (σ : cl_S) (v w : Int32), bc_X0_isMadeBy_41 (nI o) x v w σ = bc_X0_isMadeBy_57 (nI o) x (v ||| w) (if 1 ≤ o ∧ o ≤ 11 then 245760 else 0) σ := by
      intro σ v w
      unfold bc_X0_isMadeBy_41
      rw [vl_eq, has_B ho, bd2_eq]
      by_cases c : 1 ≤ o ∧ o ≤ 11
      · rw [if_pos c, if_neg (by decide), if_pos c]
      · rw [if_neg c, if_pos rfl, if_neg c]
    have t4 : ∀ (σ : cl_S) (v : Int32), bc_X0_isMadeBy_26 (nI o) x v σ = bc_X0_isMadeBy_41 (nI o) x v (if 1 ≤ o ∧ o ≤ 37 ∧ o ≠ 21 ∧ o ≠ 36 then 3932160 else 0) σ := by
      intro σ v
      unfold bc_X0_isMadeBy_26
      rw [has_A ho, bd2_eq]
      by_cases c : 1 ≤ o ∧ o ≤ 37 ∧ o ≠ 21 ∧ o ≠ 36
      · rw [if_pos c, if_neg (by decide), if_pos c]
      · rw [if_neg c, if_pos rfl, if_neg c]
    by_cases c : 1 ≤ o ∧ o ≤ 37
    · rw [if_pos c, if_neg (by decide), if_pos c, t4, t3, t2, t]
    · rw [if_neg c, if_pos rfl, if_neg c, t4, t3, t2, t]
  have fin : ∀ (P : Prop) [Decidable P] (X Y : Prop) [Decidable X] [Decidable Y], (X ↔ P) → (Y ↔ P) → (∀ σ, fc_X0_isMadeBy (nI o) x σ = (if X then some ((1:Int32), σ) else some ((0:Int32), σ))) → (∀ ρ, fq_isStatement x ρ = (if Y then some ((1:Int32), ρ) else some ((0:Int32), ρ))) → ∃ r : Int32, (∀ σ, fc_X0_isMadeBy (nI o) x σ = some (r, σ)) ∧ (∀ ρ, fq_isStatement x ρ = some (r, ρ)) ∧ (r ≠ 0 → 1 ≤ o ∧ o ≤ 39) := by
    intro P _ X Y _ _ hX hY h1 h2
    by_cases c : P
    · exact ⟨1, fun σ => by rw [h1, if_pos (hX.mpr c)], fun ρ => by rw [h2, if_pos (hY.mpr c)], fun _ => by omega⟩
    · exact ⟨0, fun σ => by rw [h1, if_neg (fun q => c (hX.mp q))], fun ρ => by rw [h2, if_neg (fun q => c (hY.mp q))], fun q => absurd rfl q⟩
  unfold fq_isStatement bq_isStatement_0 bq_isStatement_50 at *
  simp only [ex, vl_eq, if_neg n0, if_pos p1] at *
  by_cases d1 : 12 ≤ o
  rotate_left
  · have e1 : ¬ (12:Int32) ≤ nI o := fun q => d1 ((le_l (o := 12) (c := o) (by omega) ho).mp q)
    refine fin (x &&& (16383:Int32) = 0) _ _ Iff.rfl Iff.rfl (fun σ => ?_) (fun ρ => if_neg e1)
    rw [E, if_neg (show ¬ o = 38 by omega), if_pos (show 1 ≤ o ∧ o ≤ 37 by omega), if_pos (show 1 ≤ o ∧ o ≤ 37 ∧ o ≠ 21 ∧ o ≠ 36 by omega), if_pos (show 1 ≤ o ∧ o ≤ 11 by omega), if_neg (show ¬ (12 ≤ o ∧ o ≤ 38) by omega)]
    rfl
  have e1 : (12:Int32) ≤ nI o := (le_l (o := 12) (c := o) (by omega) ho).mpr d1
  by_cases d2 : o = 21 ∨ o = 36
  · refine fin (x &&& (3932160:Int32) = 0) _ _ Iff.rfl (m_18 x).symm (fun σ => ?_) (fun ρ => ?_)
    · rw [E, if_neg (show ¬ o = 38 by omega), if_pos (show 1 ≤ o ∧ o ≤ 37 by omega), if_neg (show ¬ (1 ≤ o ∧ o ≤ 37 ∧ o ≠ 21 ∧ o ≠ 36) by omega), if_neg (show ¬ (1 ≤ o ∧ o ≤ 11) by omega), if_pos (show (12 ≤ o ∧ o ≤ 38) by omega)]
      rfl
    · rw [if_pos e1]
      rcases d2 with rfl | rfl
      · rw [if_pos (show nI 21 = (21:Int32) from rfl)]
      · rw [if_neg (show ¬ nI 36 = (21:Int32) by decide), if_pos (show nI 36 = (36:Int32) from rfl)]
  have e2 : ¬ nI o = (21:Int32) := fun q => d2 (Or.inl ((eq_l (c := 21) ho (by omega)).mp q))
  have e3 : ¬ nI o = (36:Int32) := fun q => d2 (Or.inr ((eq_l (c := 36) ho (by omega)).mp q))
  by_cases d3 : o = 38
  · refine fin (x &&& (66977792:Int32) = 0) _ _ Iff.rfl (m_17 x).symm (fun σ => ?_) (fun ρ => ?_)
    · rw [E, if_pos d3]; rfl
    · rw [if_pos e1, if_neg e2, if_neg e3, if_pos (show nI o = (38:Int32) from (eq_l (c := 38) ho (by omega)).mpr d3)]
  have e4 : ¬ nI o = (38:Int32) := fun q => d3 ((eq_l (c := 38) ho (by omega)).mp q)
  by_cases d4 : o = 39
  · refine fin (x &&& (67108863:Int32) = 0) _ _ Iff.rfl (m_6 x).symm (fun σ => ?_) (fun ρ => ?_)
    · rw [E, if_neg d3, if_neg (show ¬ (1 ≤ o ∧ o ≤ 37) by omega), if_neg (show ¬ (1 ≤ o ∧ o ≤ 37 ∧ o ≠ 21 ∧ o ≠ 36) by omega), if_neg (show ¬ (1 ≤ o ∧ o ≤ 11) by omega), if_neg (show ¬ (12 ≤ o ∧ o ≤ 38) by omega)]
      rfl
    · rw [if_pos e1, if_neg e2, if_neg e3, if_neg e4, if_pos (show nI o = (39:Int32) from (eq_l (c := 39) ho (by omega)).mpr d4)]
  have e5 : ¬ nI o = (39:Int32) := fun q => d4 ((eq_l (c := 39) ho (by omega)).mp q)
  refine ⟨1, fun σ => ?_, fun ρ => ?_, fun _ => by omega⟩
  · rw [E, if_neg (show ¬ o = 38 by omega), if_pos (show 1 ≤ o ∧ o ≤ 37 by omega), if_pos (show 1 ≤ o ∧ o ≤ 37 ∧ o ≠ 21 ∧ o ≠ 36 by omega), if_neg (show ¬ (1 ≤ o ∧ o ≤ 11) by omega), if_pos (show (12 ≤ o ∧ o ≤ 38) by omega)]
    exact if_pos Int32.and_zero
  · rw [if_pos e1, if_neg e2, if_neg e3, if_neg e4, if_neg e5]
end Z2_S8
