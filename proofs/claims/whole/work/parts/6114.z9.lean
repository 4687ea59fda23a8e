section Z2_Z9
variable {σ σ' σ0 : cl_S} {ρ ρ' ρ0 : rf_S} {x : Nat → Nat} {n : Nat} {t t' : List Nat}
/-- the name of register k -/
def rl (k : Nat) : List Nat := if k ≤ 9 then [114, 48 + k] else [114, 49, 48 + (k - 10)]
theorem rl_nm : ∀ k, k < 16 → (rl k).length ≤ 8 ∧ ∀ c, c ∈ rl k → 0 < c ∧ c < 128 := by decide
theorem rl_inj : ∀ k, k < 16 → ∀ j, j < 16 → rl k = rl j → k = j := by decide
theorem L_ushr {e s : Nat} (he : e < 9223372036854775808) (hs : s < 64) : ((Int64.ofNat e).toUInt64 >>> ((nI s).toInt64.toUInt64 &&& Int64.toUInt64 63)).toInt64 = Int64.ofNat (e / 2 ^ s) := by
  have e1 : ∀ s, s < 64 → ((nI s).toInt64.toUInt64 &&& Int64.toUInt64 63) = UInt64.ofNat s := by decide
  rw [e1 s hs]
  apply Int64.toBitVec_inj.mp
  rw [UInt64.toBitVec_toInt64, UInt64.toBitVec_shiftRight, Int64.toBitVec_toUInt64, Int64.toBitVec_ofNat', Int64.toBitVec_ofNat']
  apply BitVec.eq_of_toNat_eq
  have e2 : (UInt64.ofNat s).toBitVec % 64 = BitVec.ofNat 64 s := by
    have : ∀ s, s < 64 → (UInt64.ofNat s).toBitVec % 64 = BitVec.ofNat 64 s := by decide
    exact this s hs
  rw [e2, BitVec.ushiftRight_eq', BitVec.toNat_ushiftRight, BitVec.toNat_ofNat, BitVec.toNat_ofNat, BitVec.toNat_ofNat, Nat.shiftRight_eq_div_pow, Nat.mod_eq_of_lt (show e < 2 ^ 64 by omega), Nat.mod_eq_of_lt (show s < 2 ^ 64 by omega)]
  rw [Nat.mod_eq_of_lt]
  exact Nat.lt_of_le_of_lt (Nat.div_le_self _ _) (by omega)
theorem L_and255 {e : Nat} (he : e < 9223372036854775808) : Int64.ofNat e &&& (255:Int64) = Int64.ofNat (e % 256) := by
  apply Int64.toBitVec_inj.mp
  rw [Int64.toBitVec_and, Int64.toBitVec_ofNat', Int64.toBitVec_ofNat']
  apply BitVec.eq_of_toNat_eq
  rw [BitVec.toNat_and, BitVec.toNat_ofNat, BitVec.toNat_ofNat, show (Int64.toBitVec 255).toNat = 2 ^ 8 - 1 by decide, Nat.mod_eq_of_lt (show e < 2 ^ 64 by omega), Nat.and_two_pow_sub_one_eq_mod, Nat.mod_eq_of_lt (show e % 256 < 2 ^ 64 by omega)]
/-- the class's register of a name -/
theorem tk_reg (ht : Nm t) (hb : ∀ c, c ∈ t → (48 ≤ c ∧ c ≤ 57) ∨ (97 ≤ c ∧ c ≤ 122)) (h0 : t ≠ []) (σ : cl_S) : (∃ k, k < 16 ∧ t = rl k ∧ fc_X0_registerOf (Int64.ofNat (enc 256 t)) σ = some (nI k, σ)) ∨ ((∀ k, k < 16 → t ≠ rl k) ∧ fc_X0_registerOf (Int64.ofNat (enc 256 t)) σ = some (-1, σ)) := by
  rcases List.eq_nil_or_concat t with q | ⟨s, a, q⟩
  · exact absurd q h0
  rw [List.concat_eq_append] at q
  subst q
  have ha := hb a (by simp)
  have lt := ht.lt.1
  have sn : ∀ c, c ∈ s → 0 < c ∧ c < 128 := fun c hc => ht.2 c (by simp [hc])
  have ea := enc_app 256 s a
  have d8 : enc 256 (s ++ [a]) / 2 ^ 8 = enc 256 s := by rw [ea]; omega
  have m8 : enc 256 (s ++ [a]) % 256 = a := by rw [ea]; omega
  have ls : enc 256 s < 9223372036854775808 := by omega
  have s1 : enc 256 s = 114 ↔ s = [114] := by
    refine ⟨?_, ?_⟩
    · intro q; exact enc_inj (b := 256) (by omega) _ s [114] rfl sn (by decide) (by rw [q]; rfl)
    · intro q; rw [q]; rfl
  unfold fc_X0_registerOf bc_X0_registerOf_0
  rw [L_and255 lt, m8, L_i32 (by omega), vl_eq, show (48:Int32) = nI 48 from rfl, n_sub (by omega), show ((Int64.ofNat (enc 256 (s ++ [a]))).toUInt64 >>> ((8:Int32).toInt64.toUInt64 &&& Int64.toUInt64 63)).toInt64 = Int64.ofNat (enc 256 s) by rw [show (8:Int32) = nI 8 from rfl, L_ushr lt (by omega), d8], show (114:Int64) = Int64.ofNat 114 from rfl]
  have c33 : ¬ (s = [114] ∧ a ≤ 57) → (∃ k, k < 16 ∧ s ++ [a] = rl k ∧ bc_X0_registerOf_33 (Int64.ofNat (enc 256 (s ++ [a]))) (nI (a - 48)) σ = some (nI k, σ)) ∨ ((∀ k, k < 16 → s ++ [a] ≠ rl k) ∧ bc_X0_registerOf_33 (Int64.ofNat (enc 256 (s ++ [a]))) (nI (a - 48)) σ = some (-1, σ)) := by
    intro hn
    unfold bc_X0_registerOf_33 bc_X0_registerOf_63
    rw [show ((Int64.ofNat (enc 256 (s ++ [a]))).toUInt64 >>> ((8:Int32).toInt64.toUInt64 &&& Int64.toUInt64 63)).toInt64 = Int64.ofNat (enc 256 s) by rw [show (8:Int32) = nI 8 from rfl, L_ushr lt (by omega), d8], show ((Int64.ofNat (enc 256 (s ++ [a]))).toUInt64 >>> ((16:Int32).toInt64.toUInt64 &&& Int64.toUInt64 63)).toInt64 = Int64.ofNat (enc 256 s / 256) by rw [show (16:Int32) = nI 16 from rfl, L_ushr lt (by omega)]; congr 1; rw [ea]; omega, L_and255 ls, show (114:Int64) = Int64.ofNat 114 from rfl, show (49:Int64) = Int64.ofNat 49 from rfl]
    have no : ¬ (∃ d, d ≤ 5 ∧ s ++ [a] = [114, 49, 48 + d]) → ∀ k, k < 16 → s ++ [a] ≠ rl k := by
      intro h k hk q
      unfold rl at q
      by_cases k9 : k ≤ 9
      · rw [if_pos k9] at q
        have : s ++ [a] = [114] ++ [48 + k] := q
        obtain ⟨q1, q2⟩ := List.append_inj' this rfl
        cases q2
        exact hn ⟨q1, by omega⟩
      · rw [if_neg k9] at q
        exact h ⟨k - 10, by omega, q⟩
    have e64 : ∀ v0 : Int32, v0 = 0 → bc_X0_registerOf_64 (nI (a - 48)) v0 σ = some (-1, σ) := by
      intro v0 h; unfold bc_X0_registerOf_64; rw [if_pos h]
    by_cases c1 : enc 256 s / 256 = 114
    rotate_left
    · rw [if_neg (fun q => c1 ((lg_0 (by omega) (by omega)).mp q)), e64 0 rfl]
      refine Or.inr ⟨no ?_, rfl⟩
      rintro ⟨d, hd, q⟩
      have : s ++ [a] = [114, 49] ++ [48 + d] := q
      obtain ⟨q1, -⟩ := List.append_inj' this rfl
      rw [q1] at c1
      exact c1 (by decide)
    rw [if_pos ((lg_0 (by omega) (by omega)).mpr c1)]
    by_cases c2 : enc 256 s % 256 = 49
    rotate_left
    · rw [if_neg (fun q => c2 ((lg_0 (by omega) (by omega)).mp q)), e64 0 rfl]
      refine Or.inr ⟨no ?_, rfl⟩
      rintro ⟨d, hd, q⟩
      have : s ++ [a] = [114, 49] ++ [48 + d] := q
      obtain ⟨q1, -⟩ := List.append_inj' this rfl
      rw [q1] at c2
      exact c2 (by decide)
    rw [if_pos ((lg_0 (by omega) (by omega)).mpr c2)]
    have es : s = [114, 49] := enc_inj (b := 256) (by omega) _ s [114, 49] rfl sn (by decide) (by rw [show enc 256 [114, 49] = 114 * 256 + 49 from rfl]; omega)
    unfold bc_X0_registerOf_64
    rw [if_neg (by decide), if_neg (n_nneg (by omega))]
    by_cases c5 : 5 < a - 48
    · rw [if_pos (show (5:Int32) < nI (a - 48) from (n_lt (a := 5) (b := a - 48) (by omega) (by omega)).mpr c5)]
      refine Or.inr ⟨no ?_, rfl⟩
      rintro ⟨d, hd, q⟩
      have : s ++ [a] = [114, 49] ++ [48 + d] := q
      obtain ⟨-, q2⟩ := List.append_inj' this rfl
      cases q2
      omega
    · rw [if_neg (show ¬ (5:Int32) < nI (a - 48) from fun q => c5 ((n_lt (a := 5) (b := a - 48) (by omega) (by omega)).mp q))]
      refine Or.inl ⟨10 + (a - 48), by omega, ?_, by rw [show (10:Int32) = nI 10 from rfl, n_add]⟩
      unfold rl
      rw [if_neg (by omega), es, show 48 + (10 + (a - 48) - 10) = a by omega]
      rfl
  by_cases c1 : s = [114]
  · rw [if_pos ((lg_0 (by omega) (by omega)).mpr (s1.mpr c1)), if_neg (n_nneg (by omega))]
    by_cases c9 : 9 < a - 48
    · rw [if_pos (show (9:Int32) < nI (a - 48) from (n_lt (a := 9) (b := a - 48) (by omega) (by omega)).mpr c9)]
      exact c33 (fun q => by omega)
    · rw [if_neg (show ¬ (9:Int32) < nI (a - 48) from fun q => c9 ((n_lt (a := 9) (b := a - 48) (by omega) (by omega)).mp q))]
      refine Or.inl ⟨a - 48, by omega, ?_, rfl⟩
      unfold rl
      rw [if_pos (by omega), c1, show 48 + (a - 48) = a by omega]
      rfl
  · rw [if_neg (fun q => c1 (s1.mp ((lg_0 (by omega) (by omega)).mp q)))]
    exact c33 (fun q => c1 q.1)
/-- the reference's register of a name -/
theorem tk_regq (ht : Nm t) (h46 : ρ.2 0 46 = Int64.ofNat (enc 128 t)) (r : Int32) (h : (∃ k, k < 16 ∧ t = rl k ∧ r = nI k) ∨ ((∀ k, k < 16 → t ≠ rl k) ∧ r = -1)) : ∃ y, lp (fun z : (Int32 × Int32 × rf_S) => lq_wantsRegister_18 z.1 z.2.1 z.2.2) ((-1:Int32), (0:Int32), ρ) = some (r, y, ρ) := by
  have main : ∀ m j (r0 : Int32), 16 - j = m → j ≤ 16 → ((∃ k, k < j ∧ t = rl k ∧ r0 = nI k) ∨ ((∀ k, k < j → t ≠ rl k) ∧ r0 = -1)) → ∃ y, lp (fun z : (Int32 × Int32 × rf_S) => lq_wantsRegister_18 z.1 z.2.1 z.2.2) (r0, nI j, ρ) = some (r, y, ρ) := by
    intro m
    induction m with
    | zero =>
      intro j r0 hm hj hr
      have e : j = 16 := by omega
      subst e
      have er : r0 = r := by
        rcases hr with ⟨k, hk, e1, e2⟩ | ⟨w, e2⟩
        · rcases h with ⟨k', hk', e1', e2'⟩ | ⟨w', -⟩
          · have := rl_inj k hk k' hk' (e1.symm.trans e1')
            rw [e2, e2', this]
          · exact absurd e1 (w' k hk)
        · rcases h with ⟨k', hk', e1', -⟩ | ⟨-, e2'⟩
          · exact absurd e1' (w k' hk')
          · rw [e2, e2']
      refine ⟨nI 16, ?_⟩
      rw [er]
      refine lp_end (s := (r, nI 16, ρ)) ?_
      show lq_wantsRegister_18 r (nI 16) ρ = _
      unfold lq_wantsRegister_18
      rw [if_pos (show (16:Int32) ≤ nI 16 by decide)]
    | succ m ih =>
      intro j r0 hm hj hr
      have hj16 : j < 16 := by omega
      have e43 : ∀ (w : Nat), enc 128 (rl j) = w * 2 ^ 7 + (48 + j % 10) → bq_wantsRegister_43i18 r0 (nI j) (Int64.ofNat w) ρ = some (.inl (if t = rl j then nI j else r0, nI (j + 1), ρ)) := by
        intro w hw
        unfold bq_wantsRegister_43i18 bq_wantsRegister_66i18
        have em : nI j - nI j / (10:Int32) * (10:Int32) = nI (j % 10) := by
          rw [show nI j / (10:Int32) = nI (j / 10) from n_div (b := 10) (by omega) (by omega), show nI (j / 10) * (10:Int32) = nI (j / 10 * 10) from n_mul _ 10, n_sub (by omega)]
          congr 1; omega
        rw [em, show (48:Int32) + nI (j % 10) = nI (48 + j % 10) from n_add 48 _, nI_64 (by omega), show ((7:Int32).toInt64 &&& 63) = Int64.ofNat 7 by decide, L_sh (by omega) w (48 + j % 10) (by omega), ← hw, h46, vl_eq, vl_eq, show nI j + (1:Int32) = nI (j + 1) from n_add j 1]
        by_cases c : t = rl j
        · rw [if_pos ((Nm.q ht (rl_nm j hj16)).mpr c), if_pos c]
        · rw [if_neg (fun q => c ((Nm.q ht (rl_nm j hj16)).mp q)), if_neg c]
      have st : lq_wantsRegister_18 r0 (nI j) ρ = some (.inl (if t = rl j then nI j else r0, nI (j + 1), ρ)) := by
        unfold lq_wantsRegister_18
        rw [if_neg (show ¬ (16:Int32) ≤ nI j from fun q => by have := (n_le (a := 16) (b := j) (by omega) (by omega)).mp q; omega)]
        have d1 : ∀ j, j < 16 → j ≤ 9 → enc 128 (rl j) = 114 * 2 ^ 7 + (48 + j % 10) := by decide
        have d2 : ∀ j, j < 16 → ¬ j ≤ 9 → enc 128 (rl j) = (114 * 2 ^ 7 + 49) * 2 ^ 7 + (48 + j % 10) := by decide
        by_cases c9 : j ≤ 9
        · rw [if_pos (show nI j ≤ (9:Int32) from (n_le (a := j) (b := 9) (by omega) (by omega)).mpr c9)]
          exact e43 114 (d1 j hj16 c9)
        · rw [if_neg (show ¬ nI j ≤ (9:Int32) from fun q => c9 ((n_le (a := j) (b := 9) (by omega) (by omega)).mp q)), vl_eq, show ((114:Int64) <<< ((7:Int32).toInt64 &&& 63)) ||| (49:Int64) = Int64.ofNat (114 * 2 ^ 7 + 49) by decide]
          exact e43 _ (d2 j hj16 c9)
      have m1 : 16 - (j + 1) = m := by clear hr h; omega
      have m2 : j + 1 ≤ 16 := by clear hr h; omega
      have nx : (∃ k, k < j + 1 ∧ t = rl k ∧ (if t = rl j then nI j else r0) = nI k) ∨ ((∀ k, k < j + 1 → t ≠ rl k) ∧ (if t = rl j then nI j else r0) = -1) := by
        by_cases c : t = rl j
        · rw [if_pos c]; exact Or.inl ⟨j, Nat.lt_succ_self j, c, rfl⟩
        · rw [if_neg c]
          rcases hr with ⟨k, hk, e1, e2⟩ | ⟨w, e2⟩
          · exact Or.inl ⟨k, Nat.lt_succ_of_lt hk, e1, e2⟩
          · refine Or.inr ⟨fun k hk => ?_, e2⟩
            by_cases q : k = j
            · rw [q]; exact c
            · exact w k (by clear h; omega)
      obtain ⟨y, e⟩ := ih (j + 1) (if t = rl j then nI j else r0) m1 m2 nx
      exact ⟨y, by rw [lp_next (s := (r0, nI j, ρ)) st]; exact e⟩
  exact main 16 0 (-1) (by omega) (by omega) (Or.inr ⟨fun k hk => by omega, rfl⟩)
end Z2_Z9
