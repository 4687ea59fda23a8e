section Z2_S3
variable {σ σ' σ0 : cl_S} {ρ ρ' ρ0 : rf_S} {l : List Nat}
/-- the digits from the power k down -/
def fgs (z : Nat) : Nat → List Nat
  | 0 => [48 + z / 1 % 10]
  | k + 1 => (48 + z / 10 ^ (k + 1) % 10) :: fgs z k
theorem fgs_len (z : Nat) : ∀ k, (fgs z k).length = k + 1 := by
  intro k
  induction k with
  | zero => rfl
  | succ k ih => unfold fgs; rw [List.length_cons, ih]
theorem L_gt {a b : Nat} (ha : a < 9223372036854775808) (hb : b < 9223372036854775808) : Int64.ofNat a > Int64.ofNat b ↔ b < a := by
  show Int64.ofNat b < Int64.ofNat a ↔ _
  rw [Int64.lt_iff_toInt_lt, L_toInt ha, L_toInt hb]; omega
theorem L_eq {a b : Nat} (ha : a < 9223372036854775808) (hb : b < 9223372036854775808) : Int64.ofNat a = Int64.ofNat b ↔ a = b := by
  rw [← Int64.toInt_inj, L_toInt ha, L_toInt hb]; omega
theorem lg_v {a b : Nat} (ha : a < 9223372036854775808) (hb : b < 9223372036854775808) : lg_cmp (Int64.ofNat a) (Int64.ofNat b) = if b < a then 1 else if a = b then 0 else -1 := by
  unfold lg_cmp
  by_cases c : b < a
  · rw [if_pos ((L_gt ha hb).mpr c), if_pos c]
  · rw [if_neg (fun q => c ((L_gt ha hb).mp q)), if_neg c]
    by_cases d : a = b
    · rw [if_pos ((L_eq ha hb).mpr d), if_pos d]
    · rw [if_neg (fun q => d ((L_eq ha hb).mp q)), if_neg d]
set_option maxRecDepth 20000 in
theorem c16_id : ∀ c, c < 128 → ((nI c).toUInt32 % 65536).toInt32 = nI c := by decide
theorem q_dig {z : Nat} (hz : z < 4294967296) : ∀ k (ρ : rf_S) (l : List Nat), 10 ^ k ≤ 4294967296 → ShQ ρ0 ρ l → l.length + k + 1 ≤ 64 → ∃ ρ' y, lp (fun w : (Int64 × rf_S) => lq_putFigures_42 (Int64.ofNat z) w.1 w.2) (Int64.ofNat (10 ^ k), ρ) = some (y, ρ') ∧ ShQ ρ0 ρ' (l ++ fgs z k) := by
  have one : ∀ p (ρ : rf_S) (l : List Nat), 0 < p → p ≤ 4294967296 → ShQ ρ0 ρ l → l.length < 64 → ∃ ρ', lq_putFigures_42 (Int64.ofNat z) (Int64.ofNat p) ρ = some (.inl (Int64.ofNat (p / 10), ρ')) ∧ ShQ ρ0 ρ' (l ++ [48 + z / p % 10]) := by
    intro p ρ l hp hp' S hl
    have hd : z / p % 10 < 10 := Nat.mod_lt _ (by omega)
    obtain ⟨ρ1, e1, S1⟩ := S.put hl (show 48 + z / p % 10 < 128 by omega)
    refine ⟨ρ1, ?_, S1⟩
    unfold lq_putFigures_42
    rw [show (0:Int64) = Int64.ofNat 0 from rfl, lg_v (by omega) (by omega), if_pos hp, if_neg (by decide)]
    unfold nzL
    rw [show (0:Int64) = Int64.ofNat 0 from rfl, if_neg (fun q => by have := (L_eq (by omega) (by omega)).mp q; omega), L_dig (by omega) (by omega), e1, bd1n, show (10:Int64) = Int64.ofNat 10 from rfl, L_div (by omega) (by omega), vln]
  intro k
  induction k with
  | zero =>
    intro ρ l hk S hl
    obtain ⟨ρ1, e1, S1⟩ := one 1 ρ l (by omega) (by omega) S (by omega)
    have e2 : lq_putFigures_42 (Int64.ofNat z) (Int64.ofNat (1 / 10)) ρ1 = some (.inr (Int64.ofNat (1 / 10), ρ1)) := by
      unfold lq_putFigures_42
      rw [show (0:Int64) = Int64.ofNat 0 from rfl, lg_v (by omega) (by omega), if_neg (show ¬ 0 < 1 / 10 by omega), if_pos (show 1 / 10 = 0 by omega), if_pos (show (0:Int32) ≤ 0 by decide)]
    exact ⟨ρ1, _, by rw [lp_next (s := (Int64.ofNat (10 ^ 0), ρ)) e1, lp_end (s := (Int64.ofNat (1 / 10), ρ1)) e2], S1⟩
  | succ k ih =>
    intro ρ l hk S hl
    have hp : 10 ^ (k + 1) = 10 ^ k * 10 := Nat.pow_succ 10 k
    have h0 : 0 < 10 ^ k := Nat.pow_pos (by omega)
    obtain ⟨ρ1, e1, S1⟩ := one (10 ^ (k + 1)) ρ l (by omega) hk S (by omega)
    rw [show 10 ^ (k + 1) / 10 = 10 ^ k by omega] at e1
    obtain ⟨ρ2, y, e2, S2⟩ := ih ρ1 (l ++ [48 + z / 10 ^ (k + 1) % 10]) (by omega) S1 (by rw [List.length_append, List.length_singleton]; omega)
    refine ⟨ρ2, y, by rw [lp_next (s := (Int64.ofNat (10 ^ (k + 1)), ρ)) e1]; exact e2, ?_⟩
    rw [List.append_assoc] at S2
    exact S2
theorem c_dig {z : Nat} (hz : z < 4294967296) : ∀ k (σ : cl_S) (l : List Nat), 10 ^ k ≤ 4294967296 → ShC σ0 σ l → l.length + k + 1 ≤ 40 → ∃ σ' y, lp (fun w : (Int64 × cl_S) => lc_X0_showNumber_56 6 (Int64.ofNat z) w.1 w.2) (Int64.ofNat (10 ^ k), σ) = some (y, σ') ∧ ShC σ0 σ' (l ++ fgs z k) := by
  have one : ∀ p (σ : cl_S) (l : List Nat), 0 < p → p ≤ 4294967296 → ShC σ0 σ l → l.length < 40 → ∃ σ', lc_X0_showNumber_56 6 (Int64.ofNat z) (Int64.ofNat p) σ = some (.inl (Int64.ofNat (p / 10), σ')) ∧ ShC σ0 σ' (l ++ [48 + z / p % 10]) := by
    intro p σ l hp hp' S hl
    have hd : z / p % 10 < 10 := Nat.mod_lt _ (by omega)
    obtain ⟨σ1, e1, S1⟩ := S.put hl (show 48 + z / p % 10 < 128 by omega)
    refine ⟨σ1, ?_, S1⟩
    unfold lc_X0_showNumber_56
    rw [show (0:Int64) = Int64.ofNat 0 from rfl, lg_v (by omega) (by omega), if_pos hp, if_neg (by decide)]
    unfold nzL
    rw [show (0:Int64) = Int64.ofNat 0 from rfl, if_neg (fun q => by have := (L_eq (by omega) (by omega)).mp q; omega), L_dig (by omega) (by omega), c16_id _ (by omega), e1, bd1n, show (10:Int64) = Int64.ofNat 10 from rfl, L_div (by omega) (by omega), vln]
  intro k
  induction k with
  | zero =>
    intro σ l hk S hl
    obtain ⟨σ1, e1, S1⟩ := one 1 σ l (by omega) (by omega) S (by omega)
    have e2 : lc_X0_showNumber_56 6 (Int64.ofNat z) (Int64.ofNat (1 / 10)) σ1 = some (.inr (Int64.ofNat (1 / 10), σ1)) := by
      unfold lc_X0_showNumber_56
      rw [show (0:Int64) = Int64.ofNat 0 from rfl, lg_v (by omega) (by omega), if_neg (show ¬ 0 < 1 / 10 by omega), if_pos (show 1 / 10 = 0 by omega), if_pos (show (0:Int32) ≤ 0 by decide)]
    exact ⟨σ1, _, by rw [lp_next (s := (Int64.ofNat (10 ^ 0), σ)) e1, lp_end (s := (Int64.ofNat (1 / 10), σ1)) e2], S1⟩
  | succ k ih =>
    intro σ l hk S hl
    have hp : 10 ^ (k + 1) = 10 ^ k * 10 := Nat.pow_succ 10 k
    have h0 : 0 < 10 ^ k := Nat.pow_pos (by omega)
    obtain ⟨σ1, e1, S1⟩ := one (10 ^ (k + 1)) σ l (by omega) hk S (by omega)
    rw [show 10 ^ (k + 1) / 10 = 10 ^ k by omega] at e1
    obtain ⟨σ2, y, e2, S2⟩ := ih σ1 (l ++ [48 + z / 10 ^ (k + 1) % 10]) (by omega) S1 (by rw [List.length_append, List.length_singleton]; omega)
    refine ⟨σ2, y, by rw [lp_next (s := (Int64.ofNat (10 ^ (k + 1)), σ)) e1]; exact e2, ?_⟩
    rw [List.append_assoc] at S2
    exact S2
end Z2_S3
