section Z2_X6
variable {σ σ' : cl_S} {ρ ρ' : rf_S}
variable {n T s : Nat} {h st : Nat → Nat} {L : Option Nat}
/-- alike: both answer 0 or both 1 -/
def Alk (x : Option (Int32 × cl_S)) (y : Option (Int32 × rf_S)) (σ : cl_S) (ρ : rf_S) : Prop := ∃ v : Int32, (v = 0 ∨ v = 1) ∧ x = some (v, σ) ∧ y = some (v, ρ)
theorem Alk.o : Alk (some ((1:Int32), σ)) (some ((1:Int32), ρ)) σ ρ := ⟨1, Or.inr rfl, rfl, rfl⟩
theorem Alk.z : Alk (some ((0:Int32), σ)) (some ((0:Int32), ρ)) σ ρ := ⟨0, Or.inl rfl, rfl, rfl⟩
theorem wid_v {o : Nat} (h : 22 ≤ o ∧ o ≤ 29) (σ : cl_S) (ρ : rf_S) : ∃ k, k ≤ 2 ∧ fc_X2_width (nI o) σ = some (nI (2 ^ k), σ) ∧ fq_widthOf (nI o) ρ = some (nI (2 ^ k), ρ) := by
  have : o = 22 ∨ o = 23 ∨ o = 24 ∨ o = 25 ∨ o = 26 ∨ o = 27 ∨ o = 28 ∨ o = 29 := by omega
  unfold fc_X2_width bc_X2_width_0 fq_widthOf bq_widthOf_0
  rcases this with rfl | rfl | rfl | rfl | rfl | rfl | rfl | rfl
  · exact ⟨2, by omega, by rw [if_pos (by decide)]; rfl, by rw [if_pos (by decide)]; rfl⟩
  · exact ⟨1, by omega, by rw [if_neg (by decide), if_neg (by decide), if_pos (by decide)]; rfl, by rw [if_neg (by decide), if_neg (by decide), if_pos (by decide)]; rfl⟩
  · exact ⟨1, by omega, by rw [if_neg (by decide), if_neg (by decide), if_neg (by decide), if_pos (by decide)]; rfl, by rw [if_neg (by decide), if_neg (by decide), if_neg (by decide), if_pos (by decide)]; rfl⟩
  · exact ⟨0, by omega, by rw [if_neg (by decide), if_neg (by decide), if_neg (by decide), if_neg (by decide), if_neg (by decide)]; rfl, by rw [if_neg (by decide), if_neg (by decide), if_neg (by decide), if_neg (by decide), if_neg (by decide)]; rfl⟩
  · exact ⟨0, by omega, by rw [if_neg (by decide), if_neg (by decide), if_neg (by decide), if_neg (by decide), if_neg (by decide)]; rfl, by rw [if_neg (by decide), if_neg (by decide), if_neg (by decide), if_neg (by decide), if_neg (by decide)]; rfl⟩
  · exact ⟨2, by omega, by rw [if_neg (by decide), if_pos (by decide)]; rfl, by rw [if_neg (by decide), if_pos (by decide)]; rfl⟩
  · exact ⟨1, by omega, by rw [if_neg (by decide), if_neg (by decide), if_neg (by decide), if_neg (by decide), if_pos (by decide)]; rfl, by rw [if_neg (by decide), if_neg (by decide), if_neg (by decide), if_neg (by decide), if_pos (by decide)]; rfl⟩
  · exact ⟨0, by omega, by rw [if_neg (by decide), if_neg (by decide), if_neg (by decide), if_neg (by decide), if_neg (by decide)]; rfl, by rw [if_neg (by decide), if_neg (by decide), if_neg (by decide), if_neg (by decide), if_neg (by decide)]; rfl⟩
theorem bad_eq (w : Int32) {x : Nat} (hx : x ≤ 2048) (hn : n ≤ 2048) (c3 : σ.1 15 3 = nI n) (mk : ∀ j, j < n → (σ.1 16 j = 1 ∧ ρ.1 77 j = 1) ∨ (σ.1 16 j = 0 ∧ ρ.1 77 j = 0)) (mo : ∀ j, n ≤ j → j < 2048 → ρ.1 77 j = 0) : Alk (fc_X7_isBad 15 w (nI x) σ) (fq_isBadWord w (nI x) ρ) σ ρ := by
  obtain ⟨o, ho, eo⟩ := n_usr w 26 (by omega) (by omega)
  have eo' : (w.toUInt32 >>> ((26:Int32).toUInt32 &&& Int32.toUInt32 31)).toInt32 = nI o := eo
  have ho : o < 64 := ho
  unfold fc_X7_isBad bc_X7_isBad_0 fq_isBadWord bq_isBadWord_0
  rw [eo', vln, vln, vln, show fq_signed w ρ = some (ofw w, ρ) from rfl, bd2n, show (w <<< ((14:Int32) &&& 31)) >>> ((14:Int32) &&& 31) = ofw w from rfl]
  have q38 : (nI o = (38:Int32)) ↔ o = 38 := n_eq (a := o) (b := 38) (by omega) (by omega)
  have q37 : (nI o = (37:Int32)) ↔ o = 37 := n_eq (a := o) (b := 37) (by omega) (by omega)
  have l1 : (nI o < (1:Int32)) ↔ o < 1 := n_lt (a := o) (b := 1) (by omega) (by omega)
  have l36 : (nI o ≤ (36:Int32)) ↔ o ≤ 36 := n_le (a := o) (b := 36) (by omega) (by omega)
  have l38 : (nI o ≤ (38:Int32)) ↔ o ≤ 38 := n_le (a := o) (b := 38) (by omega) (by omega)
  have l22 : (nI o < (22:Int32)) ↔ o < 22 := n_lt (a := o) (b := 22) (by omega) (by omega)
  have l29 : (nI o ≤ (29:Int32)) ↔ o ≤ 29 := n_le (a := o) (b := 29) (by omega) (by omega)
  have g29 : ((29:Int32) < nI o) ↔ 29 < o := n_lt (a := 29) (b := o) (by omega) (by omega)
  have l26 : (nI o ≤ (26:Int32)) ↔ o ≤ 26 := n_le (a := o) (b := 26) (by omega) (by omega)
  have l27 : (nI o < (27:Int32)) ↔ o < 27 := n_lt (a := o) (b := 27) (by omega) (by omega)
  by_cases c38 : o = 38
  · subst c38
    rw [if_pos (show nI 38 = (38:Int32) from rfl), if_neg (show ¬ nI 38 < (1:Int32) by decide), if_neg (show ¬ nI 38 = (37:Int32) by decide), if_pos (show nI 38 ≤ (38:Int32) by decide), if_pos (show nI 38 = (38:Int32) from rfl)]
    by_cases c0 : ofw w < 0
    · rw [if_pos c0, if_pos c0]; exact Alk.o
    rw [if_neg c0, if_neg c0]
    rcases n_cases (ofw w) with q | ⟨m, hm, em⟩
    · exact absurd q c0
    rw [em]
    have g34 : ((34:Int32) < nI m) ↔ 34 < m := n_lt (a := 34) (b := m) (by omega) hm
    have g34' : (nI m ≤ (34:Int32)) ↔ m ≤ 34 := n_le (a := m) (b := 34) hm (by omega)
    by_cases c34 : 34 < m
    · rw [if_pos (g34.mpr c34), if_neg (show ¬ nI m = (1:Int32) from fun q => by have := (n_eq (a := m) (b := 1) hm (by omega)).mp q; omega), if_neg (show ¬ nI m = (8:Int32) from fun q => by have := (n_eq (a := m) (b := 8) hm (by omega)).mp q; omega), if_neg (fun q => by have := g34'.mp q; omega)]
      exact Alk.o
    · rw [if_neg (fun q => c34 (g34.mp q)), if_pos (g34'.mpr (by omega))]
      by_cases c1 : nI m = 1
      · rw [if_pos c1, if_pos c1]; exact Alk.o
      rw [if_neg c1, if_neg c1]
      by_cases c8 : nI m = 8
      · rw [if_pos c8, if_pos c8]; exact Alk.o
      rw [if_neg c8, if_neg c8]
      exact Alk.z
  rw [if_neg (fun q => c38 (q38.mp q))]
  by_cases c1 : o < 1
  · rw [if_pos (l1.mpr c1), if_pos (l1.mpr c1)]; exact Alk.o
  rw [if_neg (fun q => c1 (l1.mp q)), if_neg (fun q => c1 (l1.mp q))]
  by_cases c36 : o ≤ 36
  rotate_left
  · rw [if_neg (fun q => c36 (l36.mp q))]
    by_cases c37 : o = 37
    · rw [if_pos (q37.mpr c37)]; exact Alk.o
    · rw [if_neg (fun q => c37 (q37.mp q)), if_neg (fun q => by have := l38.mp q; omega)]; exact Alk.o
  rw [if_pos (l36.mpr c36), if_neg (fun q => by have := q37.mp q; omega), if_pos (l38.mpr (by omega)), if_neg (fun q => c38 (q38.mp q))]
  unfold fc_X2_isMemoryOp bc_X2_isMemoryOp_0
  by_cases c22 : o < 22
  · rw [if_pos (l22.mpr c22), if_pos (l22.mpr c22), bd2n, if_pos rfl]; exact Alk.z
  rw [if_neg (fun q => c22 (l22.mp q)), if_neg (fun q => c22 (l22.mp q))]
  by_cases c29 : 29 < o
  · rw [if_pos (g29.mpr c29), if_neg (fun q => by have := l29.mp q; omega), bd2n, if_pos rfl]; exact Alk.z
  rw [if_neg (fun q => c29 (g29.mp q)), if_pos (l29.mpr (by omega)), bd2n, if_neg (by decide)]
  obtain ⟨k, hk, ew, eq⟩ := wid_v (o := o) (by omega) σ ρ
  rw [eq, bd2n]
  unfold bc_X7_isBad_108 bc_X7_isBad_113
  have d1 : ∀ {α : Type} (a b : α), (if (1:Int32) = 0 then a else b) = b := fun a b => if_neg (by decide)
  have d0 : ∀ {α : Type} (a b : α), (if (0:Int32) = 0 then a else b) = a := fun a b => if_pos rfl
  simp only [d1, d0, if_true]
  by_cases cb : (((w.toUInt32 >>> ((18:Int32).toUInt32 &&& Int32.toUInt32 31)).toInt32) &&& (15:Int32)) = 0
  rotate_left
  · rw [if_neg cb, if_neg cb]; exact Alk.o
  rw [if_pos cb, if_pos cb]
  by_cases c0 : ofw w < 0
  · rw [if_pos c0, if_pos c0]; exact Alk.o
  rw [if_neg c0, if_neg c0]
  rcases n_cases (ofw w) with q | ⟨m, hm, em⟩
  · exact absurd q c0
  rw [em]
  have t4 : (4:Int32) * nI x = nI (4 * x) := n_mul 4 x
  have p2 : 2 ^ k ≤ 4 ∧ 1 ≤ 2 ^ k := by
    have : k = 0 ∨ k = 1 ∨ k = 2 := by omega
    rcases this with rfl | rfl | rfl <;> decide
  have rm : nI m - nI m / nI (2 ^ k) * nI (2 ^ k) = nI (m % 2 ^ k) := by
    rw [n_div hm (by omega), n_mul, n_sub (Nat.div_mul_le_self _ _)]
    congr 1
    have := Nat.div_add_mod m (2 ^ k)
    rw [Nat.mul_comm] at this
    omega
  have an : nI m &&& (nI (2 ^ k) - (1:Int32)) = nI (m % 2 ^ k) := by
    rw [show nI (2 ^ k) - (1:Int32) = nI (2 ^ k - 1) from n_sub (a := 2 ^ k) (b := 1) p2.2]
    exact n_and hm (by omega)
  have zz : ∀ {α : Type} (z : Option α), nz (nI (2 ^ k)) z = z := fun z => if_neg (fun q => by have := (n_eq (a := 2 ^ k) (b := 0) (by omega) (by omega)).mp q; omega)
  have md : m % 2 ^ k < 2147483648 := Nat.lt_of_le_of_lt (Nat.mod_le _ _) hm
  have mz : (nI (m % 2 ^ k) = (0:Int32)) ↔ m % 2 ^ k = 0 := n_eq (a := m % 2 ^ k) (b := 0) md (by omega)
  rw [ew, bd2n, t4, zz, rm, an]
  have l4 : (nI (4 * x) ≤ nI m) ↔ 4 * x ≤ m := n_le (by omega) hm
  have l4' : (nI m < nI (4 * x)) ↔ m < 4 * x := n_lt hm (by omega)
  by_cases cx : 4 * x ≤ m
  · rw [if_pos (l4.mpr cx)]
    by_cases cm : m % 2 ^ k = 0
    · rw [if_pos (mz.mpr cm), if_neg (fun q => by have := l4'.mp q; omega)]; exact Alk.o
    · rw [if_neg (fun q => cm (mz.mp q))]; exact Alk.o
  rw [if_neg (fun q => cx (l4.mp q))]
  by_cases cm : m % 2 ^ k = 0
  rotate_left
  · rw [if_neg (fun q => cm (mz.mp q)), if_neg (fun q => cm (mz.mp q))]; exact Alk.o
  rw [if_pos (mz.mpr cm), if_pos (mz.mpr cm), if_pos (l4'.mpr (by omega))]
  unfold fc_X2_isStore bc_X2_isStore_0
  by_cases c26 : o ≤ 26
  · rw [if_pos (l26.mpr c26), if_pos (l27.mpr (by omega)), bd2n, if_pos rfl]; exact Alk.z
  rw [if_neg (fun q => c26 (l26.mp q)), if_neg (show ¬ nI o < (27:Int32) from fun q => by have := l27.mp q; omega), if_neg (show ¬ (29:Int32) < nI o from fun q => c29 (g29.mp q)), bd2n, if_neg (by decide), c3, n_shr2 hm, show nI m / (4:Int32) = nI (m / 4) from n_div (a := m) (b := 4) hm (by omega)]
  simp only [Nat.reduceAdd]
  rw [if_neg (show ¬ (2048:Int32) ≤ nI (m / 4) from fun q => by have := (n_le (a := 2048) (b := m / 4) (by omega) (by omega)).mp q; omega), n_ix (show m / 4 < 2048 by omega) (by omega), n_ix (show m / 4 < 2048 by omega) (by omega), n_cl (show m / 4 < 2147483648 by omega)]
  by_cases cn : n ≤ m / 4
  · rw [if_pos ((n_le (by omega) (by omega)).mpr cn), mo (m / 4) cn (by omega), if_pos rfl]; exact Alk.z
  · rw [if_neg (fun q => cn ((n_le (by omega) (by omega)).mp q))]
    rcases mk (m / 4) (by omega) with ⟨a1, a2⟩ | ⟨a1, a2⟩
    · rw [a1, a2, if_pos rfl, if_neg (by decide)]; exact Alk.o
    · rw [a1, a2, if_neg (by decide), if_pos rfl]; exact Alk.z
end Z2_X6
