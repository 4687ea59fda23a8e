section Z2_F7
variable {σ σ' : cl_S}
/-! LAYER 2: the terms' constructor -/
def iNote (a x y z : Nat) (σ : cl_S) : cl_S :=
  if y = x then (if z = x then cl_wr (cl_wr σ a 13 (σ.2.2.1 x 12)) x 12 (some a) else cl_wr (cl_wr (cl_wr (cl_wr σ a 13 (σ.2.2.1 x 12)) x 12 (some a)) a 15 (σ.2.2.1 z 12)) z 12 (some a))
  else if z = x ∨ z = y then cl_wr (cl_wr (cl_wr (cl_wr σ a 13 (σ.2.2.1 x 12)) x 12 (some a)) a 14 (σ.2.2.1 y 12)) y 12 (some a)
  else cl_wr (cl_wr (cl_wr (cl_wr (cl_wr (cl_wr σ a 13 (σ.2.2.1 x 12)) x 12 (some a)) a 14 (σ.2.2.1 y 12)) y 12 (some a)) a 15 (σ.2.2.1 z 12)) z 12 (some a)
theorem note_i {a x y z : Nat} (h3 : σ.2.2.1 a 3 = some x) (h4 : σ.2.2.1 a 4 = some y) (h5 : σ.2.2.1 a 5 = some z) (xa : x ≠ a) (ya : y ≠ a) (za : z ≠ a) : fc_X10_noteUser 31 (some a) σ = some (iNote a x y z σ) := by
  have xa' : a ≠ x := xa.symm
  have ya' : a ≠ y := ya.symm
  have za' : a ≠ z := za.symm
  unfold fc_X10_noteUser bc_X10_noteUser_0 bc_X10_noteUser_49 iNote
  by_cases c1 : y = x
  · subst c1
    by_cases c2 : z = y
    · subst c2
      simp only [nn_eq, vl_eq, h3, h4, h5, g_r, xa, ya, za, xa', ya', za', true_and, false_and, and_false, and_true, if_true, if_false, Nat.reduceEqDiff, Option.some.injEq, reduceCtorEq]
    · have c2' : y ≠ z := fun q => c2 q.symm
      simp only [nn_eq, vl_eq, h3, h4, h5, g_r, xa, ya, za, xa', ya', za', c2, c2', true_and, false_and, and_false, and_true, if_true, if_false, Nat.reduceEqDiff, Option.some.injEq, reduceCtorEq]
  · have c1' : x ≠ y := fun q => c1 q.symm
    by_cases c2 : z = x
    · subst c2
      simp only [nn_eq, vl_eq, h3, h4, h5, g_r, xa, ya, za, xa', ya', za', c1, c1', true_and, false_and, and_false, and_true, if_true, if_false, Nat.reduceEqDiff, Option.some.injEq, reduceCtorEq, true_or]
    · have c2' : x ≠ z := fun q => c2 q.symm
      by_cases c3 : z = y
      · subst c3
        simp only [nn_eq, vl_eq, h3, h4, h5, g_r, xa, ya, za, xa', ya', za', c1, c1', c2, c2', true_and, false_and, and_false, and_true, if_true, if_false, Nat.reduceEqDiff, Option.some.injEq, reduceCtorEq, or_true]
      · have c3' : y ≠ z := fun q => c3 q.symm
        simp only [nn_eq, vl_eq, h3, h4, h5, g_r, xa, ya, za, xa', ya', za', c1, c1', c2, c2', c3, c3', true_and, false_and, and_false, and_true, if_true, if_false, Nat.reduceEqDiff, Option.some.injEq, reduceCtorEq, or_self]
def iTau (m : Nat) (k n : Int32) (x y z : Nat) (a : Nat) (σ : cl_S) : cl_S := cl_wr (cl_wr (cl_wr (cl_wr (cl_wr (cl_wr (cl_seal (cl_wr (cl_w (cl_w (cl_w (cl_w (cl_nw (cl_w σ 31 2 (σ.1 31 2 + 1)) 125 0 16) a 6 1) a 0 k) a 1 n) a 2 (σ.1 31 2 + 1)) a 8 (σ.2.2.1 31 1)) a 9) 31 1 (some a)) a 3 (some x)) a 4 (some y)) a 5 (some z)) a 7 (σ.2.2.1 32 m)) 32 m (some a)
def iAdd (m : Nat) (k n : Int32) (x y z : Nat) (a : Nat) (σ : cl_S) : cl_S := cl_w (iNote a x y z (iTau m k n x y z a σ)) 31 8 0
theorem add_i {a : Nat} (k n : Int32) {x y z : Nat} (ha : σ.2.2.2.2.1 = a) (hx' : x < a ∧ 32 < x) (hy' : y < a ∧ 32 < y) (hz' : z < a ∧ 32 < z) (b0 : σ.2.2.1 31 0 = some 32) (b1 : σ.2.2.2.1 32 = (4, 4096)) (h1 : 1 ≤ σ.2.2.2.2.2.1) (h16 : 16 ≤ σ.2.2.2.2.2.2) {m : Nat} (hm : m < 4096) (em : hB k n (σ.1 x 2) (σ.1 y 2) (σ.1 z 2) = nI m) :
    fc_X10_add 31 k n (some x) (some y) (some z) σ = some (some a, iAdd m k n x y z a σ) := by
  have x1 : x ≠ a := by omega
  have y1 : y ≠ a := by omega
  have z1 : z ≠ a := by omega
  have x2 : x ≠ 31 := by omega
  have y2 : y ≠ 31 := by omega
  have z2 : z ≠ 31 := by omega
  have a1 : a ≠ 31 := by omega
  have a2 : a ≠ 32 := by omega
  have a1' : 31 ≠ a := by omega
  have a2' : 32 ≠ a := by omega
  have m1 : (nI m).toNatClampNeg = m := n_cl (by omega)
  have ne1 : ¬ (1:Int32) = 0 := by decide
  have e : fc_X10_add 31 k n (some x) (some y) (some z) σ = bd1 (fc_X10_noteUser 31 (some a) (iTau m k n x y z a σ)) (fun σ_83 => some (some a, cl_w σ_83 31 8 0)) := by
    unfold iTau
    unfold fc_X10_add bc_X10_add_0 fc_X9_init bc_X9_init_0
    simp only [vl_eq, r_wL, ha, al_in h1 h16]
    rw [al_in (by rw [r_wL]; exact h1) (by rw [r_wL]; exact h16)]
    rw [gnw_in (by rw [g_nR, r_wL, ha, if_pos rfl])]
    rw [bd1_eq]
    rw [sealed_9 (by simp only [r_rI, g_w, if_true, true_and, and_true, Nat.reduceEqDiff, if_false, ne1, not_false_eq_true, reduceCtorEq])]
    have hb : ∀ (τ' : cl_S), τ'.1 x 2 = σ.1 x 2 → τ'.1 y 2 = σ.1 y 2 → τ'.1 z 2 = σ.1 z 2 → fc_X10_bucketOf k n (some x) (some y) (some z) τ' = some (nI m, τ') := by
      intro τ' e1 e2 e3
      rw [c_bucket, e1, e2, e3, em]
    rw [hb _ (by simp only [r_rI, r_sI, g_w, g_nI, r_wL, ha, x1, x2, false_and, if_false]) (by simp only [r_rI, r_sI, g_w, g_nI, r_wL, ha, y1, y2, false_and, if_false]) (by simp only [r_rI, r_sI, g_w, g_nI, r_wL, ha, z1, z2, false_and, if_false]), bd2_eq]
    have t32 : va_up (va_up σ.2.2.2.1 a (125, 0)) a (16 + 9, 0) 32 = (4, 4096) := by
      unfold va_up
      rw [if_neg a2', if_neg a2', b1]
    simp only [g_r, r_rT, r_sT, r_sR, r_sI, r_wL, r_nT, r_rI, g_nR, g_w, g_nI, ha, a1, a2, a1', a2', true_and, false_and, and_false, and_true, if_true, if_false, Nat.reduceEqDiff, b0, nn_eq, t32, n_ix hm (show 4096 < 2147483648 by omega), m1]
  have t3 : (iTau m k n x y z a σ).2.2.1 a 3 = some x := by
    unfold iTau
    simp only [g_r, a1, a2, true_and, false_and, and_false, and_true, if_true, if_false, Nat.reduceEqDiff]
  have t4 : (iTau m k n x y z a σ).2.2.1 a 4 = some y := by
    unfold iTau
    simp only [g_r, a1, a2, true_and, false_and, and_false, and_true, if_true, if_false, Nat.reduceEqDiff]
  have t5 : (iTau m k n x y z a σ).2.2.1 a 5 = some z := by
    unfold iTau
    simp only [g_r, a1, a2, true_and, false_and, and_false, and_true, if_true, if_false, Nat.reduceEqDiff]
  rw [e, note_i t3 t4 t5 x1 y1 z1, bd1n]
  rfl
theorem find_i {k n : Int32} {x y z m : Nat} (b0 : σ.2.2.1 31 0 = some 32) (b1 : σ.2.2.2.1 32 = (4, 4096)) (hm : m < 4096) (em : hB k n (σ.1 x 2) (σ.1 y 2) (σ.1 z 2) = nI m) (hn : σ.2.2.1 32 m = none) (h4 : σ.2.2.1 31 4 = some 33) : fc_X10_find 31 k n (some x) (some y) (some z) σ = some (some 33, σ) := by
  unfold fc_X10_find bc_X10_find_0
  rw [b0, vl_eq, c_bucket, bd2_eq, nn_eq, b1, em, n_ix hm (by omega), vl_eq, n_cl (by omega), hn]
  unfold bc_X10_find_17
  rw [show lp (fun w : ((Option Nat) × cl_S) => lc_X10_find_17 31 k n (some x) (some y) (some z) w.1 w.2) (none, σ) = some (.inr (none, σ)) from lp_end (by
    show lc_X10_find_17 31 k n (some x) (some y) (some z) none σ = _
    unfold lc_X10_find_17
    rw [if_pos rfl])]
  show vl (σ.2.2.1 31 4) (fun r => some (r, σ)) = _
  rw [h4, vl_eq]
end Z2_F7
