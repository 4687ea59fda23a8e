section Z2_F6
variable {σ σ' : cl_S}
/-! LAYER 2: the assembler's constructor -/
def iNm (b n : Nat) (σ : cl_S) : cl_S := (σ.1, fun c j => if c = b ∧ 0 < j ∧ j < n then Int64.ofNat (enc 256 (opN j)) else σ.2.1 c j, σ.2.2)
theorem nmc_st : ∀ op, op < 42 → 0 < op → ∀ j, j < (opN op).length → nm_tab.getD ((op - 1) * 6 + j) 0 ≠ (32:Int32) ∧ ((Int64.ofNat (enc 256 ((opN op).take j)) <<< ((8:Int32).toInt64 &&& 63)) ||| ((nm_tab.getD ((op - 1) * 6 + j) 0).toInt64)) = Int64.ofNat (enc 256 ((opN op).take (j + 1))) := by decide +kernel
theorem wl_n (σ : cl_S) (b k : Nat) (v : Int64) : (cl_wl σ b k v).2.2 = σ.2.2 := rfl
theorem wl_s (σ : cl_S) (b k : Nat) (v : Int64) : (cl_wl σ b k v).2.1 b k = v := up2_s
theorem wl_ww (σ : cl_S) (b k : Nat) (v w : Int64) : cl_wl (cl_wl σ b k v) b k w = cl_wl σ b k w := by
  unfold cl_wl
  refine Prod.ext rfl (Prod.ext ?_ rfl)
  funext c j
  show up2 (up2 σ.2.1 b k v) b k w c j = up2 σ.2.1 b k w c j
  unfold up2
  by_cases q : c = b ∧ j = k
  · rw [if_pos q, if_pos q]
  · rw [if_neg q, if_neg q, if_neg q]
theorem x0_oct {op j : Nat} (h1 : 0 < op) (h2 : op < 42) (hj : j < 6) (σ : cl_S) : fc_X0_nameOctet (nI op) (nI j) σ = some (nm_tab.getD ((op - 1) * 6 + j) 0, σ) := by
  unfold fc_X0_nameOctet
  rw [show nI op - (1:Int32) = nI (op - 1) from n_sub (a := op) (b := 1) h1, show nI (op - 1) * (6:Int32) = nI ((op - 1) * 6) from n_mul _ 6, n_add, n_ix (show (op - 1) * 6 + j < 246 by omega) (by omega), n_cl (by omega)]
theorem x0_in {a b op : Nat} (h1 : 0 < op) (h2 : op < 42) (hb : σ.2.2.1 a 1 = some b) (hT : (σ.2.2.2.1 b).2 = 42) :
    ∀ m j, j + m = (opN op).length → ∃ y, lp (fun z : (Int32 × cl_S) => lc_X0_init_94i86 a (nI op) z.1 z.2) (nI j, cl_wl σ b op (Int64.ofNat (enc 256 ((opN op).take j)))) = some (y, cl_wl σ b op (Int64.ofNat (enc 256 (opN op)))) := by
  obtain ⟨n6, -⟩ := nm_len op h2 h1
  intro m
  induction m with
  | zero =>
    intro j hj
    have ej : j = (opN op).length := by omega
    refine ⟨nI j, lp_end ?_⟩
    show lc_X0_init_94i86 a (nI op) (nI j) _ = _
    unfold lc_X0_init_94i86
    have et : (opN op).take j = opN op := by rw [ej, List.take_length]
    rw [et]
    by_cases c : (6:Int32) ≤ nI j
    · rw [if_pos c]
    · rw [if_neg c]
      have j6 : j < 6 := by
        apply Classical.byContradiction
        intro q
        exact c ((n_le (a := 6) (b := j) (by omega) (by omega)).mpr (by omega))
      have := nm_end op h2 h1 (by omega)
      rw [← ej] at this
      rw [x0_oct h1 h2 j6, bd2n, this, if_pos rfl]
  | succ m ih =>
    intro j hj
    obtain ⟨a1, a2⟩ := nmc_st op h2 h1 j (by omega)
    obtain ⟨y, hy⟩ := ih (j + 1) (by omega)
    refine ⟨y, (lp_next ?_).trans hy⟩
    show lc_X0_init_94i86 a (nI op) (nI j) (cl_wl σ b op (Int64.ofNat (enc 256 ((opN op).take j)))) = _
    generalize Int64.ofNat (enc 256 ((opN op).take j)) = v at a2
    unfold lc_X0_init_94i86
    rw [if_neg (show ¬ (6:Int32) ≤ nI j from fun q => by have := (n_le (a := 6) (b := j) (by omega) (by omega)).mp q; omega), x0_oct h1 h2 (show j < 6 by omega), bd2n, if_neg a1, vln, vln, wl_n, hb, nnn, hT, n_ix (show op < 42 from h2) (by omega), x0_oct h1 h2 (show j < 6 by omega), bd2n, nnn, wl_n, hT, n_ix (show op < 42 from h2) (by omega), vln, n_cl (show op < 2147483648 by omega), wl_s, wl_ww, a2, vln, show nI j + (1:Int32) = nI (j + 1) from n_add j 1]
theorem iNm_0 {b op : Nat} (hz : σ.2.1 b op = 0) : cl_wl (iNm b op σ) b op (Int64.ofNat (enc 256 [])) = iNm b op σ := by
  refine Prod.ext rfl (Prod.ext ?_ rfl)
  funext c j
  show up2 (iNm b op σ).2.1 b op _ c j = _
  unfold up2
  by_cases q : c = b ∧ j = op
  · rw [if_pos q, q.1, q.2]
    show _ = if b = b ∧ 0 < op ∧ op < op then _ else σ.2.1 b op
    rw [if_neg (fun w => by omega), hz]; rfl
  · rw [if_neg q]
theorem iNm_s {b op : Nat} (h : 0 < op) : cl_wl (iNm b op σ) b op (Int64.ofNat (enc 256 (opN op))) = iNm b (op + 1) σ := by
  refine Prod.ext rfl (Prod.ext ?_ rfl)
  funext c j
  show up2 (iNm b op σ).2.1 b op _ c j = if c = b ∧ 0 < j ∧ j < op + 1 then Int64.ofNat (enc 256 (opN j)) else σ.2.1 c j
  unfold up2
  show (if c = b ∧ j = op then _ else if c = b ∧ 0 < j ∧ j < op then Int64.ofNat (enc 256 (opN j)) else σ.2.1 c j) = _
  by_cases q : c = b ∧ j = op
  · rw [if_pos q, if_pos ⟨q.1, by omega, by omega⟩, q.2]
  · rw [if_neg q]
    by_cases q2 : c = b ∧ 0 < j ∧ j < op
    · rw [if_pos q2, if_pos ⟨q2.1, q2.2.1, by omega⟩]
    · rw [if_neg q2, if_neg (fun w => by
        by_cases q3 : j = op
        · exact q ⟨w.1, q3⟩
        · exact q2 ⟨w.1, w.2.1, by omega⟩)]
theorem iNm_1 (b : Nat) (σ : cl_S) : iNm b 1 σ = σ := by
  refine Prod.ext rfl (Prod.ext ?_ rfl)
  funext c j
  exact if_neg (fun w => by omega)
theorem x0_lp {a b : Nat} (hb : σ.2.2.1 a 1 = some b) (hT : (σ.2.2.2.1 b).2 = 42) (hz : ∀ j, σ.2.1 b j = 0) : bc_X0_init_86 a (1:Int32) σ = some (iNm b 42 σ) := by
  obtain ⟨τ', e, H⟩ := lp_cnt (S := cl_S) (f := fun x σ => lc_X0_init_86 a x σ) (n := 42) (fun i τ' => 0 < i ∧ τ' = iNm b i σ) (by
    rintro i _ hi ⟨h0, rfl⟩
    refine ⟨_, ?_, by omega, rfl⟩
    show lc_X0_init_86 a (nI i) _ = _
    unfold lc_X0_init_86 bc_X0_init_94i86
    obtain ⟨y, hy⟩ := x0_in (σ := iNm b i σ) (a := a) (b := b) h0 hi hb hT (opN i).length 0 (by omega)
    rw [List.take_zero, iNm_0 (hz i), iNm_s h0] at hy
    rw [if_neg (show ¬ (41:Int32) < nI i from fun w => by have := (n_lt (a := 41) (b := i) (by omega) (by omega)).mp w; omega), show lp (fun z : (Int32 × cl_S) => lc_X0_init_94i86 a (nI i) z.1 z.2) ((0:Int32), iNm b i σ) = _ from hy, Option.bind_some]
    show ec_X0_init_94i86 a (nI i) y _ = _
    unfold ec_X0_init_94i86 bc_X0_init_138i86
    rw [vln, show nI i + (1:Int32) = nI (i + 1) from n_add i 1]) (by
    rintro _ ⟨-, rfl⟩
    show lc_X0_init_86 a (nI 42) _ = _
    unfold lc_X0_init_86
    rw [if_pos (show (41:Int32) < nI 42 by decide)]) 41 1 σ (by omega) (by omega) ⟨by omega, (iNm_1 b σ).symm⟩
  unfold bc_X0_init_86
  rw [show lp (fun z : (Int32 × cl_S) => lc_X0_init_86 a z.1 z.2) ((1:Int32), σ) = _ from e, Option.bind_some, H.2]
  rfl
def iX0a (a : Nat) (x1 : Option Nat) (σ : cl_S) : cl_S := cl_wr (iA (cl_w (iA (iA (iA (iA (iA (iA (iA σ 2 42 a 1) 1 2048 a 3) 2 200 a 5) 1 200 a 6) 2 2048 a 8) 1 2048 a 9) 1 2048 a 10) a 13 (-1)) 3 40 a 14) a 0 x1
def iX0 (a : Nat) (x1 : Option Nat) (σ : cl_S) : cl_S := iNm σ.2.2.2.2.1 42 (iX0a a x1 σ)
theorem x0_i (a : Nat) (x1 : Option Nat) (hc : 9 ≤ σ.2.2.2.2.2.1) (hs : 9000 ≤ σ.2.2.2.2.2.2) (hb : (iX0a a x1 σ).2.2.1 a 1 = some σ.2.2.2.2.1) (hT : ((iX0a a x1 σ).2.2.2.1 σ.2.2.2.2.1).2 = 42) (hz : ∀ j, (iX0a a x1 σ).2.1 σ.2.2.2.2.1 j = 0) : fc_X0_init a x1 σ = some (iX0 a x1 σ) := by
  unfold fc_X0_init bc_X0_init_0
  rw [i_arr (v := (42:Int32)) (n := 42) rfl (by omega) (by omega) (by omega), i_arr (v := (2048:Int32)) (n := 2048) rfl (by omega) (by simp only [iA_c]; omega) (by simp only [iA_s]; omega), i_arr (v := (200:Int32)) (n := 200) rfl (by omega) (by simp only [iA_c]; omega) (by simp only [iA_s]; omega), i_arr (v := (200:Int32)) (n := 200) rfl (by omega) (by simp only [iA_c]; omega) (by simp only [iA_s]; omega), i_arr (v := (2048:Int32)) (n := 2048) rfl (by omega) (by simp only [iA_c]; omega) (by simp only [iA_s]; omega), i_arr (v := (2048:Int32)) (n := 2048) rfl (by omega) (by simp only [iA_c]; omega) (by simp only [iA_s]; omega), i_arr (v := (2048:Int32)) (n := 2048) rfl (by omega) (by simp only [iA_c]; omega) (by simp only [iA_s]; omega), vln, i_arr (v := (40:Int32)) (n := 40) rfl (by omega) (by simp only [w_rr, iA_c]; omega) (by simp only [w_rr, iA_s]; omega), vln]
  exact x0_lp hb hT hz
end Z2_F6
