section Z2_F3
variable {σ σ' : cl_S}
def iFill (b : Nat) (x : Option Nat) : Nat → cl_S → cl_S
  | 0, σ => σ
  | n + 1, σ => cl_wr (iFill b x n σ) b n x
theorem iFill_r (b : Nat) (x : Option Nat) (n : Nat) (σ : cl_S) : (iFill b x n σ).2.2.2 = σ.2.2.2 ∧ (iFill b x n σ).1 = σ.1 ∧ (iFill b x n σ).2.1 = σ.2.1 ∧ ∀ a, a ≠ b → (iFill b x n σ).2.2.1 a = σ.2.2.1 a := by
  induction n with
  | zero => exact ⟨rfl, rfl, rfl, fun _ _ => rfl⟩
  | succ n ih =>
    refine ⟨ih.1, ih.2.1, ih.2.2.1, fun a ha => ?_⟩
    show (cl_wr (iFill b x n σ) b n x).2.2.1 a = _
    rw [r_r ha]; exact ih.2.2.2 a ha
/-- a disk -/
def iX3 (a : Nat) (x1 : Option Nat) (σ : cl_S) : cl_S := iFill (σ.2.2.2.2.1 + 1) x1 64 (cl_wr (iA (iA σ 1 64 a 1) 4 64 a 2) a 0 x1)
theorem x3_i (a : Nat) (x1 : Option Nat) (ha : a < σ.2.2.2.2.1) (hc : 2 ≤ σ.2.2.2.2.2.1) (hs : 128 ≤ σ.2.2.2.2.2.2) : fc_X3_init a x1 σ = some (iX3 a x1 σ) := by
  unfold fc_X3_init bc_X3_init_0
  rw [i_arr (v := (64:Int32)) (n := 64) rfl (by omega) (by omega) (by omega), i_arr (v := (64:Int32)) (n := 64) rfl (by omega) (by rw [iA_c]; omega) (by rw [iA_s]; omega), vln]
  have h2 : (cl_wr (iA (iA σ 1 64 a 1) 4 64 a 2) a 0 x1).2.2.1 a 2 = some (σ.2.2.2.2.1 + 1) := by
    rw [r_rk (by decide)]
    show (cl_wr (cl_nw (iA σ 1 64 a 1) 4 64 64) a 2 (some (σ.2.2.2.2.1 + 1))).2.2.1 a 2 = _
    rw [r_rs]
  have hT : (cl_wr (iA (iA σ 1 64 a 1) 4 64 a 2) a 0 x1).2.2.2.1 (σ.2.2.2.2.1 + 1) = (4, 64) := by
    show va_up (iA σ 1 64 a 1).2.2.2.1 (σ.2.2.2.2.1 + 1) (4, 64) (σ.2.2.2.2.1 + 1) = _
    unfold va_up
    rw [if_pos rfl]
  unfold iX3
  generalize cl_wr (iA (iA σ 1 64 a 1) 4 64 a 2) a 0 x1 = τ at h2 hT
  obtain ⟨τ', e, H⟩ := lp_cnt (S := cl_S) (f := fun x σ => lc_X3_init_28 a x1 x σ) (n := 64) (fun i τ' => τ' = iFill (σ.2.2.2.2.1 + 1) x1 i τ) (by
    rintro i _ hi rfl
    obtain ⟨f1, f2, f3, f4⟩ := iFill_r (σ.2.2.2.2.1 + 1) x1 i τ
    refine ⟨_, ?_, rfl⟩
    show lc_X3_init_28 a x1 (nI i) _ = _
    unfold lc_X3_init_28
    rw [if_neg (show ¬ (64:Int32) ≤ nI i from fun w => by have := (n_le (a := 64) (b := i) (by omega) (by omega)).mp w; omega), vln, f4 a (by omega), h2, nnn, f1, hT, n_ix hi (by omega), vln, n_cl (show i < 2147483648 by omega), vln, show nI i + (1:Int32) = nI (i + 1) from n_add i 1]
    rfl) (by
    rintro _ rfl
    show lc_X3_init_28 a x1 (nI 64) _ = _
    unfold lc_X3_init_28
    rw [if_pos (show (64:Int32) ≤ nI 64 from Int32.le_refl _)]) 64 0 τ (by omega) (by omega) rfl
  unfold bc_X3_init_28
  rw [show lp (fun z : (Int32 × cl_S) => lc_X3_init_28 a x1 z.1 z.2) ((0:Int32), τ) = _ from e, Option.bind_some, H]
  rfl
/-- the partitions of a machine -/
def iP (b p : Nat) (σ : cl_S) : cl_S := cl_wr (cl_seal (iX6 σ.2.2.2.2.1 (nI p) (cl_nw σ 122 0 18)) σ.2.2.2.2.1 6) b p (some σ.2.2.2.2.1)
def iPs (b : Nat) : Nat → cl_S → cl_S
  | 0, σ => σ
  | p + 1, σ => iP b p (iPs b p σ)
abbrev okP (a b p : Nat) (τ : cl_S) : Prop := τ.2.2.1 a 4 = some b ∧ τ.2.2.2.2.1 ≠ 31 ∧ (12 ≤ τ.2.2.2.2.2.1 ∧ 3082 ≤ τ.2.2.2.2.2.2) ∧ sCond (iX6a τ.2.2.2.2.1 (cl_nw τ 122 0 18)) (τ.2.2.2.2.1 + 1) 2 ∧ sCond (iX6c τ.2.2.2.2.1 (some 31) (iX6b τ.2.2.2.2.1 (some 31) (nI p) (cl_nw τ 122 0 18))) (iX6b τ.2.2.2.2.1 (some 31) (nI p) (cl_nw τ 122 0 18)).2.2.2.2.1 8 ∧ sCond (iX6 τ.2.2.2.2.1 (nI p) (cl_nw τ 122 0 18)) τ.2.2.2.2.1 6 ∧ (cl_seal (iX6 τ.2.2.2.2.1 (nI p) (cl_nw τ 122 0 18)) τ.2.2.2.2.1 6).2.2.2.1 b = (5, 8)
theorem x5_lp {a b : Nat} (h : ∀ p, p < 8 → okP a b p (iPs b p σ)) : bc_X5_init_108 a (some 31) (0:Int32) σ = some (iPs b 8 σ) := by
  obtain ⟨τ', e, H⟩ := lp_cnt (S := cl_S) (f := fun x σ => lc_X5_init_108 a (some 31) x σ) (n := 8) (fun i τ' => τ' = iPs b i σ) (by
    rintro i _ hi rfl
    obtain ⟨o1, o2, ⟨o3, o4⟩, o5, o6, o7, o8⟩ := h i hi
    refine ⟨_, ?_, rfl⟩
    show lc_X5_init_108 a (some 31) (nI i) _ = some (.inl (nI (i + 1), iP b i (iPs b i σ)))
    generalize iPs b i σ = τ at *
    unfold lc_X5_init_108
    rw [if_neg (show ¬ (8:Int32) ≤ nI i from fun w => by have := (n_le (a := 8) (b := i) (by omega) (by omega)).mp w; omega), vln, i_obj (by omega) (by omega), x6_i _ _ o2 (by rw [nw_c]; omega) (by rw [nw_s]; omega) o5 o6, bd1n, i_seal o7 (fun q => absurd q (by decide)), vln, o1, nnn, o8, n_ix hi (by omega), vln, n_cl (show i < 2147483648 by omega), vln, show nI i + (1:Int32) = nI (i + 1) from n_add i 1]
    rfl) (by
    rintro _ rfl
    show lc_X5_init_108 a (some 31) (nI 8) _ = _
    unfold lc_X5_init_108
    rw [if_pos (show (8:Int32) ≤ nI 8 from Int32.le_refl _)]) 8 0 σ (by omega) (by omega) rfl
  unfold bc_X5_init_108
  rw [show lp (fun z : (Int32 × cl_S) => lc_X5_init_108 a (some 31) z.1 z.2) ((0:Int32), σ) = _ from e, Option.bind_some, H]
  rfl
theorem i_arrm {α : Type} {σ : cl_S} {v w : Int32} {m k a f : Nat} {K : cl_S → Option α} (hv : v = nI m) (hw : w = nI k) (hm : m ≤ 67108864) (hk : k ≤ 67108864) (hc : 1 + m ≤ σ.2.2.2.2.2.1) (hs : m + m * k ≤ σ.2.2.2.2.2.2) : nag v (nag w (alm σ v.toNatClampNeg w.toNatClampNeg (vl σ.2.2.2.2.1 (fun a1 => vl (cl_nwm σ v.toNatClampNeg w.toNatClampNeg) (fun σ2 => vl (cl_wr σ2 a f (some a1)) K))))) = K (cl_wr (cl_nwm σ m k) a f (some σ.2.2.2.2.1)) := by
  subst hv hw
  have e : (nI m).toNatClampNeg = m := n_cl (by omega)
  have e2 : (nI k).toNatClampNeg = k := n_cl (by omega)
  unfold nag alm
  rw [e, e2, if_neg (fun w => by
    rcases w with w | w
    · exact n_nneg (by omega) w
    · omega), if_neg (fun w => by
    rcases w with w | w
    · exact n_nneg (by omega) w
    · omega), if_pos ⟨hc, hs⟩, vln, vln, vln]
/-- a machine: its config, then its rows, then its partitions -/
def iX5a (σ : cl_S) : cl_S := iX1 σ.2.2.2.2.1 (cl_nw σ 117 0 16)
def iX5b (a : Nat) (σ : cl_S) : cl_S := iA (cl_wr (cl_seal (iX5a σ) σ.2.2.2.2.1 1) a 3 (some σ.2.2.2.2.1)) 5 8 a 4
def iX5c (a : Nat) (x2 : Option Nat) (x3 : Int32) (σ : cl_S) : cl_S := cl_w (cl_wr (cl_wr (iA (iA (iA (iA (iA (iA (cl_wr (cl_nwm (iX5b a σ) 16 16) a 5 (some (iX5b a σ).2.2.2.2.1)) 1 16 a 6) 4 16 a 7) 1 500 a 16) 1 500 a 17) 1 500 a 18) 4 500 a 19) a 0 (some 31)) a 1 x2) a 2 x3
def iX5 (a : Nat) (x2 : Option Nat) (x3 : Int32) (σ : cl_S) : cl_S := iPs (σ.2.2.2.2.1 + 11) 8 (iX5c a x2 x3 σ)
theorem x5b_r (a : Nat) (σ : cl_S) : (iX5b a σ).2.2.2.2 = (σ.2.2.2.2.1 + 12, σ.2.2.2.2.2.1 - 1 - 1 - 1 - 1 - 1 - 1 - 1 - 1 - 1 - 1 - 1 - 1, σ.2.2.2.2.2.2 - 16 - 8 - 8 - 8 - 8 - 16 - 16 - 16 - 32 - 32 - 0 - 8) := rfl
theorem nwm_r (σ : cl_S) (m k : Nat) : (cl_nwm σ m k).2.2.2.2 = (σ.2.2.2.2.1 + 1 + m, σ.2.2.2.2.2.1 - (1 + m), σ.2.2.2.2.2.2 - (m + m * k)) := rfl
theorem x5_i (a : Nat) (x2 : Option Nat) (x3 : Int32) (h3 : x3 = 0 ∨ x3 = 1) (hc : 200 ≤ σ.2.2.2.2.2.1) (hs : 30000 ≤ σ.2.2.2.2.2.2) (c1 : sCond (iX5a σ) σ.2.2.2.2.1 1) (c2 : ∀ p, p < 8 → okP a (σ.2.2.2.2.1 + 11) p (iPs (σ.2.2.2.2.1 + 11) p (iX5c a x2 x3 σ))) : fc_X5_init a (some 31) x2 x3 σ = some (iX5 a x2 x3 σ) := by
  have nb3 : ∀ {α : Type} (z : Option α), nb x3 z = z := fun z => by
    rcases h3 with rfl | rfl
    · exact nb_0 _
    · exact nb_1 _
  have e := x5b_r a σ
  have ea : (iX5a σ).2.2.2.2 = (σ.2.2.2.2.1 + 11, σ.2.2.2.2.2.1 - 1 - 1 - 1 - 1 - 1 - 1 - 1 - 1 - 1 - 1 - 1, σ.2.2.2.2.2.2 - 16 - 8 - 8 - 8 - 8 - 16 - 16 - 16 - 32 - 32 - 0) := rfl
  unfold fc_X5_init bc_X5_init_0
  rw [i_obj (by omega) (by omega), x1_i _ (by rw [nw_c]; omega) (by rw [nw_s]; omega), bd1n, show iX1 σ.2.2.2.2.1 (cl_nw σ 117 0 16) = iX5a σ from rfl, i_seal c1 (fun q => absurd q (by decide)), vln, vln]
  rw [i_arr (v := (8:Int32)) (n := 8) rfl (by omega) (by simp only [wr_r, sel_r, ea]; omega) (by simp only [wr_r, sel_r, ea]; omega), show iA (cl_wr (cl_seal (iX5a σ) σ.2.2.2.2.1 1) a 3 (some σ.2.2.2.2.1)) 5 8 a 4 = iX5b a σ from rfl]
  rw [i_arrm (v := (16:Int32)) (w := (16:Int32)) (m := 16) (k := 16) rfl rfl (by omega) (by omega) (by simp only [e]; omega) (by simp only [e]; omega)]
  rw [i_arr (v := (16:Int32)) (n := 16) rfl (by omega) (by simp only [wr_r, nwm_r, e]; omega) (by simp only [wr_r, nwm_r, e]; omega), i_arr (v := (16:Int32)) (n := 16) rfl (by omega) (by simp only [iA_c, wr_r, nwm_r, e]; omega) (by simp only [iA_s, wr_r, nwm_r, e]; omega), i_arr (v := (500:Int32)) (n := 500) rfl (by omega) (by simp only [iA_c, wr_r, nwm_r, e]; omega) (by simp only [iA_s, wr_r, nwm_r, e]; omega), i_arr (v := (500:Int32)) (n := 500) rfl (by omega) (by simp only [iA_c, wr_r, nwm_r, e]; omega) (by simp only [iA_s, wr_r, nwm_r, e]; omega), i_arr (v := (500:Int32)) (n := 500) rfl (by omega) (by simp only [iA_c, wr_r, nwm_r, e]; omega) (by simp only [iA_s, wr_r, nwm_r, e]; omega), i_arr (v := (500:Int32)) (n := 500) rfl (by omega) (by simp only [iA_c, wr_r, nwm_r, e]; omega) (by simp only [iA_s, wr_r, nwm_r, e]; omega), vln, vln, nb3, vln]
  exact x5_lp c2
end Z2_F3
