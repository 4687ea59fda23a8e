section Z2_F2
variable {σ σ' : cl_S}
abbrev sCond (σ : cl_S) (a ci : Nat) : Prop := ∀ e ∈ cl_layL.getD ci [], σ.2.2.1 a e.1 = some (cl_tgt a e) ∧ σ.2.2.2.1 (cl_tgt a e) = (e.2.2.2.1, cl_ll a e)
theorem nw_n (σ : cl_S) (t n N : Nat) : (cl_nw σ t n N).2.2.2.2.1 = σ.2.2.2.2.1 + 1 := rfl
theorem nw_c (σ : cl_S) (t n N : Nat) : (cl_nw σ t n N).2.2.2.2.2.1 = σ.2.2.2.2.2.1 - 1 := rfl
theorem nw_s (σ : cl_S) (t n N : Nat) : (cl_nw σ t n N).2.2.2.2.2.2 = σ.2.2.2.2.2.2 - N := rfl
theorem sel_r (σ : cl_S) (a ci : Nat) : (cl_seal σ a ci).2.2.2.2 = σ.2.2.2.2 := rfl
theorem wr_r (σ : cl_S) (a k : Nat) (v : Option Nat) : (cl_wr σ a k v).2.2.2 = σ.2.2.2 := rfl
theorem w_rr (σ : cl_S) (a k : Nat) (v : Int32) : (cl_w σ a k v).2 = σ.2 := rfl
/-- the core's place within a partition -/
def iX6a (a : Nat) (σ : cl_S) : cl_S := iX2 σ.2.2.2.2.1 (cl_nw σ 118 0 9)
def iX6b (a : Nat) (x1 : Option Nat) (x2 : Int32) (σ : cl_S) : cl_S := cl_w (cl_wr (iA (iA (iA (iA (iA (cl_wr (cl_seal (iX6a a σ) σ.2.2.2.2.1 2) a 1 (some σ.2.2.2.2.1)) 1 200 a 4) 4 200 a 5) 1 64 a 7) 4 64 a 9) 4 100 a 11) a 0 x1) a 3 x2
def iX6c (a : Nat) (x1 : Option Nat) (σ : cl_S) : cl_S := iX8 σ.2.2.2.2.1 x1 100 256 (0:Int32) (cl_nw σ 124 0 6)
def iX6d (a b : Nat) (σ : cl_S) : cl_S := cl_wr (cl_wr (cl_wr σ a 15 (σ.2.2.1 31 4)) a 16 (σ.2.2.1 31 4)) a 17 (σ.2.2.1 31 4)
def iX6 (a : Nat) (x2 : Int32) (σ : cl_S) : cl_S := iX6d a 0 (cl_wr (cl_seal (iX6c a (some 31) (iX6b a (some 31) x2 σ)) (iX6b a (some 31) x2 σ).2.2.2.2.1 8) a 2 (some (iX6b a (some 31) x2 σ).2.2.2.2.1))
theorem x6a_r (a : Nat) (σ : cl_S) : (iX6a a σ).2.2.2.2 = (σ.2.2.2.2.1 + 3, σ.2.2.2.2.2.1 - 1 - 1 - 1, σ.2.2.2.2.2.2 - 9 - 2048 - 16) := rfl
theorem x6b_r (a : Nat) (x1 : Option Nat) (x2 : Int32) (σ : cl_S) : (iX6b a x1 x2 σ).2.2.2.2 = (σ.2.2.2.2.1 + 3 + 5, σ.2.2.2.2.2.1 - 1 - 1 - 1 - 1 - 1 - 1 - 1 - 1, σ.2.2.2.2.2.2 - 9 - 2048 - 16 - 200 - 200 - 64 - 64 - 100) := rfl
theorem x6_i (a : Nat) (x2 : Int32) (ha : a ≠ 31) (hc : 11 ≤ σ.2.2.2.2.2.1) (hs : 3064 ≤ σ.2.2.2.2.2.2) (c1 : sCond (iX6a a σ) σ.2.2.2.2.1 2) (c2 : sCond (iX6c a (some 31) (iX6b a (some 31) x2 σ)) (iX6b a (some 31) x2 σ).2.2.2.2.1 8) : fc_X6_init a (some 31) x2 σ = some (iX6 a x2 σ) := by
  have e := x6a_r a σ
  have e2 := x6b_r a (some 31) x2 σ
  unfold fc_X6_init bc_X6_init_0
  rw [i_obj (by omega) (by omega), x2_i _ (by rw [nw_c]; omega) (by rw [nw_s]; omega), bd1n]
  rw [show iX2 σ.2.2.2.2.1 (cl_nw σ 118 0 9) = iX6a a σ from rfl, i_seal c1 (fun q => absurd q (by decide)), vln, vln]
  rw [i_arr (v := (200:Int32)) (n := 200) rfl (by omega) (by simp only [wr_r, sel_r, e]; omega) (by simp only [wr_r, sel_r, e]; omega), i_arr (v := (200:Int32)) (n := 200) rfl (by omega) (by simp only [iA_c, wr_r, sel_r, e]; omega) (by simp only [iA_s, wr_r, sel_r, e]; omega), i_arr (v := (64:Int32)) (n := 64) rfl (by omega) (by simp only [iA_c, wr_r, sel_r, e]; omega) (by simp only [iA_s, wr_r, sel_r, e]; omega), i_arr (v := (64:Int32)) (n := 64) rfl (by omega) (by simp only [iA_c, wr_r, sel_r, e]; omega) (by simp only [iA_s, wr_r, sel_r, e]; omega), i_arr (v := (100:Int32)) (n := 100) rfl (by omega) (by simp only [iA_c, wr_r, sel_r, e]; omega) (by simp only [iA_s, wr_r, sel_r, e]; omega), vln, vln]
  rw [show cl_w (cl_wr (iA (iA (iA (iA (iA (cl_wr (cl_seal (iX6a a σ) σ.2.2.2.2.1 2) a 1 (some σ.2.2.2.2.1)) 1 200 a 4) 4 200 a 5) 1 64 a 7) 4 64 a 9) 4 100 a 11) a 0 (some 31)) a 3 x2 = iX6b a (some 31) x2 σ from rfl]
  rw [i_obj (by rw [e2]; show 1 ≤ σ.2.2.2.2.2.1 - 1 - 1 - 1 - 1 - 1 - 1 - 1 - 1; omega) (by rw [e2]; show 6 ≤ σ.2.2.2.2.2.2 - 9 - 2048 - 16 - 200 - 200 - 64 - 64 - 100; omega)]
  rw [show fc_X8_init (iX6b a (some 31) x2 σ).2.2.2.2.1 (some 31) (100:Int32) (256:Int32) (0:Int32) (cl_nw (iX6b a (some 31) x2 σ) 124 0 6) = some (iX6c a (some 31) (iX6b a (some 31) x2 σ)) from x8_i _ _ 100 256 0 (Or.inl rfl) (by omega) (by omega) (by rw [nw_c, e2]; show 2 ≤ σ.2.2.2.2.2.1 - 1 - 1 - 1 - 1 - 1 - 1 - 1 - 1 - 1; omega) (by rw [nw_s, e2]; show 100 + 1 + 256 ≤ σ.2.2.2.2.2.2 - 9 - 2048 - 16 - 200 - 200 - 64 - 64 - 100 - 6; omega), bd1n, i_seal c2 (fun q => absurd q (by decide)), vln, vln, nnn, vln, vln, r_r (show 31 ≠ a from fun q => ha q.symm), vln, vln, r_r (show 31 ≠ a from fun q => ha q.symm), r_r (show 31 ≠ a from fun q => ha q.symm), vln, vln]
  rfl
end Z2_F2
