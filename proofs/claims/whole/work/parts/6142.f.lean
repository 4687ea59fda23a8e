section Z2_F
variable {σ σ' : cl_S}
/-- a new array, kept in a field -/
def iA (σ : cl_S) (t n a f : Nat) : cl_S := cl_wr (cl_nw σ t n n) a f (some σ.2.2.2.2.1)
theorem iA_n (σ : cl_S) (t n a f : Nat) : (iA σ t n a f).2.2.2.2.1 = σ.2.2.2.2.1 + 1 := rfl
theorem iA_c (σ : cl_S) (t n a f : Nat) : (iA σ t n a f).2.2.2.2.2.1 = σ.2.2.2.2.2.1 - 1 := rfl
theorem iA_s (σ : cl_S) (t n a f : Nat) : (iA σ t n a f).2.2.2.2.2.2 = σ.2.2.2.2.2.2 - n := rfl
theorem i_arr {α : Type} {σ : cl_S} {v : Int32} {t n a f : Nat} {K : cl_S → Option α} (hv : v = nI n) (hn : n ≤ 67108864) (hc : 1 ≤ σ.2.2.2.2.2.1) (hs : n ≤ σ.2.2.2.2.2.2) : nag v (al σ v.toNatClampNeg (vl σ.2.2.2.2.1 (fun a1 => vl (cl_nw σ t v.toNatClampNeg v.toNatClampNeg) (fun σ2 => vl (cl_wr σ2 a f (some a1)) K)))) = K (iA σ t n a f) := by
  subst hv
  have e : (nI n).toNatClampNeg = n := n_cl (by omega)
  unfold nag al
  rw [e, if_neg (fun w => by
    rcases w with w | w
    · exact n_nneg (by omega) w
    · omega), if_pos ⟨hc, hs⟩, vln, vln, vln]
  rfl
theorem i_obj {α : Type} {σ : cl_S} {t N : Nat} {K : Nat → cl_S → Option α} (hc : 1 ≤ σ.2.2.2.2.2.1) (hs : N ≤ σ.2.2.2.2.2.2) : al σ N (vl σ.2.2.2.2.1 (fun a1 => vl (cl_nw σ t 0 N) (fun σ2 => K a1 σ2))) = K σ.2.2.2.2.1 (cl_nw σ t 0 N) := by
  unfold al
  rw [if_pos ⟨hc, hs⟩, vln, vln]
theorem i_seal {α : Type} {σ : cl_S} {a ci : Nat} {x : Option α} (h : ∀ e ∈ cl_layL.getD ci [], σ.2.2.1 a e.1 = some (cl_tgt a e) ∧ σ.2.2.2.1 (cl_tgt a e) = (e.2.2.2.1, cl_ll a e)) (h9 : ci = 9 → ¬ σ.1 a 6 = 0) : sealed σ a ci x = x := by
  unfold sealed
  exact if_pos ⟨h, h9⟩
/-- the lexer -/
def iX4 (a : Nat) (σ : cl_S) : cl_S := iA (iA (iA (iA σ 3 6000 a 0) 1 6001 a 3) 1 6001 a 4) 2 6001 a 5
theorem x4_i (a : Nat) (hc : 4 ≤ σ.2.2.2.2.2.1) (hs : 24003 ≤ σ.2.2.2.2.2.2) : fc_X4_init a σ = some (iX4 a σ) := by
  unfold fc_X4_init bc_X4_init_0
  rw [i_arr (v := (6000:Int32)) (n := 6000) rfl (by omega) (by omega) (by omega), i_arr (v := (6001:Int32)) (n := 6001) rfl (by omega) (by rw [iA_c]; omega) (by rw [iA_s]; omega), i_arr (v := (6001:Int32)) (n := 6001) rfl (by omega) (by simp only [iA_c]; omega) (by simp only [iA_s]; omega), i_arr (v := (6001:Int32)) (n := 6001) rfl (by omega) (by simp only [iA_c]; omega) (by simp only [iA_s]; omega)]
  rfl
/-- the checker -/
def iX7 (a : Nat) (σ : cl_S) : cl_S := iA (iA σ 1 2048 a 0) 1 2048 a 1
theorem x7_i (a : Nat) (hc : 2 ≤ σ.2.2.2.2.2.1) (hs : 4096 ≤ σ.2.2.2.2.2.2) : fc_X7_init a σ = some (iX7 a σ) := by
  unfold fc_X7_init bc_X7_init_0
  rw [i_arr (v := (2048:Int32)) (n := 2048) rfl (by omega) (by omega) (by omega), i_arr (v := (2048:Int32)) (n := 2048) rfl (by omega) (by rw [iA_c]; omega) (by rw [iA_s]; omega)]
  rfl
/-- the core -/
def iX2 (a : Nat) (σ : cl_S) : cl_S := iA (iA σ 1 2048 a 0) 1 16 a 1
theorem x2_i (a : Nat) (hc : 2 ≤ σ.2.2.2.2.2.1) (hs : 2064 ≤ σ.2.2.2.2.2.2) : fc_X2_init a σ = some (iX2 a σ) := by
  unfold fc_X2_init bc_X2_init_0
  rw [i_arr (v := (2048:Int32)) (n := 2048) rfl (by omega) (by omega) (by omega), i_arr (v := (16:Int32)) (n := 16) rfl (by omega) (by rw [iA_c]; omega) (by rw [iA_s]; omega)]
  rfl
/-- the config -/
def iX1 (a : Nat) (σ : cl_S) : cl_S := iA (iA (iA (iA (iA (iA (iA (iA (iA (iA σ 1 8 a 1) 1 8 a 2) 1 8 a 3) 1 8 a 4) 1 16 a 6) 1 16 a 7) 1 16 a 8) 1 32 a 10) 1 32 a 11) 1 0 a 12
theorem x1_i (a : Nat) (hc : 10 ≤ σ.2.2.2.2.2.1) (hs : 144 ≤ σ.2.2.2.2.2.2) : fc_X1_init a σ = some (iX1 a σ) := by
  unfold fc_X1_init bc_X1_init_0
  rw [i_arr (v := (8:Int32)) (n := 8) rfl (by omega) (by omega) (by omega), i_arr (v := (8:Int32)) (n := 8) rfl (by omega) (by simp only [iA_c]; omega) (by simp only [iA_s]; omega), i_arr (v := (8:Int32)) (n := 8) rfl (by omega) (by simp only [iA_c]; omega) (by simp only [iA_s]; omega), i_arr (v := (8:Int32)) (n := 8) rfl (by omega) (by simp only [iA_c]; omega) (by simp only [iA_s]; omega), i_arr (v := (16:Int32)) (n := 16) rfl (by omega) (by simp only [iA_c]; omega) (by simp only [iA_s]; omega), i_arr (v := (16:Int32)) (n := 16) rfl (by omega) (by simp only [iA_c]; omega) (by simp only [iA_s]; omega), i_arr (v := (16:Int32)) (n := 16) rfl (by omega) (by simp only [iA_c]; omega) (by simp only [iA_s]; omega), i_arr (v := (32:Int32)) (n := 32) rfl (by omega) (by simp only [iA_c]; omega) (by simp only [iA_s]; omega), i_arr (v := (32:Int32)) (n := 32) rfl (by omega) (by simp only [iA_c]; omega) (by simp only [iA_s]; omega), i_arr (v := (0:Int32)) (n := 0) rfl (by omega) (by simp only [iA_c]; omega) (by simp only [iA_s]; omega)]
  rfl
/-- a table -/
def iX8 (a : Nat) (x1 : Option Nat) (lim sl : Nat) (x4 : Int32) (σ : cl_S) : cl_S := iA (iA (cl_w (cl_w (cl_wr σ a 0 x1) a 1 (nI lim)) a 2 x4) 4 (lim + 1) a 3) 1 sl a 4
theorem x8_i (a : Nat) (x1 : Option Nat) (lim sl : Nat) (x4 : Int32) (h4 : x4 = 0 ∨ x4 = 1) (hl : lim < 100000) (hl2 : sl < 100000) (hc : 2 ≤ σ.2.2.2.2.2.1) (hs : lim + 1 + sl ≤ σ.2.2.2.2.2.2) : fc_X8_init a x1 (nI lim) (nI sl) x4 σ = some (iX8 a x1 lim sl x4 σ) := by
  have nb4 : ∀ {α : Type} (z : Option α), nb x4 z = z := fun z => by
    rcases h4 with rfl | rfl
    · exact nb_0 _
    · exact nb_1 _
  have e1 : nI lim + (1:Int32) = nI (lim + 1) := n_add lim 1
  have rC : (cl_w (cl_w (cl_wr σ a 0 x1) a 1 (nI lim)) a 2 x4).2.2.2.2.2.1 = σ.2.2.2.2.2.1 := rfl
  have rS : (cl_w (cl_w (cl_wr σ a 0 x1) a 1 (nI lim)) a 2 x4).2.2.2.2.2.2 = σ.2.2.2.2.2.2 := rfl
  unfold fc_X8_init bc_X8_init_0
  rw [vln, vln, nb4, vln, e1, i_arr (n := lim + 1) rfl (by omega) (by rw [rC]; omega) (by rw [rS]; omega), i_arr (n := sl) rfl (by omega) (by rw [iA_c, rC]; omega) (by rw [iA_s, rS]; omega)]
  rfl
end Z2_F
