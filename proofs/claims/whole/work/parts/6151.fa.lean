section Z2_FA
variable {σ σ' : cl_S}
theorem iA_L (σ : cl_S) (t n a f b j : Nat) : (iA σ t n a f).2.1 b j = if b = σ.2.2.2.2.1 then 0 else σ.2.1 b j := rfl
theorem x0_z (a : Nat) (x1 : Option Nat) (σ : cl_S) (j : Nat) : (iX0a a x1 σ).2.1 σ.2.2.2.2.1 j = 0 := by
  unfold iX0a
  show (iA (cl_w (iA (iA (iA (iA (iA (iA (iA σ 2 42 a 1) 1 2048 a 3) 2 200 a 5) 1 200 a 6) 2 2048 a 8) 1 2048 a 9) 1 2048 a 10) a 13 (-1)) 3 40 a 14).2.1 σ.2.2.2.2.1 j = 0
  rw [iA_L]
  show (if σ.2.2.2.2.1 = (iA (iA (iA (iA (iA (iA (iA σ 2 42 a 1) 1 2048 a 3) 2 200 a 5) 1 200 a 6) 2 2048 a 8) 1 2048 a 9) 1 2048 a 10).2.2.2.2.1 then (0:Int64) else (iA (iA (iA (iA (iA (iA (iA σ 2 42 a 1) 1 2048 a 3) 2 200 a 5) 1 200 a 6) 2 2048 a 8) 1 2048 a 9) 1 2048 a 10).2.1 σ.2.2.2.2.1 j) = 0
  simp only [iA_L, iA_n]
  simp
theorem q_4 : (cl_nw s8 119 0 3).2.2.1 31 4 = some 33 := by decide +kernel
theorem q_4b : (cl_nw s9 119 0 3).2.2.1 31 4 = some 33 := by decide +kernel
theorem q_4c : (cl_nw (cl_nw s11 121 0 20) 119 0 3).2.2.1 31 4 = some 33 := by decide +kernel
theorem x11_i : fc_X11_init 0 s0 = some s13 := by
  unfold fc_X11_init bc_X11_init_0
  rw [i_obj (by decide +kernel) (by decide +kernel), show s0.2.2.2.2.1 = 1 by decide +kernel, x4_i 1 (by decide +kernel) (by decide +kernel), bd1n, i_seal (by decide +kernel) (fun q => absurd q (by decide)), vln, vln, show cl_wr (cl_seal (iX4 1 (cl_nw s0 120 0 7)) 1 4) 0 0 (some 1) = s1 from rfl]
  rw [i_obj (by decide +kernel) (by decide +kernel), n1, vln, show (cl_nw s1 116 0 16).2.2.1 0 0 = some 1 by decide +kernel, x0_i 6 (some 1) (by decide +kernel) (by decide +kernel) (by decide +kernel) (by decide +kernel) (x0_z _ _ _), bd1n, i_seal (by decide +kernel) (fun q => absurd q (by decide)), vln, vln, show cl_wr (cl_seal (iX0 6 (some 1) (cl_nw s1 116 0 16)) 6 0) 0 1 (some 6) = s2 from rfl]
  rw [i_obj (by decide +kernel) (by decide +kernel), n2, x7_i 15 (by decide +kernel) (by decide +kernel), bd1n, i_seal (by decide +kernel) (fun q => absurd q (by decide)), vln, vln, show cl_wr (cl_seal (iX7 15 (cl_nw s2 123 0 5)) 15 7) 0 2 (some 15) = s3 from rfl]
  rw [i_arr (v := (2048:Int32)) (n := 2048) rfl (by omega) (by decide +kernel) (by decide +kernel), show iA s3 1 2048 0 3 = s4 from rfl]
  rw [i_arrm (v := (10:Int32)) (w := (2048:Int32)) (m := 10) (k := 2048) rfl rfl (by omega) (by omega) (by decide +kernel) (by decide +kernel), show cl_wr (cl_nwm s4 10 2048) 0 5 (some s4.2.2.2.2.1) = s5 from rfl]
  rw [i_arr (v := (10:Int32)) (n := 10) rfl (by omega) (by decide +kernel) (by decide +kernel), show iA s5 1 10 0 6 = s6 from rfl]
  rw [i_obj (by decide +kernel) (by decide +kernel), n6, i_seal (by decide +kernel) (fun q => absurd q (by decide)), vln, x10_i, bd1n, vln, show cl_wr t13 0 7 (some 31) = s7 from rfl]
  rw [i_obj (by decide +kernel) (by decide +kernel), n7, vln, show (cl_nw s7 124 0 6).2.2.1 0 7 = some 31 by decide +kernel, show fc_X8_init 38 (some 31) (600:Int32) (2048:Int32) (1:Int32) (cl_nw s7 124 0 6) = _ from x8_i 38 (some 31) 600 2048 1 (Or.inr rfl) (by omega) (by omega) (by decide +kernel) (by decide +kernel), bd1n, i_seal (by decide +kernel) (fun q => absurd q (by decide)), vln, vln, show cl_wr (cl_seal (iX8 38 (some 31) 600 2048 1 (cl_nw s7 124 0 6)) 38 8) 0 8 (some 38) = s8 from rfl]
  rw [i_obj (by decide +kernel) (by decide +kernel), show s8.2.2.2.2.1 = 41 by decide +kernel, vln, show (cl_nw s8 119 0 3).2.2.1 0 7 = some 31 by decide +kernel, nnn, vln, q_4, x3_i 41 (some 33) (by decide +kernel) (by decide +kernel) (by decide +kernel), bd1n, i_seal (by decide +kernel) (fun q => absurd q (by decide)), vln, vln, show cl_wr (cl_seal (iX3 41 (some 33) (cl_nw s8 119 0 3)) 41 3) 0 9 (some 41) = s9 from rfl]
  rw [i_obj (by decide +kernel) (by decide +kernel), show s9.2.2.2.2.1 = 44 by decide +kernel, vln, show (cl_nw s9 119 0 3).2.2.1 0 7 = some 31 by decide +kernel, nnn, vln, q_4b, x3_i 44 (some 33) (by decide +kernel) (by decide +kernel) (by decide +kernel), bd1n, i_seal (by decide +kernel) (fun q => absurd q (by decide)), vln, vln, show cl_wr (cl_seal (iX3 44 (some 33) (cl_nw s9 119 0 3)) 44 3) 0 10 (some 44) = s10 from rfl]
  rw [i_obj (by decide +kernel) (by decide +kernel), n10, vln, vln, show (cl_nw s10 121 0 20).2.2.1 0 7 = some 31 by decide +kernel, show (cl_nw s10 121 0 20).2.2.1 0 9 = some 41 by decide +kernel, x5_i 47 (some 41) 1 (Or.inr rfl) (by decide +kernel) (by decide +kernel) (by decide +kernel) (by decide +kernel), bd1n, i_seal (by decide +kernel) (fun q => absurd q (by decide)), vln, vln, show cl_wr (cl_seal (iX5 47 (some 41) 1 (cl_nw s10 121 0 20)) 47 5) 0 11 (some 47) = s11 from rfl]
  rw [i_obj (by decide +kernel) (by decide +kernel), n11, vln, show (cl_nw s11 121 0 20).2.2.1 0 7 = some 31 by decide +kernel, i_obj (by decide +kernel) (by decide +kernel), show (cl_nw s11 121 0 20).2.2.2.2.1 = 180 by decide +kernel, vln, show (cl_nw (cl_nw s11 121 0 20) 119 0 3).2.2.1 0 7 = some 31 by decide +kernel, nnn, vln, q_4c, x3_i 180 (some 33) (by decide +kernel) (by decide +kernel) (by decide +kernel), bd1n, i_seal (by decide +kernel) (fun q => absurd q (by decide)), vln, show cl_seal (iX3 180 (some 33) (cl_nw (cl_nw s11 121 0 20) 119 0 3)) 180 3 = s12a from rfl, x5_i 179 (some 180) 0 (Or.inl rfl) (by decide +kernel) (by decide +kernel) (by decide +kernel) (by decide +kernel), bd1n, i_seal (by decide +kernel) (fun q => absurd q (by decide)), vln, vln, show cl_wr (cl_seal (iX5 179 (some 180) 0 s12a) 179 5) 0 12 (some 179) = s12 from rfl]
  rw [i_obj (by decide +kernel) (by decide +kernel), n12, x1_i 314 (by decide +kernel) (by decide +kernel), bd1n, i_seal (by decide +kernel) (fun q => absurd q (by decide)), vln, vln]
  rfl
end Z2_FA
