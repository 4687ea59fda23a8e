section Z2_F9
variable {σ σ' : cl_S}
theorem x9_i (a : Nat) (x1 x2 x3 : Int32) (x4 : Option Nat) (h : σ.2.2.1 a 6 = none) : fc_X9_init a x1 x2 x3 x4 σ = some (cl_wr (cl_w (cl_w (cl_w (cl_w σ a 6 1) a 0 x1) a 1 x2) a 2 x3) a 8 x4) := by
  unfold fc_X9_init bc_X9_init_0
  rw [gnw_in h, vln, vln, vln, vln, vln]
theorem sec_i : fc_X10_newSecret 31 t4 = some (some 34, cl_w t5 31 3 (t5.1 31 3 + 1)) := by
  unfold fc_X10_newSecret bc_X10_newSecret_0
  have q4 : t4.2.2.1 31 4 = some 33 := by decide +kernel
  have q3 : t4.1 31 3 = 0 := by decide +kernel
  rw [vln, vln, vln, q4, q3, add_i (a := 34) (m := 2871) 2 0 (by decide +kernel) (by decide) (by decide) (by decide) (by decide +kernel) (by decide +kernel) (by decide +kernel) (by decide +kernel) (by decide) (by decide +kernel), bd2n, vln]
  rfl
theorem num_i : fc_X10_numberTerm 31 1 t7 = some (some 35, t8) := by
  unfold fc_X10_numberTerm bc_X10_numberTerm_0
  have q4 : t7.2.2.1 31 4 = some 33 := by decide +kernel
  rw [vln, vln, vln, q4, find_i (m := 1497) (by decide +kernel) (by decide +kernel) (by decide) (by decide +kernel) (by decide +kernel) q4, bd2n, vln, q4, if_pos rfl, vln, vln, vln, add_i (a := 35) (m := 1497) 0 1 (by decide +kernel) (by decide) (by decide) (by decide) (by decide +kernel) (by decide +kernel) (by decide +kernel) (by decide +kernel) (by decide) (by decide +kernel), bd2n]
  rfl
theorem mad_1 : fc_X10_made 31 9 (some 34) (some 35) (some 33) t8 = some (some 36, iAdd 3699 9 0 34 35 33 36 t8) := by
  unfold fc_X10_made bc_X10_made_0
  have q4 : t8.2.2.1 31 4 = some 33 := by decide +kernel
  rw [find_i (m := 3699) (by decide +kernel) (by decide +kernel) (by decide) (by decide +kernel) (by decide +kernel) q4, bd2n, vln, q4, if_pos rfl, add_i (a := 36) (m := 3699) 9 0 (by decide +kernel) (by decide) (by decide) (by decide) (by decide +kernel) (by decide +kernel) (by decide +kernel) (by decide +kernel) (by decide) (by decide +kernel), bd2n]
theorem mad_2 : fc_X10_made 31 6 (some 36) (some 33) (some 33) t10 = some (some 37, iAdd 3665 6 0 36 33 33 37 t10) := by
  unfold fc_X10_made bc_X10_made_0
  have q4 : t10.2.2.1 31 4 = some 33 := by decide +kernel
  rw [find_i (m := 3665) (by decide +kernel) (by decide +kernel) (by decide) (by decide +kernel) (by decide +kernel) q4, bd2n, vln, q4, if_pos rfl, add_i (a := 37) (m := 3665) 6 0 (by decide +kernel) (by decide) (by decide) (by decide) (by decide +kernel) (by decide +kernel) (by decide +kernel) (by decide +kernel) (by decide) (by decide +kernel), bd2n]
theorem tel_i : fc_X10_tell 31 (some 37) t12 = some t13 := by
  unfold fc_X10_tell bc_X10_tell_0
  rw [nnn, if_pos (by decide +kernel), vln, vln]
  rfl
theorem x10_i : fc_X10_init 31 (cl_seal (cl_nw s6 126 0 11) 31 10) = some t13 := by
  unfold fc_X10_init bc_X10_init_0
  rw [i_arr (v := (4096:Int32)) (n := 4096) rfl (by omega) (by decide +kernel) (by decide +kernel), show iA (cl_seal (cl_nw s6 126 0 11) 31 10) 4 4096 31 0 = t1 from rfl]
  have n33 : t1.2.2.2.2.1 = 33 := by decide +kernel
  rw [i_obj (by decide +kernel) (by decide +kernel), n33, x9_i 33 (-1) 0 0 none (by decide +kernel), bd1n, sealed_9 (by decide +kernel), vln, show cl_seal (cl_wr (cl_w (cl_w (cl_w (cl_w (cl_nw t1 125 0 16) 33 6 1) 33 0 (-1)) 33 1 0) 33 2 0) 33 8 none) 33 9 = t2 from rfl]
  have r4a : (cl_wr t2 31 4 (some 33)).2.2.1 31 4 = some 33 := r_rs
  have r4b : (cl_wr (cl_wr t2 31 4 (some 33)) 33 3 (some 33)).2.2.1 31 4 = some 33 := by rw [r_r (by decide)]; exact r_rs
  have r4c : (cl_wr (cl_wr (cl_wr t2 31 4 (some 33)) 33 3 (some 33)) 33 4 (some 33)).2.2.1 31 4 = some 33 := by rw [r_r (by decide)]; exact r4b
  rw [vln, vln, vln, r4a, nnn, vln, vln, vln, r4b, nnn, vln, vln, vln, r4c, nnn, vln, show cl_wr (cl_wr (cl_wr (cl_wr t2 31 4 (some 33)) 33 3 (some 33)) 33 4 (some 33)) 33 5 (some 33) = t4 from rfl]
  rw [sec_i, bd2n, vln, show cl_wr (cl_w t5 31 3 (t5.1 31 3 + 1)) 31 5 (some 34) = t7 from rfl, vln, show t7.2.2.1 31 5 = some 34 by decide +kernel, num_i, bd2n, vln, show t8.2.2.1 31 4 = some 33 by decide +kernel, mad_1, bd2n, vln, show cl_wr (iAdd 3699 9 0 34 35 33 36 t8) 31 6 (some 36) = t10 from rfl, vln, vln, vln, show t10.2.2.1 31 6 = some 36 by decide +kernel, show t10.2.2.1 31 4 = some 33 by decide +kernel, mad_2, bd2n, vln, show cl_wr (iAdd 3665 6 0 36 33 33 37 t10) 31 7 (some 37) = t12 from rfl, vln, show t12.2.2.1 31 7 = some 37 by decide +kernel, tel_i, bd1n]
end Z2_F9
