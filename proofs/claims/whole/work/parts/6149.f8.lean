section Z2_F8
/-! LAYER 2: the class's constructor, state by state -/
def sE : cl_S := (fun _ _ => 0, fun _ _ => 0, fun _ _ => none, fun _ => (0, 0), 0, 600000, 7302250)
def s0 : cl_S := cl_nw sE 127 0 15
def s1 : cl_S := cl_wr (cl_seal (iX4 1 (cl_nw s0 120 0 7)) 1 4) 0 0 (some 1)
def s2 : cl_S := cl_wr (cl_seal (iX0 6 (some 1) (cl_nw s1 116 0 16)) 6 0) 0 1 (some 6)
def s3 : cl_S := cl_wr (cl_seal (iX7 15 (cl_nw s2 123 0 5)) 15 7) 0 2 (some 15)
def s4 : cl_S := iA s3 1 2048 0 3
def s5 : cl_S := cl_wr (cl_nwm s4 10 2048) 0 5 (some s4.2.2.2.2.1)
def s6 : cl_S := iA s5 1 10 0 6
/-- the terms -/
def t1 : cl_S := iA (cl_seal (cl_nw s6 126 0 11) 31 10) 4 4096 31 0
def t2 : cl_S := cl_seal (cl_wr (cl_w (cl_w (cl_w (cl_w (cl_nw t1 125 0 16) 33 6 1) 33 0 (-1)) 33 1 0) 33 2 0) 33 8 none) 33 9
def t4 : cl_S := cl_wr (cl_wr (cl_wr (cl_wr t2 31 4 (some 33)) 33 3 (some 33)) 33 4 (some 33)) 33 5 (some 33)
def t5 : cl_S := iAdd 2871 2 0 33 33 33 34 t4
def t7 : cl_S := cl_wr (cl_w t5 31 3 (t5.1 31 3 + 1)) 31 5 (some 34)
def t8 : cl_S := iAdd 1497 0 1 33 33 33 35 t7
def t10 : cl_S := cl_wr (iAdd 3699 9 0 34 35 33 36 t8) 31 6 (some 36)
def t12 : cl_S := cl_wr (iAdd 3665 6 0 36 33 33 37 t10) 31 7 (some 37)
def t13 : cl_S := cl_w (cl_w t12 37 9 1) 31 8 0
def s7 : cl_S := cl_wr t13 0 7 (some 31)
def s8 : cl_S := cl_wr (cl_seal (iX8 38 (some 31) 600 2048 1 (cl_nw s7 124 0 6)) 38 8) 0 8 (some 38)
def s9 : cl_S := cl_wr (cl_seal (iX3 41 (some 33) (cl_nw s8 119 0 3)) 41 3) 0 9 (some 41)
def s10 : cl_S := cl_wr (cl_seal (iX3 44 (some 33) (cl_nw s9 119 0 3)) 44 3) 0 10 (some 44)
def s11 : cl_S := cl_wr (cl_seal (iX5 47 (some 41) 1 (cl_nw s10 121 0 20)) 47 5) 0 11 (some 47)
def s12a : cl_S := cl_seal (iX3 180 (some 33) (cl_nw (cl_nw s11 121 0 20) 119 0 3)) 180 3
def s12 : cl_S := cl_wr (cl_seal (iX5 179 (some 180) 0 s12a) 179 5) 0 12 (some 179)
def s13 : cl_S := cl_wr (cl_seal (iX1 314 (cl_nw s12 117 0 16)) 314 1) 0 13 (some 314)
theorem n1 : s1.2.2.2.2.1 = 6 := by decide +kernel
theorem n2 : s2.2.2.2.2.1 = 15 := by decide +kernel
theorem n3 : s3.2.2.2.2.1 = 18 := by decide +kernel
theorem n6 : s6.2.2.2.2.1 = 31 := by decide +kernel
theorem n7 : s7.2.2.2.2.1 = 38 := by decide +kernel
theorem n10 : s10.2.2.2.2.1 = 47 := by decide +kernel
theorem n11 : s11.2.2.2.2.1 = 179 := by decide +kernel
theorem n12 : s12.2.2.2.2.1 = 314 := by decide +kernel
theorem n13 : s13.2.2.2.2.1 = 325 := by decide +kernel
end Z2_F8
