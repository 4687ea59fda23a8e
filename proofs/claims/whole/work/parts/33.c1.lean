section CQ0
variable {p : Program} {l : Launch} {e : Env} {s : State} {m : MethodId} {args : Array Value} {below : List Frame} {meth : Method} {c : Code} {D : cl_D} {c0 : Nat}
theorem aw_1 : Cond.arrayClass (cl_T 1) ∈ rf_tb := rf_at 64 (by decide +kernel) (by decide +kernel)
theorem aw_2 : Cond.arrayClass (cl_T 2) ∈ rf_tb := rf_at 65 (by decide +kernel) (by decide +kernel)
theorem aw_3 : Cond.arrayClass (cl_T 3) ∈ rf_tb := rf_at 63 (by decide +kernel) (by decide +kernel)
abbrev cX0_nameOctet : ByteArray := prog_2_method_2_code
def yX0_nameOctet : MethodName := ⟨RX0, "nameOctet", "(II)C"⟩
theorem dX0_nameOctet_0 : decode cX0_nameOctet 0 = .ok (.ldc 50, 2) := by decide +kernel
theorem dX0_nameOctet_2 : decode cX0_nameOctet 2 = .ok (.iload_n 0, 1) := by decide +kernel
theorem dX0_nameOctet_3 : decode cX0_nameOctet 3 = .ok (.iconst 1, 1) := by decide +kernel
theorem dX0_nameOctet_4 : decode cX0_nameOctet 4 = .ok (.isub, 1) := by decide +kernel
theorem dX0_nameOctet_5 : decode cX0_nameOctet 5 = .ok (.bipush 6, 2) := by decide +kernel
theorem dX0_nameOctet_7 : decode cX0_nameOctet 7 = .ok (.imul, 1) := by decide +kernel
theorem dX0_nameOctet_8 : decode cX0_nameOctet 8 = .ok (.iload_n 1, 1) := by decide +kernel
theorem dX0_nameOctet_9 : decode cX0_nameOctet 9 = .ok (.iadd, 1) := by decide +kernel
theorem dX0_nameOctet_10 : decode cX0_nameOctet 10 = .ok (.invokevirtual 52, 3) := by decide +kernel
theorem dX0_nameOctet_13 : decode cX0_nameOctet 13 = .ok (.ireturn, 1) := by decide +kernel
theorem cc_X0_nameOctet : Cond.code yX0_nameOctet cX0_nameOctet 2 (some .char) ∈ rf_tb := rf_at 74 (by decide +kernel) (by decide +kernel)
noncomputable def fc_X0_nameOctet (x0 : Int32) (x1 : Int32) (σ : cl_S) : Option (Int32 × cl_S) := ix (((x0 - (1:Int32)) * (6:Int32)) + x1) 246 (some (nm_tab.getD (((x0 - (1:Int32)) * (6:Int32)) + x1).toNatClampNeg 0, σ))
theorem kc_X0_nameOctet (l : Launch) (D : cl_D) (c0 : Nat) {r : Int32} {x0 : Int32} {x1 : Int32} {σ σ' : cl_S} (h : fc_X0_nameOctet x0 x1 σ = some (r, σ')) : cl_Met true l D c0 yX0_nameOctet cX0_nameOctet 2 (some .char) 4 85 [.int x0, .int x1] σ (some (.int r)) cl_no σ' := by
  refine cl_of (by decide) (Nat.le_of_ble_eq_true rfl) (fun p e s m args below meth c ls C hn G hl => ?_)
  unfold fc_X0_nameOctet at h
  obtain ⟨hi, h⟩ := ix_some h
  obtain ⟨hR, qv, hS⟩ := C.2.2.2.2.2.1.2.2.1 _ (List.mem_cons_self (a := cl_strs.headD (0, "", [])) (l := cl_strs.tail))
  have hlen : nm_tab.length = 246 := by decide +kernel
  have hi1 : (((x0 - (1:Int32)) * (6:Int32)) + x1).toNatClampNeg < nm_tab.length := by rw [hlen]; exact Nat.not_le.mp (fun q => hi (Or.inr q))
  have hi0 : ¬ (((x0 - (1:Int32)) * (6:Int32)) + x1) < 0 := fun q => hi (Or.inl q)
  refine va_ldcS C.1 C.2.1 C.2.2.2.1 hR dX0_nameOctet_0 ?_
  refine lv_iload_n C.1 C.2.1 dX0_nameOctet_2 rfl (lv_at hl 0 rfl) ?_
  refine lv_iconst (v := (1:Int32)) C.1 C.2.1 dX0_nameOctet_3 (by decide) ?_
  refine lv_isub C.1 C.2.1 dX0_nameOctet_4 ?_
  refine lv_bipush (v := (6:Int32)) C.1 C.2.1 dX0_nameOctet_5 (by decide) ?_
  refine lv_imul C.1 C.2.1 dX0_nameOctet_7 ?_
  refine lv_iload_n C.1 C.2.1 dX0_nameOctet_8 rfl (lv_at hl 1 rfl) ?_
  refine lv_iadd C.1 C.2.1 dX0_nameOctet_9 ?_
  refine cl_callJ (rest := []) C G hS jl_X0_52 jim_J0_charAt_5068e cc_J0_charAt_5068e ji_0 jse_J0_charAt_5068e (n := 1) (by decide +kernel) [.int (((x0 - (1:Int32)) * (6:Int32)) + x1)] _ (jk_charAt hi0 hi1) (Nat.le_of_ble_eq_true rfl) (Nat.le_of_ble_eq_true rfl) rfl rfl hl.1 (Nat.le_of_ble_eq_true rfl) dX0_nameOctet_10 ?_
  exact cl_zret ⟨rfl, rfl⟩ rfl C G h (jk_nar hS hi1) dX0_nameOctet_13

abbrev cX0_init : ByteArray := prog_2_method_1_code
def yX0_init : MethodName := ⟨RX0, "<init>", "(LPartHouse$Lexer;)V"⟩
theorem dX0_init_0 : decode cX0_init 0 = .ok (.aload_n 0, 1) := by decide +kernel
theorem dX0_init_1 : decode cX0_init 1 = .ok (.invokespecial 3, 3) := by decide +kernel
theorem dX0_init_4 : decode cX0_init 4 = .ok (.aload_n 0, 1) := by decide +kernel
theorem dX0_init_5 : decode cX0_init 5 = .ok (.bipush 42, 2) := by decide +kernel
theorem dX0_init_7 : decode cX0_init 7 = .ok (.newarray .long, 2) := by decide +kernel
theorem dX0_init_9 : decode cX0_init 9 = .ok (.putfield 9, 3) := by decide +kernel
theorem dX0_init_12 : decode cX0_init 12 = .ok (.aload_n 0, 1) := by decide +kernel
theorem dX0_init_13 : decode cX0_init 13 = .ok (.sipush 2048, 3) := by decide +kernel
theorem dX0_init_16 : decode cX0_init 16 = .ok (.newarray .int, 2) := by decide +kernel
theorem dX0_init_18 : decode cX0_init 18 = .ok (.putfield 15, 3) := by decide +kernel
theorem dX0_init_21 : decode cX0_init 21 = .ok (.aload_n 0, 1) := by decide +kernel
theorem dX0_init_22 : decode cX0_init 22 = .ok (.sipush 200, 3) := by decide +kernel
theorem dX0_init_25 : decode cX0_init 25 = .ok (.newarray .long, 2) := by decide +kernel
theorem dX0_init_27 : decode cX0_init 27 = .ok (.putfield 19, 3) := by decide +kernel
theorem dX0_init_30 : decode cX0_init 30 = .ok (.aload_n 0, 1) := by decide +kernel
theorem dX0_init_31 : decode cX0_init 31 = .ok (.sipush 200, 3) := by decide +kernel
theorem dX0_init_34 : decode cX0_init 34 = .ok (.newarray .int, 2) := by decide +kernel
theorem dX0_init_36 : decode cX0_init 36 = .ok (.putfield 22, 3) := by decide +kernel
theorem dX0_init_39 : decode cX0_init 39 = .ok (.aload_n 0, 1) := by decide +kernel
theorem dX0_init_40 : decode cX0_init 40 = .ok (.sipush 2048, 3) := by decide +kernel
theorem dX0_init_43 : decode cX0_init 43 = .ok (.newarray .long, 2) := by decide +kernel
theorem dX0_init_45 : decode cX0_init 45 = .ok (.putfield 25, 3) := by decide +kernel
theorem dX0_init_48 : decode cX0_init 48 = .ok (.aload_n 0, 1) := by decide +kernel
theorem dX0_init_49 : decode cX0_init 49 = .ok (.sipush 2048, 3) := by decide +kernel
theorem dX0_init_52 : decode cX0_init 52 = .ok (.newarray .int, 2) := by decide +kernel
theorem dX0_init_54 : decode cX0_init 54 = .ok (.putfield 28, 3) := by decide +kernel
theorem dX0_init_57 : decode cX0_init 57 = .ok (.aload_n 0, 1) := by decide +kernel
theorem dX0_init_58 : decode cX0_init 58 = .ok (.sipush 2048, 3) := by decide +kernel
theorem dX0_init_61 : decode cX0_init 61 = .ok (.newarray .int, 2) := by decide +kernel
theorem dX0_init_63 : decode cX0_init 63 = .ok (.putfield 31, 3) := by decide +kernel
theorem dX0_init_66 : decode cX0_init 66 = .ok (.aload_n 0, 1) := by decide +kernel
theorem dX0_init_67 : decode cX0_init 67 = .ok (.iconst (-1), 1) := by decide +kernel
theorem dX0_init_68 : decode cX0_init 68 = .ok (.putfield 34, 3) := by decide +kernel
theorem dX0_init_71 : decode cX0_init 71 = .ok (.aload_n 0, 1) := by decide +kernel
theorem dX0_init_72 : decode cX0_init 72 = .ok (.bipush 40, 2) := by decide +kernel
theorem dX0_init_74 : decode cX0_init 74 = .ok (.newarray .char, 2) := by decide +kernel
theorem dX0_init_76 : decode cX0_init 76 = .ok (.putfield 38, 3) := by decide +kernel
theorem dX0_init_79 : decode cX0_init 79 = .ok (.aload_n 0, 1) := by decide +kernel
theorem dX0_init_80 : decode cX0_init 80 = .ok (.aload_n 1, 1) := by decide +kernel
theorem dX0_init_81 : decode cX0_init 81 = .ok (.putfield 42, 3) := by decide +kernel
theorem dX0_init_84 : decode cX0_init 84 = .ok (.iconst 1, 1) := by decide +kernel
theorem dX0_init_85 : decode cX0_init 85 = .ok (.istore_n 2, 1) := by decide +kernel
theorem dX0_init_86 : decode cX0_init 86 = .ok (.iload_n 2, 1) := by decide +kernel
theorem dX0_init_87 : decode cX0_init 87 = .ok (.bipush 41, 2) := by decide +kernel
theorem dX0_init_89 : decode cX0_init 89 = .ok (.if_icmp .gt 55, 3) := by decide +kernel
theorem dX0_init_92 : decode cX0_init 92 = .ok (.iconst 0, 1) := by decide +kernel
theorem dX0_init_93 : decode cX0_init 93 = .ok (.istore_n 3, 1) := by decide +kernel
theorem dX0_init_94 : decode cX0_init 94 = .ok (.iload_n 3, 1) := by decide +kernel
theorem dX0_init_95 : decode cX0_init 95 = .ok (.bipush 6, 2) := by decide +kernel
theorem dX0_init_97 : decode cX0_init 97 = .ok (.if_icmp .ge 41, 3) := by decide +kernel
theorem dX0_init_100 : decode cX0_init 100 = .ok (.iload_n 2, 1) := by decide +kernel
theorem dX0_init_101 : decode cX0_init 101 = .ok (.iload_n 3, 1) := by decide +kernel
theorem dX0_init_102 : decode cX0_init 102 = .ok (.invokestatic 46, 3) := by decide +kernel
theorem dX0_init_105 : decode cX0_init 105 = .ok (.bipush 32, 2) := by decide +kernel
theorem dX0_init_107 : decode cX0_init 107 = .ok (.if_icmp .eq 31, 3) := by decide +kernel
theorem dX0_init_110 : decode cX0_init 110 = .ok (.aload_n 0, 1) := by decide +kernel
theorem dX0_init_111 : decode cX0_init 111 = .ok (.getfield 9, 3) := by decide +kernel
theorem dX0_init_114 : decode cX0_init 114 = .ok (.iload_n 2, 1) := by decide +kernel
theorem dX0_init_115 : decode cX0_init 115 = .ok (.aload_n 0, 1) := by decide +kernel
theorem dX0_init_116 : decode cX0_init 116 = .ok (.getfield 9, 3) := by decide +kernel
theorem dX0_init_119 : decode cX0_init 119 = .ok (.iload_n 2, 1) := by decide +kernel
theorem dX0_init_120 : decode cX0_init 120 = .ok (.laload, 1) := by decide +kernel
theorem dX0_init_121 : decode cX0_init 121 = .ok (.bipush 8, 2) := by decide +kernel
theorem dX0_init_123 : decode cX0_init 123 = .ok (.lshl, 1) := by decide +kernel
theorem dX0_init_124 : decode cX0_init 124 = .ok (.iload_n 2, 1) := by decide +kernel
theorem dX0_init_125 : decode cX0_init 125 = .ok (.iload_n 3, 1) := by decide +kernel
theorem dX0_init_126 : decode cX0_init 126 = .ok (.invokestatic 46, 3) := by decide +kernel
theorem dX0_init_129 : decode cX0_init 129 = .ok (.i2l, 1) := by decide +kernel
theorem dX0_init_130 : decode cX0_init 130 = .ok (.lor, 1) := by decide +kernel
theorem dX0_init_131 : decode cX0_init 131 = .ok (.lastore, 1) := by decide +kernel
theorem dX0_init_132 : decode cX0_init 132 = .ok (.iinc 3 1, 3) := by decide +kernel
theorem dX0_init_135 : decode cX0_init 135 = .ok (.goto (-41), 3) := by decide +kernel
theorem dX0_init_138 : decode cX0_init 138 = .ok (.iinc 2 1, 3) := by decide +kernel
theorem dX0_init_141 : decode cX0_init 141 = .ok (.goto (-55), 3) := by decide +kernel
theorem dX0_init_144 : decode cX0_init 144 = .ok (.return_, 1) := by decide +kernel
theorem cc_X0_init : Cond.code yX0_init cX0_init 4 none ∈ rf_tb := rf_at 70 (by decide +kernel) (by decide +kernel)
theorem cw_RX0_46 : cl_wS RX0 yX0_nameOctet cX0_nameOctet 2 (some .char) 46 2 := ⟨⟨rf_at 72 (by decide +kernel) (by decide +kernel), rf_at 73 (by decide +kernel) (by decide +kernel), cc_X0_nameOctet, rf_at 3 (by decide +kernel) (by decide +kernel)⟩, ⟨by decide, by decide, by decide +kernel⟩⟩
theorem oi_RX0_3 : Cond.methodLink RX0 3 Lib.objectInit ∈ rf_tb := rf_at 71 (by decide +kernel) (by decide +kernel)
theorem oi_i : Cond.instanceMethod Lib.objectInit ∈ rf_tb := rf_at 27 (by decide +kernel) (by decide +kernel)
theorem oi_c : Cond.code Lib.objectInit ⟨#[0xb1]⟩ 1 none ∈ rf_tb := rf_at 28 (by decide +kernel) (by decide +kernel)
noncomputable def lc_X0_init_94i86 (a : Nat) (x2 : Int32) (x3 : Int32) (σ : cl_S) : Option ((Int32 × cl_S) ⊕ (Int32 × cl_S)) := (if (6:Int32) ≤ x3 then some (.inr (x3, σ)) else bd2 (fc_X0_nameOctet x2 x3 σ) (fun r_124 σ_123 => (if r_124 = (32:Int32) then some (.inr (x3, σ_123)) else vl (σ_123.2.2.1 a 1) (fun r_130 => vl (σ_123.2.2.1 a 1) (fun r_134 => nn r_134 (fun a_137 => ix x2 (σ_123.2.2.2.1 a_137).2 (bd2 (fc_X0_nameOctet x2 x3 σ_123) (fun r_143 σ_142 => nn r_130 (fun a_148 => ix x2 (σ_142.2.2.2.1 a_148).2 (vl (cl_wl σ_142 a_148 x2.toNatClampNeg (((σ_123.2.1 a_137 x2.toNatClampNeg) <<< ((8:Int32).toInt64 &&& 63)) ||| (r_143.toInt64))) (fun σ_152 => vl (x3 + (1:Int32)) (fun x3_157 => some (.inl (x3_157, σ_152))))))))))))))
noncomputable def bc_X0_init_138i86 (a : Nat) (x2 : Int32) (σ : cl_S) : Option ((Int32 × cl_S) ⊕ (Int32 × cl_S)) := vl (x2 + (1:Int32)) (fun x2_160 => some (.inl (x2_160, σ)))
set_option maxHeartbeats 4000000 in
theorem wc_X0_init_138i86 (C : cl_C D p s m args meth c cX0_init 4 none RX0) (hn9 : meth.name = "<init>") {a : Nat} {x2 : Int32} {σ0 σ σ' : cl_S} {T : Nat → Nat × Nat} {H : Heap} {locs : List Loc} {ls : Array Slot} {cells slots : Nat} {o : (Int32 × cl_S) ⊕ (Int32 × cl_S)} (h : bc_X0_init_138i86 a x2 σ = some o) (hP : Sum.elim (fun z : (Int32 × cl_S) => ∀ (T : Nat → Nat × Nat) (H : Heap) (locs : List Loc) (ls : Array Slot) (cells slots : Nat), cl_G true D c0 ({ frames := 5, cells := σ0.2.2.2.2.2.1, slots := σ0.2.2.2.2.2.2, locals := 106 }) s σ0.2.2.2.1 T z.2 H locs cells slots → (T a).1 = 116 → lv_has ls 4 [(0, .ref (c0 + a)), (2, .int (z.1))] → W p l e ({ frames := 5, cells := σ0.2.2.2.2.2.1, slots := σ0.2.2.2.2.2.2, locals := 106 }) s m args below meth c H locs cells slots (MQ below (cl_Q true D c0 none cl_no σ0 σ') args s (σ0.2.2.2.2.2.1 - σ'.2.2.2.2.2.1) (σ0.2.2.2.2.2.2 - σ'.2.2.2.2.2.2) (cl_A c0 σ0.2.2.2.1 s.heap.size)) (F0 m 86 ls [])) (fun z : (Int32 × cl_S) => ∀ (T : Nat → Nat × Nat) (H : Heap) (locs : List Loc) (ls : Array Slot) (cells slots : Nat), cl_G true D c0 ({ frames := 5, cells := σ0.2.2.2.2.2.1, slots := σ0.2.2.2.2.2.2, locals := 106 }) s σ0.2.2.2.1 T z.2 H locs cells slots → (T a).1 = 116 → lv_has ls 4 [(0, .ref (c0 + a)), (2, .int (z.1))] → W p l e ({ frames := 5, cells := σ0.2.2.2.2.2.1, slots := σ0.2.2.2.2.2.2, locals := 106 }) s m args below meth c H locs cells slots (MQ below (cl_Q true D c0 none cl_no σ0 σ') args s (σ0.2.2.2.2.2.1 - σ'.2.2.2.2.2.1) (σ0.2.2.2.2.2.2 - σ'.2.2.2.2.2.2) (cl_A c0 σ0.2.2.2.1 s.heap.size)) (F0 m 144 ls [])) o) (G : cl_G true D c0 ({ frames := 5, cells := σ0.2.2.2.2.2.1, slots := σ0.2.2.2.2.2.2, locals := 106 }) s σ0.2.2.2.1 T σ H locs cells slots) (ha : (T a).1 = 116) (hl : lv_has ls 4 [(0, .ref (c0 + a)), (2, .int x2)]) : W p l e ({ frames := 5, cells := σ0.2.2.2.2.2.1, slots := σ0.2.2.2.2.2.2, locals := 106 }) s m args below meth c H locs cells slots (MQ below (cl_Q true D c0 none cl_no σ0 σ') args s (σ0.2.2.2.2.2.1 - σ'.2.2.2.2.2.1) (σ0.2.2.2.2.2.2 - σ'.2.2.2.2.2.2) (cl_A c0 σ0.2.2.2.1 s.heap.size)) (F0 m 138 ls []) := by
  unfold bc_X0_init_138i86 at h
  refine vl_ex h (fun x2_160 ey h_161 => ?_)
  refine lv_iinc (v := x2_160) (lv' := [(2, .int x2_160), (0, .ref (c0 + a))]) C.1 C.2.1 dX0_init_138 hl (k := 1) rfl (by rw [ey]; rfl) (by decide) rfl (fun ls hl_162 => ?_)
  refine lv_goto (tgt := 86) C.1 C.2.1 dX0_init_141 (by decide) ?_
  cases h_161
  exact hP _ _ _ _ _ _ G ha (lv_sub hl_162 [1, 0] rfl)
noncomputable def ec_X0_init_94i86 (a : Nat) (x2 : Int32) (x3 : Int32) (σ : cl_S) : Option ((Int32 × cl_S) ⊕ (Int32 × cl_S)) := bc_X0_init_138i86 a x2 σ
noncomputable def bc_X0_init_94i86 (a : Nat) (x2 : Int32) (x3 : Int32) (σ : cl_S) : Option ((Int32 × cl_S) ⊕ (Int32 × cl_S)) := (lp (fun z : (Int32 × cl_S) => lc_X0_init_94i86 a x2 z.1 z.2) (x3, σ)).bind (fun z => ec_X0_init_94i86 a x2 z.1 z.2)
set_option maxHeartbeats 4000000 in
theorem wc_X0_init_94i86 (C : cl_C D p s m args meth c cX0_init 4 none RX0) (hn9 : meth.name = "<init>") {a : Nat} {x2 : Int32} {x3 : Int32} {σ0 σ σ' : cl_S} {T : Nat → Nat × Nat} {H : Heap} {locs : List Loc} {ls : Array Slot} {cells slots : Nat} {o : (Int32 × cl_S) ⊕ (Int32 × cl_S)} (h : bc_X0_init_94i86 a x2 x3 σ = some o) (hP : Sum.elim (fun z : (Int32 × cl_S) => ∀ (T : Nat → Nat × Nat) (H : Heap) (locs : List Loc) (ls : Array Slot) (cells slots : Nat), cl_G true D c0 ({ frames := 5, cells := σ0.2.2.2.2.2.1, slots := σ0.2.2.2.2.2.2, locals := 106 }) s σ0.2.2.2.1 T z.2 H locs cells slots → (T a).1 = 116 → lv_has ls 4 [(0, .ref (c0 + a)), (2, .int (z.1))] → W p l e ({ frames := 5, cells := σ0.2.2.2.2.2.1, slots := σ0.2.2.2.2.2.2, locals := 106 }) s m args below meth c H locs cells slots (MQ below (cl_Q true D c0 none cl_no σ0 σ') args s (σ0.2.2.2.2.2.1 - σ'.2.2.2.2.2.1) (σ0.2.2.2.2.2.2 - σ'.2.2.2.2.2.2) (cl_A c0 σ0.2.2.2.1 s.heap.size)) (F0 m 86 ls [])) (fun z : (Int32 × cl_S) => ∀ (T : Nat → Nat × Nat) (H : Heap) (locs : List Loc) (ls : Array Slot) (cells slots : Nat), cl_G true D c0 ({ frames := 5, cells := σ0.2.2.2.2.2.1, slots := σ0.2.2.2.2.2.2, locals := 106 }) s σ0.2.2.2.1 T z.2 H locs cells slots → (T a).1 = 116 → lv_has ls 4 [(0, .ref (c0 + a)), (2, .int (z.1))] → W p l e ({ frames := 5, cells := σ0.2.2.2.2.2.1, slots := σ0.2.2.2.2.2.2, locals := 106 }) s m args below meth c H locs cells slots (MQ below (cl_Q true D c0 none cl_no σ0 σ') args s (σ0.2.2.2.2.2.1 - σ'.2.2.2.2.2.1) (σ0.2.2.2.2.2.2 - σ'.2.2.2.2.2.2) (cl_A c0 σ0.2.2.2.1 s.heap.size)) (F0 m 144 ls [])) o) (G : cl_G true D c0 ({ frames := 5, cells := σ0.2.2.2.2.2.1, slots := σ0.2.2.2.2.2.2, locals := 106 }) s σ0.2.2.2.1 T σ H locs cells slots) (ha : (T a).1 = 116) (hl : lv_has ls 4 [(0, .ref (c0 + a)), (2, .int x2), (3, .int x3)]) : W p l e ({ frames := 5, cells := σ0.2.2.2.2.2.1, slots := σ0.2.2.2.2.2.2, locals := 106 }) s m args below meth c H locs cells slots (MQ below (cl_Q true D c0 none cl_no σ0 σ') args s (σ0.2.2.2.2.2.1 - σ'.2.2.2.2.2.1) (σ0.2.2.2.2.2.2 - σ'.2.2.2.2.2.2) (cl_A c0 σ0.2.2.2.1 s.heap.size)) (F0 m 94 ls []) := by
  unfold bc_X0_init_94i86 at h
  obtain ⟨y, hy, h⟩ := bd_some h
  have hE : (fun z : (Int32 × cl_S) => ∀ (T : Nat → Nat × Nat) (H : Heap) (locs : List Loc) (ls : Array Slot) (cells slots : Nat), cl_G true D c0 ({ frames := 5, cells := σ0.2.2.2.2.2.1, slots := σ0.2.2.2.2.2.2, locals := 106 }) s σ0.2.2.2.1 T z.2 H locs cells slots → (T a).1 = 116 → lv_has ls 4 [(0, .ref (c0 + a)), (2, .int x2), (3, .int (z.1))] → W p l e ({ frames := 5, cells := σ0.2.2.2.2.2.1, slots := σ0.2.2.2.2.2.2, locals := 106 }) s m args below meth c H locs cells slots (MQ below (cl_Q true D c0 none cl_no σ0 σ') args s (σ0.2.2.2.2.2.1 - σ'.2.2.2.2.2.1) (σ0.2.2.2.2.2.2 - σ'.2.2.2.2.2.2) (cl_A c0 σ0.2.2.2.1 s.heap.size)) (F0 m 138 ls [])) y := by
    clear hy G ha hl
    intro T H locs ls cells slots G ha hl
    obtain ⟨x3, σ⟩ := y
    dsimp only at h G ha hl
    unfold ec_X0_init_94i86 at h
    exact wc_X0_init_138i86 C hn9 h hP G ha (lv_sub hl [0, 1] rfl)
  refine lp_recE (fun z : (Int32 × cl_S) => ∀ (T : Nat → Nat × Nat) (H : Heap) (locs : List Loc) (ls : Array Slot) (cells slots : Nat), cl_G true D c0 ({ frames := 5, cells := σ0.2.2.2.2.2.1, slots := σ0.2.2.2.2.2.2, locals := 106 }) s σ0.2.2.2.1 T z.2 H locs cells slots → (T a).1 = 116 → lv_has ls 4 [(0, .ref (c0 + a)), (2, .int x2), (3, .int (z.1))] → W p l e ({ frames := 5, cells := σ0.2.2.2.2.2.1, slots := σ0.2.2.2.2.2.2, locals := 106 }) s m args below meth c H locs cells slots (MQ below (cl_Q true D c0 none cl_no σ0 σ') args s (σ0.2.2.2.2.2.1 - σ'.2.2.2.2.2.1) (σ0.2.2.2.2.2.2 - σ'.2.2.2.2.2.2) (cl_A c0 σ0.2.2.2.1 s.heap.size)) (F0 m 94 ls [])) (fun z : (Int32 × cl_S) => ∀ (T : Nat → Nat × Nat) (H : Heap) (locs : List Loc) (ls : Array Slot) (cells slots : Nat), cl_G true D c0 ({ frames := 5, cells := σ0.2.2.2.2.2.1, slots := σ0.2.2.2.2.2.2, locals := 106 }) s σ0.2.2.2.1 T z.2 H locs cells slots → (T a).1 = 116 → lv_has ls 4 [(0, .ref (c0 + a)), (2, .int x2), (3, .int (z.1))] → W p l e ({ frames := 5, cells := σ0.2.2.2.2.2.1, slots := σ0.2.2.2.2.2.2, locals := 106 }) s m args below meth c H locs cells slots (MQ below (cl_Q true D c0 none cl_no σ0 σ') args s (σ0.2.2.2.2.2.1 - σ'.2.2.2.2.2.1) (σ0.2.2.2.2.2.2 - σ'.2.2.2.2.2.2) (cl_A c0 σ0.2.2.2.1 s.heap.size)) (F0 m 138 ls [])) ?_ _ _ hy hE _ _ _ _ _ _ G ha hl
  clear hE hy G ha hl h hP
  intro z o h hP T H locs ls cells slots G ha hl
  obtain ⟨x3, σ⟩ := z
  dsimp only at h G ha hl
  unfold lc_X0_init_94i86 at h
  refine lv_iload_n C.1 C.2.1 dX0_init_94 rfl (lv_at hl 2 rfl) ?_
  refine lv_bipush (v := (6:Int32)) C.1 C.2.1 dX0_init_95 (by decide) ?_
  refine lv_icmp_ge (tgt := 138) C.1 C.2.1 dX0_init_97 (by decide) (fun hc => ?_) (fun hc => ?_)
  · rw [if_pos hc] at h
    cases h
    exact hP _ _ _ _ _ _ G ha (lv_sub hl [0, 1, 2] rfl)
  · rw [if_neg hc] at h
    refine lv_iload_n C.1 C.2.1 dX0_init_100 rfl (lv_at hl 1 rfl) ?_
    refine lv_iload_n C.1 C.2.1 dX0_init_101 rfl (lv_at hl 2 rfl) ?_
    obtain ⟨r_124, σ_123, hq, h_125⟩ := bd2_some h
    refine cl_callS (rest := []) C G cw_RX0_46 [.int x2, .int x3] _ (kc_X0_nameOctet l D c0 hq) (Nat.le_of_ble_eq_true rfl) (Nat.le_of_ble_eq_true rfl) rfl rfl hl.1 (Nat.le_of_ble_eq_true rfl) dX0_init_102 (fun T_126 H locs cells slots t_127 hu G_128 => ?_)
    have ha := hu.kind ha (by decide)
    refine W.eq (g2 := F0 m 105 ls [.int r_124]) rfl ?_
    refine lv_bipush (v := (32:Int32)) C.1 C.2.1 dX0_init_105 (by decide) ?_
    refine lv_icmp_eq (tgt := 138) C.1 C.2.1 dX0_init_107 (by decide) (fun hc => ?_) (fun hc => ?_)
    · rw [if_pos hc] at h_125
      cases h_125
      exact hP _ _ _ _ _ _ G_128 ha (lv_sub hl [0, 1, 2] rfl)
    · rw [if_neg hc] at h_125
      refine lv_aload_n C.1 C.2.1 dX0_init_110 rfl (lv_at hl 0 rfl) ?_
      refine rg_0_9 C G_128 ha dX0_init_111 (fun t_129 => ?_)
      refine vt_r (K := 2) t_129 h_125 (fun r_130 t_131 h_132 => ?_)
      refine lv_iload_n C.1 C.2.1 dX0_init_114 rfl (lv_at hl 1 rfl) ?_
      refine lv_aload_n C.1 C.2.1 dX0_init_115 rfl (lv_at hl 0 rfl) ?_
      refine rg_0_9 C G_128 ha dX0_init_116 (fun t_133 => ?_)
      refine vt_r (K := 2) t_133 h_132 (fun r_134 t_135 h_136 => ?_)
      refine lv_iload_n C.1 C.2.1 dX0_init_119 rfl (lv_at hl 1 rfl) ?_
      obtain ⟨a_137, rfl, h_139⟩ := nn_some h_136
      have t_138 := t_135 _ rfl
      have t_140 : T_126 a_137 = (2, (σ_123.2.2.2.1 a_137).2) := by rw [G_128.1]; exact Prod.ext t_138 rfl
      obtain ⟨hi, h_141⟩ := ix_some h_139
      refine cl_lald C G_128 t_140 hi dX0_init_120 ?_
      refine lv_bipush (v := (8:Int32)) C.1 C.2.1 dX0_init_121 (by decide) ?_
      refine lv_lshl C.1 C.2.1 dX0_init_123 rfl ?_
      refine lv_iload_n C.1 C.2.1 dX0_init_124 rfl (lv_at hl 1 rfl) ?_
      refine lv_iload_n C.1 C.2.1 dX0_init_125 rfl (lv_at hl 2 rfl) ?_
      obtain ⟨r_143, σ_142, hq, h_144⟩ := bd2_some h_141
      refine cl_callS (rest := [.long ((σ_123.2.1 a_137 x2.toNatClampNeg) <<< ((8:Int32).toInt64 &&& 63)), .int x2, cl_rf c0 r_130]) C G_128 cw_RX0_46 [.int x2, .int x3] _ (kc_X0_nameOctet l D c0 hq) (Nat.le_of_ble_eq_true rfl) (Nat.le_of_ble_eq_true rfl) rfl rfl hl.1 (by cases r_130 <;> exact Nat.le_of_ble_eq_true rfl) dX0_init_126 (fun T_145 H locs cells slots t_146 hu G_147 => ?_)
      have ha := hu.kind ha (by decide)
      have t_131 := t_131.up hu (by decide)
      refine W.eq (g2 := F0 m 129 ls [.int r_143, .long ((σ_123.2.1 a_137 x2.toNatClampNeg) <<< ((8:Int32).toInt64 &&& 63)), .int x2, cl_rf c0 r_130]) rfl ?_
      refine lv_i2l C.1 C.2.1 dX0_init_129 rfl ?_
      refine lv_lor C.1 C.2.1 dX0_init_130 ?_
      obtain ⟨a_148, rfl, h_150⟩ := nn_some h_144
      have t_149 := t_131 _ rfl
      have t_151 : T_145 a_148 = (2, (σ_142.2.2.2.1 a_148).2) := by rw [G_147.1]; exact Prod.ext t_149 rfl
      obtain ⟨hi, h_153⟩ := ix_some h_150
      refine cl_last C G_147 t_151 hi dX0_init_131 (fun H locs G_154 => ?_)
      refine cl_nm G_154 h_153 (fun σ_152 G_155 h_156 => ?_)
      refine vl_ex h_156 (fun x3_157 ey h_158 => ?_)
      refine lv_iinc (v := x3_157) (lv' := [(3, .int x3_157), (0, .ref (c0 + a)), (2, .int x2)]) C.1 C.2.1 dX0_init_132 hl (k := 2) rfl (by rw [ey]; rfl) (by decide) rfl (fun ls hl_159 => ?_)
      refine lv_goto (tgt := 94) C.1 C.2.1 dX0_init_135 (by decide) ?_
      cases h_158
      exact hP _ _ _ _ _ _ G_155 ha (lv_sub hl_159 [1, 2, 0] rfl)
noncomputable def lc_X0_init_86 (a : Nat) (x2 : Int32) (σ : cl_S) : Option ((Int32 × cl_S) ⊕ (Int32 × cl_S)) := (if (41:Int32) < x2 then some (.inr (x2, σ)) else bc_X0_init_94i86 a x2 (0:Int32) σ)
noncomputable def ec_X0_init_86 (a : Nat) (x2 : Int32) (σ : cl_S) : Option (cl_S) := some σ
noncomputable def bc_X0_init_86 (a : Nat) (x2 : Int32) (σ : cl_S) : Option (cl_S) := (lp (fun z : (Int32 × cl_S) => lc_X0_init_86 a z.1 z.2) (x2, σ)).bind (fun z => ec_X0_init_86 a z.1 z.2)
set_option maxHeartbeats 4000000 in
theorem wc_X0_init_86 (C : cl_C D p s m args meth c cX0_init 4 none RX0) (hn9 : meth.name = "<init>") {a : Nat} {x2 : Int32} {σ0 σ σ' : cl_S} {T : Nat → Nat × Nat} {H : Heap} {locs : List Loc} {ls : Array Slot} {cells slots : Nat} (h : bc_X0_init_86 a x2 σ = some σ') (G : cl_G true D c0 ({ frames := 5, cells := σ0.2.2.2.2.2.1, slots := σ0.2.2.2.2.2.2, locals := 106 }) s σ0.2.2.2.1 T σ H locs cells slots) (ha : (T a).1 = 116) (hl : lv_has ls 4 [(0, .ref (c0 + a)), (2, .int x2)]) : W p l e ({ frames := 5, cells := σ0.2.2.2.2.2.1, slots := σ0.2.2.2.2.2.2, locals := 106 }) s m args below meth c H locs cells slots (MQ below (cl_Q true D c0 none cl_no σ0 σ') args s (σ0.2.2.2.2.2.1 - σ'.2.2.2.2.2.1) (σ0.2.2.2.2.2.2 - σ'.2.2.2.2.2.2) (cl_A c0 σ0.2.2.2.1 s.heap.size)) (F0 m 86 ls []) := by
  unfold bc_X0_init_86 at h
  obtain ⟨y, hy, h⟩ := bd_some h
  have hE : (fun z : (Int32 × cl_S) => ∀ (T : Nat → Nat × Nat) (H : Heap) (locs : List Loc) (ls : Array Slot) (cells slots : Nat), cl_G true D c0 ({ frames := 5, cells := σ0.2.2.2.2.2.1, slots := σ0.2.2.2.2.2.2, locals := 106 }) s σ0.2.2.2.1 T z.2 H locs cells slots → (T a).1 = 116 → lv_has ls 4 [(0, .ref (c0 + a)), (2, .int (z.1))] → W p l e ({ frames := 5, cells := σ0.2.2.2.2.2.1, slots := σ0.2.2.2.2.2.2, locals := 106 }) s m args below meth c H locs cells slots (MQ below (cl_Q true D c0 none cl_no σ0 σ') args s (σ0.2.2.2.2.2.1 - σ'.2.2.2.2.2.1) (σ0.2.2.2.2.2.2 - σ'.2.2.2.2.2.2) (cl_A c0 σ0.2.2.2.1 s.heap.size)) (F0 m 144 ls [])) y := by
    clear hy G ha hl
    intro T H locs ls cells slots G ha hl
    obtain ⟨x2, σ⟩ := y
    dsimp only at h G ha hl
    unfold ec_X0_init_86 at h
    exact cl_vret ⟨rfl, rfl⟩ rfl C G h dX0_init_144
  refine lp_recE (fun z : (Int32 × cl_S) => ∀ (T : Nat → Nat × Nat) (H : Heap) (locs : List Loc) (ls : Array Slot) (cells slots : Nat), cl_G true D c0 ({ frames := 5, cells := σ0.2.2.2.2.2.1, slots := σ0.2.2.2.2.2.2, locals := 106 }) s σ0.2.2.2.1 T z.2 H locs cells slots → (T a).1 = 116 → lv_has ls 4 [(0, .ref (c0 + a)), (2, .int (z.1))] → W p l e ({ frames := 5, cells := σ0.2.2.2.2.2.1, slots := σ0.2.2.2.2.2.2, locals := 106 }) s m args below meth c H locs cells slots (MQ below (cl_Q true D c0 none cl_no σ0 σ') args s (σ0.2.2.2.2.2.1 - σ'.2.2.2.2.2.1) (σ0.2.2.2.2.2.2 - σ'.2.2.2.2.2.2) (cl_A c0 σ0.2.2.2.1 s.heap.size)) (F0 m 86 ls [])) (fun z : (Int32 × cl_S) => ∀ (T : Nat → Nat × Nat) (H : Heap) (locs : List Loc) (ls : Array Slot) (cells slots : Nat), cl_G true D c0 ({ frames := 5, cells := σ0.2.2.2.2.2.1, slots := σ0.2.2.2.2.2.2, locals := 106 }) s σ0.2.2.2.1 T z.2 H locs cells slots → (T a).1 = 116 → lv_has ls 4 [(0, .ref (c0 + a)), (2, .int (z.1))] → W p l e ({ frames := 5, cells := σ0.2.2.2.2.2.1, slots := σ0.2.2.2.2.2.2, locals := 106 }) s m args below meth c H locs cells slots (MQ below (cl_Q true D c0 none cl_no σ0 σ') args s (σ0.2.2.2.2.2.1 - σ'.2.2.2.2.2.1) (σ0.2.2.2.2.2.2 - σ'.2.2.2.2.2.2) (cl_A c0 σ0.2.2.2.1 s.heap.size)) (F0 m 144 ls [])) ?_ _ _ hy hE _ _ _ _ _ _ G ha hl
  clear hE hy G ha hl h
  intro z o h hP T H locs ls cells slots G ha hl
  obtain ⟨x2, σ⟩ := z
  dsimp only at h G ha hl
  unfold lc_X0_init_86 at h
  refine lv_iload_n C.1 C.2.1 dX0_init_86 rfl (lv_at hl 1 rfl) ?_
  refine lv_bipush (v := (41:Int32)) C.1 C.2.1 dX0_init_87 (by decide) ?_
  refine lv_icmp_gt (tgt := 144) C.1 C.2.1 dX0_init_89 (by decide) (fun hc => ?_) (fun hc => ?_)
  · rw [if_pos hc] at h
    cases h
    exact hP _ _ _ _ _ _ G ha (lv_sub hl [0, 1] rfl)
  · rw [if_neg hc] at h
    refine lv_iconst (v := (0:Int32)) C.1 C.2.1 dX0_init_92 (by decide) ?_
    refine lv_istore_n (lv' := [(3, .int (0:Int32)), (0, .ref (c0 + a)), (2, .int x2)]) C.1 C.2.1 dX0_init_93 rfl hl (by decide) rfl (fun ls hl_122 => ?_)
    exact wc_X0_init_94i86 C hn9 h hP G ha (lv_sub hl_122 [1, 2, 0] rfl)
noncomputable def bc_X0_init_0 (a : Nat) (x1 : (Option Nat)) (σ : cl_S) : Option (cl_S) := nag (42:Int32) (al σ (42:Int32).toNatClampNeg (vl σ.2.2.2.2.1 (fun a_1 => vl (cl_nw σ 2 (42:Int32).toNatClampNeg (42:Int32).toNatClampNeg) (fun σ_2 => vl (cl_wr σ_2 a 1 (some a_1)) (fun σ_11 => nag (2048:Int32) (al σ_11 (2048:Int32).toNatClampNeg (vl σ_11.2.2.2.2.1 (fun a_15 => vl (cl_nw σ_11 1 (2048:Int32).toNatClampNeg (2048:Int32).toNatClampNeg) (fun σ_16 => vl (cl_wr σ_16 a 3 (some a_15)) (fun σ_25 => nag (200:Int32) (al σ_25 (200:Int32).toNatClampNeg (vl σ_25.2.2.2.2.1 (fun a_29 => vl (cl_nw σ_25 2 (200:Int32).toNatClampNeg (200:Int32).toNatClampNeg) (fun σ_30 => vl (cl_wr σ_30 a 5 (some a_29)) (fun σ_39 => nag (200:Int32) (al σ_39 (200:Int32).toNatClampNeg (vl σ_39.2.2.2.2.1 (fun a_43 => vl (cl_nw σ_39 1 (200:Int32).toNatClampNeg (200:Int32).toNatClampNeg) (fun σ_44 => vl (cl_wr σ_44 a 6 (some a_43)) (fun σ_53 => nag (2048:Int32) (al σ_53 (2048:Int32).toNatClampNeg (vl σ_53.2.2.2.2.1 (fun a_57 => vl (cl_nw σ_53 2 (2048:Int32).toNatClampNeg (2048:Int32).toNatClampNeg) (fun σ_58 => vl (cl_wr σ_58 a 8 (some a_57)) (fun σ_67 => nag (2048:Int32) (al σ_67 (2048:Int32).toNatClampNeg (vl σ_67.2.2.2.2.1 (fun a_71 => vl (cl_nw σ_67 1 (2048:Int32).toNatClampNeg (2048:Int32).toNatClampNeg) (fun σ_72 => vl (cl_wr σ_72 a 9 (some a_71)) (fun σ_81 => nag (2048:Int32) (al σ_81 (2048:Int32).toNatClampNeg (vl σ_81.2.2.2.2.1 (fun a_85 => vl (cl_nw σ_81 1 (2048:Int32).toNatClampNeg (2048:Int32).toNatClampNeg) (fun σ_86 => vl (cl_wr σ_86 a 10 (some a_85)) (fun σ_95 => vl (cl_w σ_95 a 13 (-1:Int32)) (fun σ_99 => nag (40:Int32) (al σ_99 (40:Int32).toNatClampNeg (vl σ_99.2.2.2.2.1 (fun a_103 => vl (cl_nw σ_99 3 (40:Int32).toNatClampNeg (40:Int32).toNatClampNeg) (fun σ_104 => vl (cl_wr σ_104 a 14 (some a_103)) (fun σ_113 => vl (cl_wr σ_113 a 0 x1) (fun σ_117 => bc_X0_init_86 a (1:Int32) σ_117))))))))))))))))))))))))))))))))))))))))))
set_option maxHeartbeats 4000000 in
theorem wc_X0_init_0 (C : cl_C D p s m args meth c cX0_init 4 none RX0) (hn9 : meth.name = "<init>") {a : Nat} {x1 : (Option Nat)} {σ0 σ σ' : cl_S} {T : Nat → Nat × Nat} {H : Heap} {locs : List Loc} {ls : Array Slot} {cells slots : Nat} (h : bc_X0_init_0 a x1 σ = some σ') (G : cl_G true D c0 ({ frames := 5, cells := σ0.2.2.2.2.2.1, slots := σ0.2.2.2.2.2.2, locals := 106 }) s σ0.2.2.2.1 T σ H locs cells slots) (ha : (T a).1 = 116) (f1 : cl_RT T x1 20) (hl : lv_has ls 4 [(0, .ref (c0 + a)), (1, cl_rf c0 x1)]) : W p l e ({ frames := 5, cells := σ0.2.2.2.2.2.1, slots := σ0.2.2.2.2.2.2, locals := 106 }) s m args below meth c H locs cells slots (MQ below (cl_Q true D c0 none cl_no σ0 σ') args s (σ0.2.2.2.2.2.1 - σ'.2.2.2.2.2.1) (σ0.2.2.2.2.2.2 - σ'.2.2.2.2.2.2) (cl_A c0 σ0.2.2.2.1 s.heap.size)) (F0 m 0 ls []) := by
  unfold bc_X0_init_0 at h
  refine lv_aload_n C.1 C.2.1 dX0_init_0 rfl (lv_at hl 0 rfl) ?_
  refine W.objInit (rest := []) C.1 C.2.1 C.2.2.2.1 (C.2.2.2.2.1 _ oi_RX0_3) (C.2.2.2.2.1 _ oi_i) (C.2.2.2.2.1 _ oi_c) rfl (by rw [C.2.2.1]; exact hl.1) rfl dX0_init_1 (Nat.le_of_ble_eq_true rfl) (Nat.le_of_ble_eq_true rfl) ?_
  refine W.eq (g2 := F0 m 4 ls []) rfl ?_
  refine lv_aload_n C.1 C.2.1 dX0_init_4 rfl (lv_at hl 0 rfl) ?_
  refine lv_bipush (v := (42:Int32)) C.1 C.2.1 dX0_init_5 (by decide) ?_
  obtain ⟨hng, h_5⟩ := nag_some h
  obtain ⟨hal, h_6⟩ := al_some h_5
  refine cl_newa (t := 2) C G (by decide) (by decide) .long rfl aw_2 hng.1 rfl (cl_bytes hng.2 (by decide) (by decide)) hal dX0_init_7 (fun T_4 H cells slots t_3 hu G_7 => ?_)
  have ha := hu.kind ha (by decide)
  have f1 := f1.up hu (by decide)
  refine cl_nmB h_6 t_3 (fun a_1 t_3 h_8 => ?_)
  refine cl_nm G_7 h_8 (fun σ_2 G_9 h_10 => ?_)
  refine rp_0_9 (x := (some a_1)) C hn9 G_9 ha (cl_RTs (by rw [t_3])) dX0_init_9 (fun H locs G_12 => ?_)
  refine cl_nm G_12 h_10 (fun σ_11 G_13 h_14 => ?_)
  refine lv_aload_n C.1 C.2.1 dX0_init_12 rfl (lv_at hl 0 rfl) ?_
  refine lv_sipush (v := (2048:Int32)) C.1 C.2.1 dX0_init_13 (by decide) ?_
  obtain ⟨hng, h_19⟩ := nag_some h_14
  obtain ⟨hal, h_20⟩ := al_some h_19
  refine cl_newa (t := 1) C G_13 (by decide) (by decide) .int rfl aw_1 hng.1 rfl (cl_bytes hng.2 (by decide) (by decide)) hal dX0_init_16 (fun T_18 H cells slots t_17 hu G_21 => ?_)
  have ha := hu.kind ha (by decide)
  have f1 := f1.up hu (by decide)
  refine cl_nmB h_20 t_17 (fun a_15 t_17 h_22 => ?_)
  refine cl_nm G_21 h_22 (fun σ_16 G_23 h_24 => ?_)
  refine rp_0_15 (x := (some a_15)) C hn9 G_23 ha (cl_RTs (by rw [t_17])) dX0_init_18 (fun H locs G_26 => ?_)
  refine cl_nm G_26 h_24 (fun σ_25 G_27 h_28 => ?_)
  refine lv_aload_n C.1 C.2.1 dX0_init_21 rfl (lv_at hl 0 rfl) ?_
  refine lv_sipush (v := (200:Int32)) C.1 C.2.1 dX0_init_22 (by decide) ?_
  obtain ⟨hng, h_33⟩ := nag_some h_28
  obtain ⟨hal, h_34⟩ := al_some h_33
  refine cl_newa (t := 2) C G_27 (by decide) (by decide) .long rfl aw_2 hng.1 rfl (cl_bytes hng.2 (by decide) (by decide)) hal dX0_init_25 (fun T_32 H cells slots t_31 hu G_35 => ?_)
  have ha := hu.kind ha (by decide)
  have f1 := f1.up hu (by decide)
  refine cl_nmB h_34 t_31 (fun a_29 t_31 h_36 => ?_)
  refine cl_nm G_35 h_36 (fun σ_30 G_37 h_38 => ?_)
  refine rp_0_19 (x := (some a_29)) C hn9 G_37 ha (cl_RTs (by rw [t_31])) dX0_init_27 (fun H locs G_40 => ?_)
  refine cl_nm G_40 h_38 (fun σ_39 G_41 h_42 => ?_)
  refine lv_aload_n C.1 C.2.1 dX0_init_30 rfl (lv_at hl 0 rfl) ?_
  refine lv_sipush (v := (200:Int32)) C.1 C.2.1 dX0_init_31 (by decide) ?_
  obtain ⟨hng, h_47⟩ := nag_some h_42
  obtain ⟨hal, h_48⟩ := al_some h_47
  refine cl_newa (t := 1) C G_41 (by decide) (by decide) .int rfl aw_1 hng.1 rfl (cl_bytes hng.2 (by decide) (by decide)) hal dX0_init_34 (fun T_46 H cells slots t_45 hu G_49 => ?_)
  have ha := hu.kind ha (by decide)
  have f1 := f1.up hu (by decide)
  refine cl_nmB h_48 t_45 (fun a_43 t_45 h_50 => ?_)
  refine cl_nm G_49 h_50 (fun σ_44 G_51 h_52 => ?_)
  refine rp_0_22 (x := (some a_43)) C hn9 G_51 ha (cl_RTs (by rw [t_45])) dX0_init_36 (fun H locs G_54 => ?_)
  refine cl_nm G_54 h_52 (fun σ_53 G_55 h_56 => ?_)
  refine lv_aload_n C.1 C.2.1 dX0_init_39 rfl (lv_at hl 0 rfl) ?_
  refine lv_sipush (v := (2048:Int32)) C.1 C.2.1 dX0_init_40 (by decide) ?_
  obtain ⟨hng, h_61⟩ := nag_some h_56
  obtain ⟨hal, h_62⟩ := al_some h_61
  refine cl_newa (t := 2) C G_55 (by decide) (by decide) .long rfl aw_2 hng.1 rfl (cl_bytes hng.2 (by decide) (by decide)) hal dX0_init_43 (fun T_60 H cells slots t_59 hu G_63 => ?_)
  have ha := hu.kind ha (by decide)
  have f1 := f1.up hu (by decide)
  refine cl_nmB h_62 t_59 (fun a_57 t_59 h_64 => ?_)
  refine cl_nm G_63 h_64 (fun σ_58 G_65 h_66 => ?_)
  refine rp_0_25 (x := (some a_57)) C hn9 G_65 ha (cl_RTs (by rw [t_59])) dX0_init_45 (fun H locs G_68 => ?_)
  refine cl_nm G_68 h_66 (fun σ_67 G_69 h_70 => ?_)
  refine lv_aload_n C.1 C.2.1 dX0_init_48 rfl (lv_at hl 0 rfl) ?_
  refine lv_sipush (v := (2048:Int32)) C.1 C.2.1 dX0_init_49 (by decide) ?_
  obtain ⟨hng, h_75⟩ := nag_some h_70
  obtain ⟨hal, h_76⟩ := al_some h_75
  refine cl_newa (t := 1) C G_69 (by decide) (by decide) .int rfl aw_1 hng.1 rfl (cl_bytes hng.2 (by decide) (by decide)) hal dX0_init_52 (fun T_74 H cells slots t_73 hu G_77 => ?_)
  have ha := hu.kind ha (by decide)
  have f1 := f1.up hu (by decide)
  refine cl_nmB h_76 t_73 (fun a_71 t_73 h_78 => ?_)
  refine cl_nm G_77 h_78 (fun σ_72 G_79 h_80 => ?_)
  refine rp_0_28 (x := (some a_71)) C hn9 G_79 ha (cl_RTs (by rw [t_73])) dX0_init_54 (fun H locs G_82 => ?_)
  refine cl_nm G_82 h_80 (fun σ_81 G_83 h_84 => ?_)
  refine lv_aload_n C.1 C.2.1 dX0_init_57 rfl (lv_at hl 0 rfl) ?_
  refine lv_sipush (v := (2048:Int32)) C.1 C.2.1 dX0_init_58 (by decide) ?_
  obtain ⟨hng, h_89⟩ := nag_some h_84
  obtain ⟨hal, h_90⟩ := al_some h_89
  refine cl_newa (t := 1) C G_83 (by decide) (by decide) .int rfl aw_1 hng.1 rfl (cl_bytes hng.2 (by decide) (by decide)) hal dX0_init_61 (fun T_88 H cells slots t_87 hu G_91 => ?_)
  have ha := hu.kind ha (by decide)
  have f1 := f1.up hu (by decide)
  refine cl_nmB h_90 t_87 (fun a_85 t_87 h_92 => ?_)
  refine cl_nm G_91 h_92 (fun σ_86 G_93 h_94 => ?_)
  refine rp_0_31 (x := (some a_85)) C hn9 G_93 ha (cl_RTs (by rw [t_87])) dX0_init_63 (fun H locs G_96 => ?_)
  refine cl_nm G_96 h_94 (fun σ_95 G_97 h_98 => ?_)
  refine lv_aload_n C.1 C.2.1 dX0_init_66 rfl (lv_at hl 0 rfl) ?_
  refine lv_iconst (v := (-1:Int32)) C.1 C.2.1 dX0_init_67 (by decide) ?_
  refine rp_0_34 C hn9 G_97 ha dX0_init_68 (fun H locs G_100 => ?_)
  refine cl_nm G_100 h_98 (fun σ_99 G_101 h_102 => ?_)
  refine lv_aload_n C.1 C.2.1 dX0_init_71 rfl (lv_at hl 0 rfl) ?_
  refine lv_bipush (v := (40:Int32)) C.1 C.2.1 dX0_init_72 (by decide) ?_
  obtain ⟨hng, h_107⟩ := nag_some h_102
  obtain ⟨hal, h_108⟩ := al_some h_107
  refine cl_newa (t := 3) C G_101 (by decide) (by decide) .char rfl aw_3 hng.1 rfl (cl_bytes hng.2 (by decide) (by decide)) hal dX0_init_74 (fun T_106 H cells slots t_105 hu G_109 => ?_)
  have ha := hu.kind ha (by decide)
  have f1 := f1.up hu (by decide)
  refine cl_nmB h_108 t_105 (fun a_103 t_105 h_110 => ?_)
  refine cl_nm G_109 h_110 (fun σ_104 G_111 h_112 => ?_)
  refine rp_0_38 (x := (some a_103)) C hn9 G_111 ha (cl_RTs (by rw [t_105])) dX0_init_76 (fun H locs G_114 => ?_)
  refine cl_nm G_114 h_112 (fun σ_113 G_115 h_116 => ?_)
  refine lv_aload_n C.1 C.2.1 dX0_init_79 rfl (lv_at hl 0 rfl) ?_
  refine cl_aload_n C.1 C.2.1 dX0_init_80 rfl (lv_at hl 1 rfl) ?_
  refine rp_0_42 (x := x1) C hn9 G_115 ha f1 dX0_init_81 (fun H locs G_118 => ?_)
  refine cl_nm G_118 h_116 (fun σ_117 G_119 h_120 => ?_)
  refine lv_iconst (v := (1:Int32)) C.1 C.2.1 dX0_init_84 (by decide) ?_
  refine lv_istore_n (lv' := [(2, .int (1:Int32)), (0, .ref (c0 + a)), (1, cl_rf c0 x1)]) C.1 C.2.1 dX0_init_85 rfl hl (by decide) (by first | rfl | (cases x1 <;> rfl)) (fun ls hl_121 => ?_)
  exact wc_X0_init_86 C hn9 h_120 G_119 ha (lv_sub hl_121 [1, 0] rfl)
noncomputable def fc_X0_init (a : Nat) (x1 : (Option Nat)) (σ : cl_S) : Option (cl_S) := bc_X0_init_0 a x1 σ
theorem kc_X0_init (l : Launch) (D : cl_D) (c0 : Nat) {a : Nat} {x1 : (Option Nat)} {σ σ' : cl_S} (ha : (σ.2.2.2.1 a).1 = 116) (h : fc_X0_init a x1 σ = some σ') (f1 : cl_RT σ.2.2.2.1 x1 20) : cl_Met true l D c0 yX0_init cX0_init 4 none 5 106 [.ref (c0 + a), cl_rf c0 x1] σ none cl_no σ' :=
  by cases x1 <;> exact cl_of (by decide) (Nat.le_of_ble_eq_true rfl) (fun p e s m args below meth c ls C hn G hl => wc_X0_init_0 C hn h G ha f1 hl)
abbrev cX4_passOver : ByteArray := prog_6_method_4_code
def yX4_passOver : MethodName := ⟨RX4, "passOver", "()V"⟩
theorem dX4_passOver_0 : decode cX4_passOver 0 = .ok (.iconst 0, 1) := by decide +kernel
theorem dX4_passOver_1 : decode cX4_passOver 1 = .ok (.istore_n 1, 1) := by decide +kernel
theorem dX4_passOver_2 : decode cX4_passOver 2 = .ok (.aload_n 0, 1) := by decide +kernel
theorem dX4_passOver_3 : decode cX4_passOver 3 = .ok (.getfield 32, 3) := by decide +kernel
theorem dX4_passOver_6 : decode cX4_passOver 6 = .ok (.aload_n 0, 1) := by decide +kernel
theorem dX4_passOver_7 : decode cX4_passOver 7 = .ok (.getfield 26, 3) := by decide +kernel
theorem dX4_passOver_10 : decode cX4_passOver 10 = .ok (.if_icmp .ge 73, 3) := by decide +kernel
theorem dX4_passOver_13 : decode cX4_passOver 13 = .ok (.aload_n 0, 1) := by decide +kernel
theorem dX4_passOver_14 : decode cX4_passOver 14 = .ok (.getfield 11, 3) := by decide +kernel
theorem dX4_passOver_17 : decode cX4_passOver 17 = .ok (.aload_n 0, 1) := by decide +kernel
theorem dX4_passOver_18 : decode cX4_passOver 18 = .ok (.getfield 32, 3) := by decide +kernel
theorem dX4_passOver_21 : decode cX4_passOver 21 = .ok (.caload, 1) := by decide +kernel
theorem dX4_passOver_22 : decode cX4_passOver 22 = .ok (.istore_n 2, 1) := by decide +kernel
theorem dX4_passOver_23 : decode cX4_passOver 23 = .ok (.iload_n 2, 1) := by decide +kernel
theorem dX4_passOver_24 : decode cX4_passOver 24 = .ok (.bipush 59, 2) := by decide +kernel
theorem dX4_passOver_26 : decode cX4_passOver 26 = .ok (.if_icmp .ne 5, 3) := by decide +kernel
theorem dX4_passOver_29 : decode cX4_passOver 29 = .ok (.iconst 1, 1) := by decide +kernel
theorem dX4_passOver_30 : decode cX4_passOver 30 = .ok (.istore_n 1, 1) := by decide +kernel
theorem dX4_passOver_31 : decode cX4_passOver 31 = .ok (.iload_n 2, 1) := by decide +kernel
theorem dX4_passOver_32 : decode cX4_passOver 32 = .ok (.bipush 32, 2) := by decide +kernel
theorem dX4_passOver_34 : decode cX4_passOver 34 = .ok (.if_icmp .eq 15, 3) := by decide +kernel
theorem dX4_passOver_37 : decode cX4_passOver 37 = .ok (.iload_n 2, 1) := by decide +kernel
theorem dX4_passOver_38 : decode cX4_passOver 38 = .ok (.bipush 9, 2) := by decide +kernel
theorem dX4_passOver_40 : decode cX4_passOver 40 = .ok (.if_icmp .eq 9, 3) := by decide +kernel
theorem dX4_passOver_43 : decode cX4_passOver 43 = .ok (.iload_n 2, 1) := by decide +kernel
theorem dX4_passOver_44 : decode cX4_passOver 44 = .ok (.bipush 13, 2) := by decide +kernel
theorem dX4_passOver_46 : decode cX4_passOver 46 = .ok (.if_icmp .ne 7, 3) := by decide +kernel
theorem dX4_passOver_49 : decode cX4_passOver 49 = .ok (.iconst 1, 1) := by decide +kernel
theorem dX4_passOver_50 : decode cX4_passOver 50 = .ok (.goto 4, 3) := by decide +kernel
theorem dX4_passOver_53 : decode cX4_passOver 53 = .ok (.iconst 0, 1) := by decide +kernel
theorem dX4_passOver_54 : decode cX4_passOver 54 = .ok (.istore_n 3, 1) := by decide +kernel
theorem dX4_passOver_55 : decode cX4_passOver 55 = .ok (.iload_n 2, 1) := by decide +kernel
theorem dX4_passOver_56 : decode cX4_passOver 56 = .ok (.bipush 10, 2) := by decide +kernel
theorem dX4_passOver_58 : decode cX4_passOver 58 = .ok (.if_icmp .eq 11, 3) := by decide +kernel
theorem dX4_passOver_61 : decode cX4_passOver 61 = .ok (.iload_n 1, 1) := by decide +kernel
theorem dX4_passOver_62 : decode cX4_passOver 62 = .ok (.ifCond .ne 8, 3) := by decide +kernel
theorem dX4_passOver_65 : decode cX4_passOver 65 = .ok (.iload_n 3, 1) := by decide +kernel
theorem dX4_passOver_66 : decode cX4_passOver 66 = .ok (.ifCond .ne 4, 3) := by decide +kernel
theorem dX4_passOver_69 : decode cX4_passOver 69 = .ok (.return_, 1) := by decide +kernel
theorem dX4_passOver_70 : decode cX4_passOver 70 = .ok (.aload_n 0, 1) := by decide +kernel
theorem dX4_passOver_71 : decode cX4_passOver 71 = .ok (.dup, 1) := by decide +kernel
theorem dX4_passOver_72 : decode cX4_passOver 72 = .ok (.getfield 32, 3) := by decide +kernel
theorem dX4_passOver_75 : decode cX4_passOver 75 = .ok (.iconst 1, 1) := by decide +kernel
theorem dX4_passOver_76 : decode cX4_passOver 76 = .ok (.iadd, 1) := by decide +kernel
theorem dX4_passOver_77 : decode cX4_passOver 77 = .ok (.putfield 32, 3) := by decide +kernel
theorem dX4_passOver_80 : decode cX4_passOver 80 = .ok (.goto (-78), 3) := by decide +kernel
theorem dX4_passOver_83 : decode cX4_passOver 83 = .ok (.return_, 1) := by decide +kernel
theorem cc_X4_passOver : Cond.code yX4_passOver cX4_passOver 4 none ∈ rf_tb := rf_at 763 (by decide +kernel) (by decide +kernel)
noncomputable def bc_X4_passOver_70i2 (a : Nat) (x1 : Int32) (σ : cl_S) : Option ((Int32 × cl_S) ⊕ ((cl_S) ⊕ (Int32 × cl_S))) := vl (cl_w σ a 2 ((σ.1 a 2) + (1:Int32))) (fun σ_8 => some (.inl (x1, σ_8)))
set_option maxHeartbeats 4000000 in
theorem wc_X4_passOver_70i2 (C : cl_C D p s m args meth c cX4_passOver 4 none RX4) {a : Nat} {x1 : Int32} {σ0 σ σ' : cl_S} {T : Nat → Nat × Nat} {H : Heap} {locs : List Loc} {ls : Array Slot} {cells slots : Nat} {o : (Int32 × cl_S) ⊕ ((cl_S) ⊕ (Int32 × cl_S))} (h : bc_X4_passOver_70i2 a x1 σ = some o) (hP : Sum.elim (fun z : (Int32 × cl_S) => ∀ (T : Nat → Nat × Nat) (H : Heap) (locs : List Loc) (ls : Array Slot) (cells slots : Nat), cl_G true D c0 ({ frames := 0, cells := σ0.2.2.2.2.2.1, slots := σ0.2.2.2.2.2.2, locals := 0 }) s σ0.2.2.2.1 T z.2 H locs cells slots → (T a).1 = 20 → lv_has ls 4 [(0, .ref (c0 + a)), (1, .int (z.1))] → W p l e ({ frames := 0, cells := σ0.2.2.2.2.2.1, slots := σ0.2.2.2.2.2.2, locals := 0 }) s m args below meth c H locs cells slots (MQ below (cl_Q true D c0 none cl_no σ0 σ') args s (σ0.2.2.2.2.2.1 - σ'.2.2.2.2.2.1) (σ0.2.2.2.2.2.2 - σ'.2.2.2.2.2.2) (cl_A c0 σ0.2.2.2.1 s.heap.size)) (F0 m 2 ls [])) (Sum.elim (fun z : cl_S => z = σ') (fun z : (Int32 × cl_S) => ∀ (T : Nat → Nat × Nat) (H : Heap) (locs : List Loc) (ls : Array Slot) (cells slots : Nat), cl_G true D c0 ({ frames := 0, cells := σ0.2.2.2.2.2.1, slots := σ0.2.2.2.2.2.2, locals := 0 }) s σ0.2.2.2.1 T z.2 H locs cells slots → (T a).1 = 20 → lv_has ls 4 [(0, .ref (c0 + a)), (1, .int (z.1))] → W p l e ({ frames := 0, cells := σ0.2.2.2.2.2.1, slots := σ0.2.2.2.2.2.2, locals := 0 }) s m args below meth c H locs cells slots (MQ below (cl_Q true D c0 none cl_no σ0 σ') args s (σ0.2.2.2.2.2.1 - σ'.2.2.2.2.2.1) (σ0.2.2.2.2.2.2 - σ'.2.2.2.2.2.2) (cl_A c0 σ0.2.2.2.1 s.heap.size)) (F0 m 83 ls []))) o) (G : cl_G true D c0 ({ frames := 0, cells := σ0.2.2.2.2.2.1, slots := σ0.2.2.2.2.2.2, locals := 0 }) s σ0.2.2.2.1 T σ H locs cells slots) (ha : (T a).1 = 20) (hl : lv_has ls 4 [(0, .ref (c0 + a)), (1, .int x1)]) : W p l e ({ frames := 0, cells := σ0.2.2.2.2.2.1, slots := σ0.2.2.2.2.2.2, locals := 0 }) s m args below meth c H locs cells slots (MQ below (cl_Q true D c0 none cl_no σ0 σ') args s (σ0.2.2.2.2.2.1 - σ'.2.2.2.2.2.1) (σ0.2.2.2.2.2.2 - σ'.2.2.2.2.2.2) (cl_A c0 σ0.2.2.2.1 s.heap.size)) (F0 m 70 ls []) := by
  unfold bc_X4_passOver_70i2 at h
  refine lv_aload_n C.1 C.2.1 dX4_passOver_70 rfl (lv_at hl 0 rfl) ?_
  refine lv_dup C.1 C.2.1 dX4_passOver_71 rfl ?_
  refine cg_4_32 C G ha dX4_passOver_72 ?_
  refine lv_iconst (v := (1:Int32)) C.1 C.2.1 dX4_passOver_75 (by decide) ?_
  refine lv_iadd C.1 C.2.1 dX4_passOver_76 ?_
  refine cp_4_32 C G ha dX4_passOver_77 (fun H locs G_9 => ?_)
  refine cl_nm G_9 h (fun σ_8 G_10 h_11 => ?_)
  refine lv_goto (tgt := 2) C.1 C.2.1 dX4_passOver_80 (by decide) ?_
  cases h_11
  exact hP _ _ _ _ _ _ G_10 ha (lv_sub hl [0, 1] rfl)
noncomputable def bc_X4_passOver_54i2 (a : Nat) (x1 : Int32) (x2 : Int32) (v0 : Int32) (σ : cl_S) : Option ((Int32 × cl_S) ⊕ ((cl_S) ⊕ (Int32 × cl_S))) := (if x2 = (10:Int32) then some (.inr (.inl σ)) else (if x1 = 0 then (if v0 = 0 then some (.inr (.inl σ)) else bc_X4_passOver_70i2 a x1 σ) else bc_X4_passOver_70i2 a x1 σ))
set_option maxHeartbeats 4000000 in
theorem wc_X4_passOver_54i2 (C : cl_C D p s m args meth c cX4_passOver 4 none RX4) {a : Nat} {x1 : Int32} {x2 : Int32} {v0 : Int32} {σ0 σ σ' : cl_S} {T : Nat → Nat × Nat} {H : Heap} {locs : List Loc} {ls : Array Slot} {cells slots : Nat} {o : (Int32 × cl_S) ⊕ ((cl_S) ⊕ (Int32 × cl_S))} (h : bc_X4_passOver_54i2 a x1 x2 v0 σ = some o) (hP : Sum.elim (fun z : (Int32 × cl_S) => ∀ (T : Nat → Nat × Nat) (H : Heap) (locs : List Loc) (ls : Array Slot) (cells slots : Nat), cl_G true D c0 ({ frames := 0, cells := σ0.2.2.2.2.2.1, slots := σ0.2.2.2.2.2.2, locals := 0 }) s σ0.2.2.2.1 T z.2 H locs cells slots → (T a).1 = 20 → lv_has ls 4 [(0, .ref (c0 + a)), (1, .int (z.1))] → W p l e ({ frames := 0, cells := σ0.2.2.2.2.2.1, slots := σ0.2.2.2.2.2.2, locals := 0 }) s m args below meth c H locs cells slots (MQ below (cl_Q true D c0 none cl_no σ0 σ') args s (σ0.2.2.2.2.2.1 - σ'.2.2.2.2.2.1) (σ0.2.2.2.2.2.2 - σ'.2.2.2.2.2.2) (cl_A c0 σ0.2.2.2.1 s.heap.size)) (F0 m 2 ls [])) (Sum.elim (fun z : cl_S => z = σ') (fun z : (Int32 × cl_S) => ∀ (T : Nat → Nat × Nat) (H : Heap) (locs : List Loc) (ls : Array Slot) (cells slots : Nat), cl_G true D c0 ({ frames := 0, cells := σ0.2.2.2.2.2.1, slots := σ0.2.2.2.2.2.2, locals := 0 }) s σ0.2.2.2.1 T z.2 H locs cells slots → (T a).1 = 20 → lv_has ls 4 [(0, .ref (c0 + a)), (1, .int (z.1))] → W p l e ({ frames := 0, cells := σ0.2.2.2.2.2.1, slots := σ0.2.2.2.2.2.2, locals := 0 }) s m args below meth c H locs cells slots (MQ below (cl_Q true D c0 none cl_no σ0 σ') args s (σ0.2.2.2.2.2.1 - σ'.2.2.2.2.2.1) (σ0.2.2.2.2.2.2 - σ'.2.2.2.2.2.2) (cl_A c0 σ0.2.2.2.1 s.heap.size)) (F0 m 83 ls []))) o) (G : cl_G true D c0 ({ frames := 0, cells := σ0.2.2.2.2.2.1, slots := σ0.2.2.2.2.2.2, locals := 0 }) s σ0.2.2.2.1 T σ H locs cells slots) (ha : (T a).1 = 20) (hl : lv_has ls 4 [(0, .ref (c0 + a)), (1, .int x1), (2, .int x2)]) : W p l e ({ frames := 0, cells := σ0.2.2.2.2.2.1, slots := σ0.2.2.2.2.2.2, locals := 0 }) s m args below meth c H locs cells slots (MQ below (cl_Q true D c0 none cl_no σ0 σ') args s (σ0.2.2.2.2.2.1 - σ'.2.2.2.2.2.1) (σ0.2.2.2.2.2.2 - σ'.2.2.2.2.2.2) (cl_A c0 σ0.2.2.2.1 s.heap.size)) (F0 m 54 ls [.int v0]) := by
  unfold bc_X4_passOver_54i2 at h
  refine lv_istore_n (lv' := [(3, .int v0), (0, .ref (c0 + a)), (1, .int x1), (2, .int x2)]) C.1 C.2.1 dX4_passOver_54 rfl hl (by decide) rfl (fun ls hl_7 => ?_)
  refine lv_iload_n C.1 C.2.1 dX4_passOver_55 rfl (lv_at hl_7 3 rfl) ?_
  refine lv_bipush (v := (10:Int32)) C.1 C.2.1 dX4_passOver_56 (by decide) ?_
  refine lv_icmp_eq (tgt := 69) C.1 C.2.1 dX4_passOver_58 (by decide) (fun hc => ?_) (fun hc => ?_)
  · rw [if_pos hc] at h
    cases h
    have hP := congrArg some hP
    exact cl_vret ⟨rfl, rfl⟩ rfl C G hP dX4_passOver_69
  · rw [if_neg hc] at h
    refine lv_iload_n C.1 C.2.1 dX4_passOver_61 rfl (lv_at hl_7 2 rfl) ?_
    refine lv_if_ne (tgt := 70) C.1 C.2.1 dX4_passOver_62 (by decide) (fun hc => ?_) (fun hc => ?_)
    · rw [if_neg hc] at h
      exact wc_X4_passOver_70i2 C h hP G ha (lv_sub hl_7 [1, 2] rfl)
    · rw [if_pos hc] at h
      refine lv_iload_n C.1 C.2.1 dX4_passOver_65 rfl (lv_at hl_7 0 rfl) ?_
      refine lv_if_ne (tgt := 70) C.1 C.2.1 dX4_passOver_66 (by decide) (fun hc => ?_) (fun hc => ?_)
      · rw [if_neg hc] at h
        exact wc_X4_passOver_70i2 C h hP G ha (lv_sub hl_7 [1, 2] rfl)
      · rw [if_pos hc] at h
        cases h
        have hP := congrArg some hP
        exact cl_vret ⟨rfl, rfl⟩ rfl C G hP dX4_passOver_69
noncomputable def bc_X4_passOver_49i2 (a : Nat) (x1 : Int32) (x2 : Int32) (σ : cl_S) : Option ((Int32 × cl_S) ⊕ ((cl_S) ⊕ (Int32 × cl_S))) := bc_X4_passOver_54i2 a x1 x2 (1:Int32) σ
set_option maxHeartbeats 4000000 in
theorem wc_X4_passOver_49i2 (C : cl_C D p s m args meth c cX4_passOver 4 none RX4) {a : Nat} {x1 : Int32} {x2 : Int32} {σ0 σ σ' : cl_S} {T : Nat → Nat × Nat} {H : Heap} {locs : List Loc} {ls : Array Slot} {cells slots : Nat} {o : (Int32 × cl_S) ⊕ ((cl_S) ⊕ (Int32 × cl_S))} (h : bc_X4_passOver_49i2 a x1 x2 σ = some o) (hP : Sum.elim (fun z : (Int32 × cl_S) => ∀ (T : Nat → Nat × Nat) (H : Heap) (locs : List Loc) (ls : Array Slot) (cells slots : Nat), cl_G true D c0 ({ frames := 0, cells := σ0.2.2.2.2.2.1, slots := σ0.2.2.2.2.2.2, locals := 0 }) s σ0.2.2.2.1 T z.2 H locs cells slots → (T a).1 = 20 → lv_has ls 4 [(0, .ref (c0 + a)), (1, .int (z.1))] → W p l e ({ frames := 0, cells := σ0.2.2.2.2.2.1, slots := σ0.2.2.2.2.2.2, locals := 0 }) s m args below meth c H locs cells slots (MQ below (cl_Q true D c0 none cl_no σ0 σ') args s (σ0.2.2.2.2.2.1 - σ'.2.2.2.2.2.1) (σ0.2.2.2.2.2.2 - σ'.2.2.2.2.2.2) (cl_A c0 σ0.2.2.2.1 s.heap.size)) (F0 m 2 ls [])) (Sum.elim (fun z : cl_S => z = σ') (fun z : (Int32 × cl_S) => ∀ (T : Nat → Nat × Nat) (H : Heap) (locs : List Loc) (ls : Array Slot) (cells slots : Nat), cl_G true D c0 ({ frames := 0, cells := σ0.2.2.2.2.2.1, slots := σ0.2.2.2.2.2.2, locals := 0 }) s σ0.2.2.2.1 T z.2 H locs cells slots → (T a).1 = 20 → lv_has ls 4 [(0, .ref (c0 + a)), (1, .int (z.1))] → W p l e ({ frames := 0, cells := σ0.2.2.2.2.2.1, slots := σ0.2.2.2.2.2.2, locals := 0 }) s m args below meth c H locs cells slots (MQ below (cl_Q true D c0 none cl_no σ0 σ') args s (σ0.2.2.2.2.2.1 - σ'.2.2.2.2.2.1) (σ0.2.2.2.2.2.2 - σ'.2.2.2.2.2.2) (cl_A c0 σ0.2.2.2.1 s.heap.size)) (F0 m 83 ls []))) o) (G : cl_G true D c0 ({ frames := 0, cells := σ0.2.2.2.2.2.1, slots := σ0.2.2.2.2.2.2, locals := 0 }) s σ0.2.2.2.1 T σ H locs cells slots) (ha : (T a).1 = 20) (hl : lv_has ls 4 [(0, .ref (c0 + a)), (1, .int x1), (2, .int x2)]) : W p l e ({ frames := 0, cells := σ0.2.2.2.2.2.1, slots := σ0.2.2.2.2.2.2, locals := 0 }) s m args below meth c H locs cells slots (MQ below (cl_Q true D c0 none cl_no σ0 σ') args s (σ0.2.2.2.2.2.1 - σ'.2.2.2.2.2.1) (σ0.2.2.2.2.2.2 - σ'.2.2.2.2.2.2) (cl_A c0 σ0.2.2.2.1 s.heap.size)) (F0 m 49 ls []) := by
  unfold bc_X4_passOver_49i2 at h
  refine lv_iconst (v := (1:Int32)) C.1 C.2.1 dX4_passOver_49 (by decide) ?_
  refine lv_goto (tgt := 54) C.1 C.2.1 dX4_passOver_50 (by decide) ?_
  exact wc_X4_passOver_54i2 C h hP G ha (lv_sub hl [0, 1, 2] rfl)
noncomputable def bc_X4_passOver_31i2 (a : Nat) (x1 : Int32) (x2 : Int32) (σ : cl_S) : Option ((Int32 × cl_S) ⊕ ((cl_S) ⊕ (Int32 × cl_S))) := (if x2 = (32:Int32) then bc_X4_passOver_49i2 a x1 x2 σ else (if x2 = (9:Int32) then bc_X4_passOver_49i2 a x1 x2 σ else (if x2 = (13:Int32) then bc_X4_passOver_49i2 a x1 x2 σ else bc_X4_passOver_54i2 a x1 x2 (0:Int32) σ)))
set_option maxHeartbeats 4000000 in
theorem wc_X4_passOver_31i2 (C : cl_C D p s m args meth c cX4_passOver 4 none RX4) {a : Nat} {x1 : Int32} {x2 : Int32} {σ0 σ σ' : cl_S} {T : Nat → Nat × Nat} {H : Heap} {locs : List Loc} {ls : Array Slot} {cells slots : Nat} {o : (Int32 × cl_S) ⊕ ((cl_S) ⊕ (Int32 × cl_S))} (h : bc_X4_passOver_31i2 a x1 x2 σ = some o) (hP : Sum.elim (fun z : (Int32 × cl_S) => ∀ (T : Nat → Nat × Nat) (H : Heap) (locs : List Loc) (ls : Array Slot) (cells slots : Nat), cl_G true D c0 ({ frames := 0, cells := σ0.2.2.2.2.2.1, slots := σ0.2.2.2.2.2.2, locals := 0 }) s σ0.2.2.2.1 T z.2 H locs cells slots → (T a).1 = 20 → lv_has ls 4 [(0, .ref (c0 + a)), (1, .int (z.1))] → W p l e ({ frames := 0, cells := σ0.2.2.2.2.2.1, slots := σ0.2.2.2.2.2.2, locals := 0 }) s m args below meth c H locs cells slots (MQ below (cl_Q true D c0 none cl_no σ0 σ') args s (σ0.2.2.2.2.2.1 - σ'.2.2.2.2.2.1) (σ0.2.2.2.2.2.2 - σ'.2.2.2.2.2.2) (cl_A c0 σ0.2.2.2.1 s.heap.size)) (F0 m 2 ls [])) (Sum.elim (fun z : cl_S => z = σ') (fun z : (Int32 × cl_S) => ∀ (T : Nat → Nat × Nat) (H : Heap) (locs : List Loc) (ls : Array Slot) (cells slots : Nat), cl_G true D c0 ({ frames := 0, cells := σ0.2.2.2.2.2.1, slots := σ0.2.2.2.2.2.2, locals := 0 }) s σ0.2.2.2.1 T z.2 H locs cells slots → (T a).1 = 20 → lv_has ls 4 [(0, .ref (c0 + a)), (1, .int (z.1))] → W p l e ({ frames := 0, cells := σ0.2.2.2.2.2.1, slots := σ0.2.2.2.2.2.2, locals := 0 }) s m args below meth c H locs cells slots (MQ below (cl_Q true D c0 none cl_no σ0 σ') args s (σ0.2.2.2.2.2.1 - σ'.2.2.2.2.2.1) (σ0.2.2.2.2.2.2 - σ'.2.2.2.2.2.2) (cl_A c0 σ0.2.2.2.1 s.heap.size)) (F0 m 83 ls []))) o) (G : cl_G true D c0 ({ frames := 0, cells := σ0.2.2.2.2.2.1, slots := σ0.2.2.2.2.2.2, locals := 0 }) s σ0.2.2.2.1 T σ H locs cells slots) (ha : (T a).1 = 20) (hl : lv_has ls 4 [(0, .ref (c0 + a)), (1, .int x1), (2, .int x2)]) : W p l e ({ frames := 0, cells := σ0.2.2.2.2.2.1, slots := σ0.2.2.2.2.2.2, locals := 0 }) s m args below meth c H locs cells slots (MQ below (cl_Q true D c0 none cl_no σ0 σ') args s (σ0.2.2.2.2.2.1 - σ'.2.2.2.2.2.1) (σ0.2.2.2.2.2.2 - σ'.2.2.2.2.2.2) (cl_A c0 σ0.2.2.2.1 s.heap.size)) (F0 m 31 ls []) := by
  unfold bc_X4_passOver_31i2 at h
  refine lv_iload_n C.1 C.2.1 dX4_passOver_31 rfl (lv_at hl 2 rfl) ?_
  refine lv_bipush (v := (32:Int32)) C.1 C.2.1 dX4_passOver_32 (by decide) ?_
  refine lv_icmp_eq (tgt := 49) C.1 C.2.1 dX4_passOver_34 (by decide) (fun hc => ?_) (fun hc => ?_)
  · rw [if_pos hc] at h
    exact wc_X4_passOver_49i2 C h hP G ha (lv_sub hl [0, 1, 2] rfl)
  · rw [if_neg hc] at h
    refine lv_iload_n C.1 C.2.1 dX4_passOver_37 rfl (lv_at hl 2 rfl) ?_
    refine lv_bipush (v := (9:Int32)) C.1 C.2.1 dX4_passOver_38 (by decide) ?_
    refine lv_icmp_eq (tgt := 49) C.1 C.2.1 dX4_passOver_40 (by decide) (fun hc => ?_) (fun hc => ?_)
    · rw [if_pos hc] at h
      exact wc_X4_passOver_49i2 C h hP G ha (lv_sub hl [0, 1, 2] rfl)
    · rw [if_neg hc] at h
      refine lv_iload_n C.1 C.2.1 dX4_passOver_43 rfl (lv_at hl 2 rfl) ?_
      refine lv_bipush (v := (13:Int32)) C.1 C.2.1 dX4_passOver_44 (by decide) ?_
      refine lv_icmp_ne (tgt := 53) C.1 C.2.1 dX4_passOver_46 (by decide) (fun hc => ?_) (fun hc => ?_)
      · rw [if_neg hc] at h
        refine lv_iconst (v := (0:Int32)) C.1 C.2.1 dX4_passOver_53 (by decide) ?_
        exact wc_X4_passOver_54i2 C h hP G ha (lv_sub hl [0, 1, 2] rfl)
      · rw [if_pos hc] at h
        exact wc_X4_passOver_49i2 C h hP G ha (lv_sub hl [0, 1, 2] rfl)
noncomputable def lc_X4_passOver_2 (a : Nat) (x1 : Int32) (σ : cl_S) : Option ((Int32 × cl_S) ⊕ ((cl_S) ⊕ (Int32 × cl_S))) := (if (σ.1 a 1) ≤ (σ.1 a 2) then some (.inr (.inr (x1, σ))) else ix (σ.1 a 2) 6000 (vl (σ.1 (a + 1) (σ.1 a 2).toNatClampNeg) (fun x2_4 => (if x2_4 = (59:Int32) then bc_X4_passOver_31i2 a (1:Int32) x2_4 σ else bc_X4_passOver_31i2 a x1 x2_4 σ))))
noncomputable def ec_X4_passOver_2 (a : Nat) (x1 : Int32) (σ : cl_S) : Option (cl_S) := some σ
noncomputable def bc_X4_passOver_2 (a : Nat) (x1 : Int32) (σ : cl_S) : Option (cl_S) := (lp (fun z : (Int32 × cl_S) => lc_X4_passOver_2 a z.1 z.2) (x1, σ)).bind (fun y => Sum.elim (fun z => some z) (fun z => ec_X4_passOver_2 a z.1 z.2) y)
set_option maxHeartbeats 4000000 in
theorem wc_X4_passOver_2 (C : cl_C D p s m args meth c cX4_passOver 4 none RX4) {a : Nat} {x1 : Int32} {σ0 σ σ' : cl_S} {T : Nat → Nat × Nat} {H : Heap} {locs : List Loc} {ls : Array Slot} {cells slots : Nat} (h : bc_X4_passOver_2 a x1 σ = some σ') (G : cl_G true D c0 ({ frames := 0, cells := σ0.2.2.2.2.2.1, slots := σ0.2.2.2.2.2.2, locals := 0 }) s σ0.2.2.2.1 T σ H locs cells slots) (ha : (T a).1 = 20) (hl : lv_has ls 4 [(0, .ref (c0 + a)), (1, .int x1)]) : W p l e ({ frames := 0, cells := σ0.2.2.2.2.2.1, slots := σ0.2.2.2.2.2.2, locals := 0 }) s m args below meth c H locs cells slots (MQ below (cl_Q true D c0 none cl_no σ0 σ') args s (σ0.2.2.2.2.2.1 - σ'.2.2.2.2.2.1) (σ0.2.2.2.2.2.2 - σ'.2.2.2.2.2.2) (cl_A c0 σ0.2.2.2.1 s.heap.size)) (F0 m 2 ls []) := by
  unfold bc_X4_passOver_2 at h
  obtain ⟨y, hy, h⟩ := bd_some h
  have hE : (Sum.elim (fun z : cl_S => z = σ') (fun z : (Int32 × cl_S) => ∀ (T : Nat → Nat × Nat) (H : Heap) (locs : List Loc) (ls : Array Slot) (cells slots : Nat), cl_G true D c0 ({ frames := 0, cells := σ0.2.2.2.2.2.1, slots := σ0.2.2.2.2.2.2, locals := 0 }) s σ0.2.2.2.1 T z.2 H locs cells slots → (T a).1 = 20 → lv_has ls 4 [(0, .ref (c0 + a)), (1, .int (z.1))] → W p l e ({ frames := 0, cells := σ0.2.2.2.2.2.1, slots := σ0.2.2.2.2.2.2, locals := 0 }) s m args below meth c H locs cells slots (MQ below (cl_Q true D c0 none cl_no σ0 σ') args s (σ0.2.2.2.2.2.1 - σ'.2.2.2.2.2.1) (σ0.2.2.2.2.2.2 - σ'.2.2.2.2.2.2) (cl_A c0 σ0.2.2.2.1 s.heap.size)) (F0 m 83 ls []))) y := by
    clear hy G ha hl
    cases y with
    | inl z =>
      exact Option.some.inj h
    | inr z =>
      intro T H locs ls cells slots G ha hl
      have h := se_r h
      obtain ⟨x1, σ⟩ := z
      dsimp only at h G ha hl
      unfold ec_X4_passOver_2 at h
      exact cl_vret ⟨rfl, rfl⟩ rfl C G h dX4_passOver_83
  refine lp_recE (fun z : (Int32 × cl_S) => ∀ (T : Nat → Nat × Nat) (H : Heap) (locs : List Loc) (ls : Array Slot) (cells slots : Nat), cl_G true D c0 ({ frames := 0, cells := σ0.2.2.2.2.2.1, slots := σ0.2.2.2.2.2.2, locals := 0 }) s σ0.2.2.2.1 T z.2 H locs cells slots → (T a).1 = 20 → lv_has ls 4 [(0, .ref (c0 + a)), (1, .int (z.1))] → W p l e ({ frames := 0, cells := σ0.2.2.2.2.2.1, slots := σ0.2.2.2.2.2.2, locals := 0 }) s m args below meth c H locs cells slots (MQ below (cl_Q true D c0 none cl_no σ0 σ') args s (σ0.2.2.2.2.2.1 - σ'.2.2.2.2.2.1) (σ0.2.2.2.2.2.2 - σ'.2.2.2.2.2.2) (cl_A c0 σ0.2.2.2.1 s.heap.size)) (F0 m 2 ls [])) (Sum.elim (fun z : cl_S => z = σ') (fun z : (Int32 × cl_S) => ∀ (T : Nat → Nat × Nat) (H : Heap) (locs : List Loc) (ls : Array Slot) (cells slots : Nat), cl_G true D c0 ({ frames := 0, cells := σ0.2.2.2.2.2.1, slots := σ0.2.2.2.2.2.2, locals := 0 }) s σ0.2.2.2.1 T z.2 H locs cells slots → (T a).1 = 20 → lv_has ls 4 [(0, .ref (c0 + a)), (1, .int (z.1))] → W p l e ({ frames := 0, cells := σ0.2.2.2.2.2.1, slots := σ0.2.2.2.2.2.2, locals := 0 }) s m args below meth c H locs cells slots (MQ below (cl_Q true D c0 none cl_no σ0 σ') args s (σ0.2.2.2.2.2.1 - σ'.2.2.2.2.2.1) (σ0.2.2.2.2.2.2 - σ'.2.2.2.2.2.2) (cl_A c0 σ0.2.2.2.1 s.heap.size)) (F0 m 83 ls []))) ?_ _ _ hy hE _ _ _ _ _ _ G ha hl
  clear hE hy G ha hl h
  intro z o h hP T H locs ls cells slots G ha hl
  obtain ⟨x1, σ⟩ := z
  dsimp only at h G ha hl
  unfold lc_X4_passOver_2 at h
  refine lv_aload_n C.1 C.2.1 dX4_passOver_2 rfl (lv_at hl 0 rfl) ?_
  refine cg_4_32 C G ha dX4_passOver_3 ?_
  refine lv_aload_n C.1 C.2.1 dX4_passOver_6 rfl (lv_at hl 0 rfl) ?_
  refine cg_4_26 C G ha dX4_passOver_7 ?_
  refine lv_icmp_ge (tgt := 83) C.1 C.2.1 dX4_passOver_10 (by decide) (fun hc => ?_) (fun hc => ?_)
  · rw [if_pos hc] at h
    cases h
    exact hP _ _ _ _ _ _ G ha (lv_sub hl [0, 1] rfl)
  · rw [if_neg hc] at h
    refine lv_aload_n C.1 C.2.1 dX4_passOver_13 rfl (lv_at hl 0 rfl) ?_
    refine cg_4_11 C G ha dX4_passOver_14 (fun t_2 => ?_)
    refine lv_aload_n C.1 C.2.1 dX4_passOver_17 rfl (lv_at hl 0 rfl) ?_
    refine cg_4_32 C G ha dX4_passOver_18 ?_
    obtain ⟨hi, h_3⟩ := ix_some h
    refine cl_cald C G t_2 hi dX4_passOver_21 ?_
    refine vt_i h_3 (fun x2_4 h_5 => ?_)
    refine lv_istore_n (lv' := [(2, .int x2_4), (0, .ref (c0 + a)), (1, .int x1)]) C.1 C.2.1 dX4_passOver_22 rfl hl (by decide) rfl (fun ls hl_6 => ?_)
    refine lv_iload_n C.1 C.2.1 dX4_passOver_23 rfl (lv_at hl_6 0 rfl) ?_
    refine lv_bipush (v := (59:Int32)) C.1 C.2.1 dX4_passOver_24 (by decide) ?_
    refine lv_icmp_ne (tgt := 31) C.1 C.2.1 dX4_passOver_26 (by decide) (fun hc => ?_) (fun hc => ?_)
    · rw [if_neg hc] at h_5
      exact wc_X4_passOver_31i2 C h_5 hP G ha (lv_sub hl_6 [1, 2, 0] rfl)
    · rw [if_pos hc] at h_5
      refine lv_iconst (v := (1:Int32)) C.1 C.2.1 dX4_passOver_29 (by decide) ?_
      refine lv_istore_n (lv' := [(1, .int (1:Int32)), (2, .int x2_4), (0, .ref (c0 + a))]) C.1 C.2.1 dX4_passOver_30 rfl hl_6 (by decide) rfl (fun ls hl_12 => ?_)
      exact wc_X4_passOver_31i2 C h_5 hP G ha (lv_sub hl_12 [2, 0, 1] rfl)
noncomputable def bc_X4_passOver_0 (a : Nat) (σ : cl_S) : Option (cl_S) := bc_X4_passOver_2 a (0:Int32) σ
set_option maxHeartbeats 4000000 in
theorem wc_X4_passOver_0 (C : cl_C D p s m args meth c cX4_passOver 4 none RX4) {a : Nat} {σ0 σ σ' : cl_S} {T : Nat → Nat × Nat} {H : Heap} {locs : List Loc} {ls : Array Slot} {cells slots : Nat} (h : bc_X4_passOver_0 a σ = some σ') (G : cl_G true D c0 ({ frames := 0, cells := σ0.2.2.2.2.2.1, slots := σ0.2.2.2.2.2.2, locals := 0 }) s σ0.2.2.2.1 T σ H locs cells slots) (ha : (T a).1 = 20) (hl : lv_has ls 4 [(0, .ref (c0 + a))]) : W p l e ({ frames := 0, cells := σ0.2.2.2.2.2.1, slots := σ0.2.2.2.2.2.2, locals := 0 }) s m args below meth c H locs cells slots (MQ below (cl_Q true D c0 none cl_no σ0 σ') args s (σ0.2.2.2.2.2.1 - σ'.2.2.2.2.2.1) (σ0.2.2.2.2.2.2 - σ'.2.2.2.2.2.2) (cl_A c0 σ0.2.2.2.1 s.heap.size)) (F0 m 0 ls []) := by
  unfold bc_X4_passOver_0 at h
  refine lv_iconst (v := (0:Int32)) C.1 C.2.1 dX4_passOver_0 (by decide) ?_
  refine lv_istore_n (lv' := [(1, .int (0:Int32)), (0, .ref (c0 + a))]) C.1 C.2.1 dX4_passOver_1 rfl hl (by decide) rfl (fun ls hl_1 => ?_)
  exact wc_X4_passOver_2 C h G ha (lv_sub hl_1 [1, 0] rfl)
noncomputable def fc_X4_passOver (a : Nat) (σ : cl_S) : Option (cl_S) := bc_X4_passOver_0 a σ
theorem kc_X4_passOver (l : Launch) (D : cl_D) (c0 : Nat) {a : Nat} {σ σ' : cl_S} (ha : (σ.2.2.2.1 a).1 = 20) (h : fc_X4_passOver a σ = some σ') : cl_Met true l D c0 yX4_passOver cX4_passOver 4 none 0 0 [.ref (c0 + a)] σ none cl_no σ' :=
  cl_of (by decide) (Nat.le_of_ble_eq_true rfl) (fun p e s m args below meth c ls C hn G hl => wc_X4_passOver_0 C h G ha hl)
abbrev cX4_isLetter : ByteArray := prog_6_method_9_code
def yX4_isLetter : MethodName := ⟨RX4, "isLetter", "(C)Z"⟩
theorem dX4_isLetter_0 : decode cX4_isLetter 0 = .ok (.iload_n 0, 1) := by decide +kernel
theorem dX4_isLetter_1 : decode cX4_isLetter 1 = .ok (.bipush 97, 2) := by decide +kernel
theorem dX4_isLetter_3 : decode cX4_isLetter 3 = .ok (.if_icmp .lt 13, 3) := by decide +kernel
theorem dX4_isLetter_6 : decode cX4_isLetter 6 = .ok (.iload_n 0, 1) := by decide +kernel
theorem dX4_isLetter_7 : decode cX4_isLetter 7 = .ok (.bipush 122, 2) := by decide +kernel
theorem dX4_isLetter_9 : decode cX4_isLetter 9 = .ok (.if_icmp .gt 7, 3) := by decide +kernel
theorem dX4_isLetter_12 : decode cX4_isLetter 12 = .ok (.iconst 1, 1) := by decide +kernel
theorem dX4_isLetter_13 : decode cX4_isLetter 13 = .ok (.goto 4, 3) := by decide +kernel
theorem dX4_isLetter_16 : decode cX4_isLetter 16 = .ok (.iconst 0, 1) := by decide +kernel
theorem dX4_isLetter_17 : decode cX4_isLetter 17 = .ok (.ireturn, 1) := by decide +kernel
theorem cc_X4_isLetter : Cond.code yX4_isLetter cX4_isLetter 1 (some .boolean) ∈ rf_tb := rf_at 770 (by decide +kernel) (by decide +kernel)
noncomputable def bc_X4_isLetter_0 (x0 : Int32) (σ : cl_S) : Option (Int32 × cl_S) := (if x0 < (97:Int32) then some ((0:Int32), σ) else (if (122:Int32) < x0 then some ((0:Int32), σ) else some ((1:Int32), σ)))
set_option maxHeartbeats 4000000 in
theorem wc_X4_isLetter_0 (C : cl_C D p s m args meth c cX4_isLetter 1 (some .boolean) RX4) {r : Int32} {x0 : Int32} {σ0 σ σ' : cl_S} {T : Nat → Nat × Nat} {H : Heap} {locs : List Loc} {ls : Array Slot} {cells slots : Nat} (h : bc_X4_isLetter_0 x0 σ = some (r, σ')) (G : cl_G true D c0 ({ frames := 0, cells := σ0.2.2.2.2.2.1, slots := σ0.2.2.2.2.2.2, locals := 0 }) s σ0.2.2.2.1 T σ H locs cells slots) (hl : lv_has ls 1 [(0, .int x0)]) : W p l e ({ frames := 0, cells := σ0.2.2.2.2.2.1, slots := σ0.2.2.2.2.2.2, locals := 0 }) s m args below meth c H locs cells slots (MQ below (cl_Q true D c0 (some (.int r)) cl_no σ0 σ') args s (σ0.2.2.2.2.2.1 - σ'.2.2.2.2.2.1) (σ0.2.2.2.2.2.2 - σ'.2.2.2.2.2.2) (cl_A c0 σ0.2.2.2.1 s.heap.size)) (F0 m 0 ls []) := by
  unfold bc_X4_isLetter_0 at h
  refine lv_iload_n C.1 C.2.1 dX4_isLetter_0 rfl (lv_at hl 0 rfl) ?_
  refine lv_bipush (v := (97:Int32)) C.1 C.2.1 dX4_isLetter_1 (by decide) ?_
  refine lv_icmp_lt (tgt := 16) C.1 C.2.1 dX4_isLetter_3 (by decide) (fun hc => ?_) (fun hc => ?_)
  · rw [if_pos hc] at h
    refine lv_iconst (v := (0:Int32)) C.1 C.2.1 dX4_isLetter_16 (by decide) ?_
    exact cl_zret ⟨rfl, rfl⟩ rfl C G h rfl dX4_isLetter_17
  · rw [if_neg hc] at h
    refine lv_iload_n C.1 C.2.1 dX4_isLetter_6 rfl (lv_at hl 0 rfl) ?_
    refine lv_bipush (v := (122:Int32)) C.1 C.2.1 dX4_isLetter_7 (by decide) ?_
    refine lv_icmp_gt (tgt := 16) C.1 C.2.1 dX4_isLetter_9 (by decide) (fun hc => ?_) (fun hc => ?_)
    · rw [if_pos hc] at h
      refine lv_iconst (v := (0:Int32)) C.1 C.2.1 dX4_isLetter_16 (by decide) ?_
      exact cl_zret ⟨rfl, rfl⟩ rfl C G h rfl dX4_isLetter_17
    · rw [if_neg hc] at h
      refine lv_iconst (v := (1:Int32)) C.1 C.2.1 dX4_isLetter_12 (by decide) ?_
      refine lv_goto (tgt := 17) C.1 C.2.1 dX4_isLetter_13 (by decide) ?_
      exact cl_zret ⟨rfl, rfl⟩ rfl C G h rfl dX4_isLetter_17
noncomputable def fc_X4_isLetter (x0 : Int32) (σ : cl_S) : Option (Int32 × cl_S) := bc_X4_isLetter_0 x0 σ
theorem kc_X4_isLetter (l : Launch) (D : cl_D) (c0 : Nat) {r : Int32} {x0 : Int32} {σ σ' : cl_S} (h : fc_X4_isLetter x0 σ = some (r, σ')) : cl_Met true l D c0 yX4_isLetter cX4_isLetter 1 (some .boolean) 0 0 [.int x0] σ (some (.int r)) cl_no σ' :=
  cl_of (by decide) (Nat.le_of_ble_eq_true rfl) (fun p e s m args below meth c ls C hn G hl => wc_X4_isLetter_0 C h G  hl)
abbrev cX4_figure : ByteArray := prog_6_method_10_code
def yX4_figure : MethodName := ⟨RX4, "figure", "(CI)I"⟩
theorem dX4_figure_0 : decode cX4_figure 0 = .ok (.iload_n 0, 1) := by decide +kernel
theorem dX4_figure_1 : decode cX4_figure 1 = .ok (.bipush 48, 2) := by decide +kernel
theorem dX4_figure_3 : decode cX4_figure 3 = .ok (.if_icmp .lt 14, 3) := by decide +kernel
theorem dX4_figure_6 : decode cX4_figure 6 = .ok (.iload_n 0, 1) := by decide +kernel
theorem dX4_figure_7 : decode cX4_figure 7 = .ok (.bipush 57, 2) := by decide +kernel
theorem dX4_figure_9 : decode cX4_figure 9 = .ok (.if_icmp .gt 8, 3) := by decide +kernel
theorem dX4_figure_12 : decode cX4_figure 12 = .ok (.iload_n 0, 1) := by decide +kernel
theorem dX4_figure_13 : decode cX4_figure 13 = .ok (.bipush 48, 2) := by decide +kernel
theorem dX4_figure_15 : decode cX4_figure 15 = .ok (.isub, 1) := by decide +kernel
theorem dX4_figure_16 : decode cX4_figure 16 = .ok (.ireturn, 1) := by decide +kernel
theorem dX4_figure_17 : decode cX4_figure 17 = .ok (.iload_n 1, 1) := by decide +kernel
theorem dX4_figure_18 : decode cX4_figure 18 = .ok (.bipush 16, 2) := by decide +kernel
theorem dX4_figure_20 : decode cX4_figure 20 = .ok (.if_icmp .ne 25, 3) := by decide +kernel
theorem dX4_figure_23 : decode cX4_figure 23 = .ok (.iload_n 0, 1) := by decide +kernel
theorem dX4_figure_24 : decode cX4_figure 24 = .ok (.bipush 97, 2) := by decide +kernel
theorem dX4_figure_26 : decode cX4_figure 26 = .ok (.if_icmp .lt 19, 3) := by decide +kernel
theorem dX4_figure_29 : decode cX4_figure 29 = .ok (.iload_n 0, 1) := by decide +kernel
theorem dX4_figure_30 : decode cX4_figure 30 = .ok (.bipush 102, 2) := by decide +kernel
theorem dX4_figure_32 : decode cX4_figure 32 = .ok (.if_icmp .gt 13, 3) := by decide +kernel
theorem dX4_figure_35 : decode cX4_figure 35 = .ok (.iload_n 0, 1) := by decide +kernel
theorem dX4_figure_36 : decode cX4_figure 36 = .ok (.bipush 97, 2) := by decide +kernel
theorem dX4_figure_38 : decode cX4_figure 38 = .ok (.isub, 1) := by decide +kernel
theorem dX4_figure_39 : decode cX4_figure 39 = .ok (.bipush 10, 2) := by decide +kernel
theorem dX4_figure_41 : decode cX4_figure 41 = .ok (.iadd, 1) := by decide +kernel
theorem dX4_figure_42 : decode cX4_figure 42 = .ok (.goto 4, 3) := by decide +kernel
theorem dX4_figure_45 : decode cX4_figure 45 = .ok (.iconst (-1), 1) := by decide +kernel
theorem dX4_figure_46 : decode cX4_figure 46 = .ok (.ireturn, 1) := by decide +kernel
theorem cc_X4_figure : Cond.code yX4_figure cX4_figure 2 (some .int) ∈ rf_tb := rf_at 777 (by decide +kernel) (by decide +kernel)
noncomputable def bc_X4_figure_17 (x0 : Int32) (x1 : Int32) (σ : cl_S) : Option (Int32 × cl_S) := (if x1 = (16:Int32) then (if x0 < (97:Int32) then some ((-1:Int32), σ) else (if (102:Int32) < x0 then some ((-1:Int32), σ) else some (((x0 - (97:Int32)) + (10:Int32)), σ))) else some ((-1:Int32), σ))
set_option maxHeartbeats 4000000 in
theorem wc_X4_figure_17 (C : cl_C D p s m args meth c cX4_figure 2 (some .int) RX4) {r : Int32} {x0 : Int32} {x1 : Int32} {σ0 σ σ' : cl_S} {T : Nat → Nat × Nat} {H : Heap} {locs : List Loc} {ls : Array Slot} {cells slots : Nat} (h : bc_X4_figure_17 x0 x1 σ = some (r, σ')) (G : cl_G true D c0 ({ frames := 0, cells := σ0.2.2.2.2.2.1, slots := σ0.2.2.2.2.2.2, locals := 0 }) s σ0.2.2.2.1 T σ H locs cells slots) (hl : lv_has ls 2 [(0, .int x0), (1, .int x1)]) : W p l e ({ frames := 0, cells := σ0.2.2.2.2.2.1, slots := σ0.2.2.2.2.2.2, locals := 0 }) s m args below meth c H locs cells slots (MQ below (cl_Q true D c0 (some (.int r)) cl_no σ0 σ') args s (σ0.2.2.2.2.2.1 - σ'.2.2.2.2.2.1) (σ0.2.2.2.2.2.2 - σ'.2.2.2.2.2.2) (cl_A c0 σ0.2.2.2.1 s.heap.size)) (F0 m 17 ls []) := by
  unfold bc_X4_figure_17 at h
  refine lv_iload_n C.1 C.2.1 dX4_figure_17 rfl (lv_at hl 1 rfl) ?_
  refine lv_bipush (v := (16:Int32)) C.1 C.2.1 dX4_figure_18 (by decide) ?_
  refine lv_icmp_ne (tgt := 45) C.1 C.2.1 dX4_figure_20 (by decide) (fun hc => ?_) (fun hc => ?_)
  · rw [if_neg hc] at h
    refine lv_iconst (v := (-1:Int32)) C.1 C.2.1 dX4_figure_45 (by decide) ?_
    exact cl_iret ⟨rfl, rfl⟩ rfl C G h dX4_figure_46
  · rw [if_pos hc] at h
    refine lv_iload_n C.1 C.2.1 dX4_figure_23 rfl (lv_at hl 0 rfl) ?_
    refine lv_bipush (v := (97:Int32)) C.1 C.2.1 dX4_figure_24 (by decide) ?_
    refine lv_icmp_lt (tgt := 45) C.1 C.2.1 dX4_figure_26 (by decide) (fun hc => ?_) (fun hc => ?_)
    · rw [if_pos hc] at h
      refine lv_iconst (v := (-1:Int32)) C.1 C.2.1 dX4_figure_45 (by decide) ?_
      exact cl_iret ⟨rfl, rfl⟩ rfl C G h dX4_figure_46
    · rw [if_neg hc] at h
      refine lv_iload_n C.1 C.2.1 dX4_figure_29 rfl (lv_at hl 0 rfl) ?_
      refine lv_bipush (v := (102:Int32)) C.1 C.2.1 dX4_figure_30 (by decide) ?_
      refine lv_icmp_gt (tgt := 45) C.1 C.2.1 dX4_figure_32 (by decide) (fun hc => ?_) (fun hc => ?_)
      · rw [if_pos hc] at h
        refine lv_iconst (v := (-1:Int32)) C.1 C.2.1 dX4_figure_45 (by decide) ?_
        exact cl_iret ⟨rfl, rfl⟩ rfl C G h dX4_figure_46
      · rw [if_neg hc] at h
        refine lv_iload_n C.1 C.2.1 dX4_figure_35 rfl (lv_at hl 0 rfl) ?_
        refine lv_bipush (v := (97:Int32)) C.1 C.2.1 dX4_figure_36 (by decide) ?_
        refine lv_isub C.1 C.2.1 dX4_figure_38 ?_
        refine lv_bipush (v := (10:Int32)) C.1 C.2.1 dX4_figure_39 (by decide) ?_
        refine lv_iadd C.1 C.2.1 dX4_figure_41 ?_
        refine lv_goto (tgt := 46) C.1 C.2.1 dX4_figure_42 (by decide) ?_
        exact cl_iret ⟨rfl, rfl⟩ rfl C G h dX4_figure_46
noncomputable def bc_X4_figure_0 (x0 : Int32) (x1 : Int32) (σ : cl_S) : Option (Int32 × cl_S) := (if x0 < (48:Int32) then bc_X4_figure_17 x0 x1 σ else (if (57:Int32) < x0 then bc_X4_figure_17 x0 x1 σ else some ((x0 - (48:Int32)), σ)))
set_option maxHeartbeats 4000000 in
theorem wc_X4_figure_0 (C : cl_C D p s m args meth c cX4_figure 2 (some .int) RX4) {r : Int32} {x0 : Int32} {x1 : Int32} {σ0 σ σ' : cl_S} {T : Nat → Nat × Nat} {H : Heap} {locs : List Loc} {ls : Array Slot} {cells slots : Nat} (h : bc_X4_figure_0 x0 x1 σ = some (r, σ')) (G : cl_G true D c0 ({ frames := 0, cells := σ0.2.2.2.2.2.1, slots := σ0.2.2.2.2.2.2, locals := 0 }) s σ0.2.2.2.1 T σ H locs cells slots) (hl : lv_has ls 2 [(0, .int x0), (1, .int x1)]) : W p l e ({ frames := 0, cells := σ0.2.2.2.2.2.1, slots := σ0.2.2.2.2.2.2, locals := 0 }) s m args below meth c H locs cells slots (MQ below (cl_Q true D c0 (some (.int r)) cl_no σ0 σ') args s (σ0.2.2.2.2.2.1 - σ'.2.2.2.2.2.1) (σ0.2.2.2.2.2.2 - σ'.2.2.2.2.2.2) (cl_A c0 σ0.2.2.2.1 s.heap.size)) (F0 m 0 ls []) := by
  unfold bc_X4_figure_0 at h
  refine lv_iload_n C.1 C.2.1 dX4_figure_0 rfl (lv_at hl 0 rfl) ?_
  refine lv_bipush (v := (48:Int32)) C.1 C.2.1 dX4_figure_1 (by decide) ?_
  refine lv_icmp_lt (tgt := 17) C.1 C.2.1 dX4_figure_3 (by decide) (fun hc => ?_) (fun hc => ?_)
  · rw [if_pos hc] at h
    exact wc_X4_figure_17 C h G (lv_sub hl [0, 1] rfl)
  · rw [if_neg hc] at h
    refine lv_iload_n C.1 C.2.1 dX4_figure_6 rfl (lv_at hl 0 rfl) ?_
    refine lv_bipush (v := (57:Int32)) C.1 C.2.1 dX4_figure_7 (by decide) ?_
    refine lv_icmp_gt (tgt := 17) C.1 C.2.1 dX4_figure_9 (by decide) (fun hc => ?_) (fun hc => ?_)
    · rw [if_pos hc] at h
      exact wc_X4_figure_17 C h G (lv_sub hl [0, 1] rfl)
    · rw [if_neg hc] at h
      refine lv_iload_n C.1 C.2.1 dX4_figure_12 rfl (lv_at hl 0 rfl) ?_
      refine lv_bipush (v := (48:Int32)) C.1 C.2.1 dX4_figure_13 (by decide) ?_
      refine lv_isub C.1 C.2.1 dX4_figure_15 ?_
      exact cl_iret ⟨rfl, rfl⟩ rfl C G h dX4_figure_16
noncomputable def fc_X4_figure (x0 : Int32) (x1 : Int32) (σ : cl_S) : Option (Int32 × cl_S) := bc_X4_figure_0 x0 x1 σ
theorem kc_X4_figure (l : Launch) (D : cl_D) (c0 : Nat) {r : Int32} {x0 : Int32} {x1 : Int32} {σ σ' : cl_S} (h : fc_X4_figure x0 x1 σ = some (r, σ')) : cl_Met true l D c0 yX4_figure cX4_figure 2 (some .int) 0 0 [.int x0, .int x1] σ (some (.int r)) cl_no σ' :=
  cl_of (by decide) (Nat.le_of_ble_eq_true rfl) (fun p e s m args below meth c ls C hn G hl => wc_X4_figure_0 C h G  hl)
abbrev cX4_readName : ByteArray := prog_6_method_6_code
def yX4_readName : MethodName := ⟨RX4, "readName", "()V"⟩
theorem dX4_readName_0 : decode cX4_readName 0 = .ok (.aload_n 0, 1) := by decide +kernel
theorem dX4_readName_1 : decode cX4_readName 1 = .ok (.getfield 32, 3) := by decide +kernel
theorem dX4_readName_4 : decode cX4_readName 4 = .ok (.istore_n 1, 1) := by decide +kernel
theorem dX4_readName_5 : decode cX4_readName 5 = .ok (.lconst 0, 1) := by decide +kernel
theorem dX4_readName_6 : decode cX4_readName 6 = .ok (.lstore_n 2, 1) := by decide +kernel
theorem dX4_readName_7 : decode cX4_readName 7 = .ok (.aload_n 0, 1) := by decide +kernel
theorem dX4_readName_8 : decode cX4_readName 8 = .ok (.getfield 32, 3) := by decide +kernel
theorem dX4_readName_11 : decode cX4_readName 11 = .ok (.aload_n 0, 1) := by decide +kernel
theorem dX4_readName_12 : decode cX4_readName 12 = .ok (.getfield 26, 3) := by decide +kernel
theorem dX4_readName_15 : decode cX4_readName 15 = .ok (.if_icmp .ge 64, 3) := by decide +kernel
theorem dX4_readName_18 : decode cX4_readName 18 = .ok (.aload_n 0, 1) := by decide +kernel
theorem dX4_readName_19 : decode cX4_readName 19 = .ok (.getfield 11, 3) := by decide +kernel
theorem dX4_readName_22 : decode cX4_readName 22 = .ok (.aload_n 0, 1) := by decide +kernel
theorem dX4_readName_23 : decode cX4_readName 23 = .ok (.getfield 32, 3) := by decide +kernel
theorem dX4_readName_26 : decode cX4_readName 26 = .ok (.caload, 1) := by decide +kernel
theorem dX4_readName_27 : decode cX4_readName 27 = .ok (.invokestatic 44, 3) := by decide +kernel
theorem dX4_readName_30 : decode cX4_readName 30 = .ok (.ifCond .ne 20, 3) := by decide +kernel
theorem dX4_readName_33 : decode cX4_readName 33 = .ok (.aload_n 0, 1) := by decide +kernel
theorem dX4_readName_34 : decode cX4_readName 34 = .ok (.getfield 11, 3) := by decide +kernel
theorem dX4_readName_37 : decode cX4_readName 37 = .ok (.aload_n 0, 1) := by decide +kernel
theorem dX4_readName_38 : decode cX4_readName 38 = .ok (.getfield 32, 3) := by decide +kernel
theorem dX4_readName_41 : decode cX4_readName 41 = .ok (.caload, 1) := by decide +kernel
theorem dX4_readName_42 : decode cX4_readName 42 = .ok (.bipush 10, 2) := by decide +kernel
theorem dX4_readName_44 : decode cX4_readName 44 = .ok (.invokestatic 51, 3) := by decide +kernel
theorem dX4_readName_47 : decode cX4_readName 47 = .ok (.ifCond .lt 32, 3) := by decide +kernel
theorem dX4_readName_50 : decode cX4_readName 50 = .ok (.lload_n 2, 1) := by decide +kernel
theorem dX4_readName_51 : decode cX4_readName 51 = .ok (.bipush 8, 2) := by decide +kernel
theorem dX4_readName_53 : decode cX4_readName 53 = .ok (.lshl, 1) := by decide +kernel
theorem dX4_readName_54 : decode cX4_readName 54 = .ok (.aload_n 0, 1) := by decide +kernel
theorem dX4_readName_55 : decode cX4_readName 55 = .ok (.getfield 11, 3) := by decide +kernel
theorem dX4_readName_58 : decode cX4_readName 58 = .ok (.aload_n 0, 1) := by decide +kernel
theorem dX4_readName_59 : decode cX4_readName 59 = .ok (.getfield 32, 3) := by decide +kernel
theorem dX4_readName_62 : decode cX4_readName 62 = .ok (.caload, 1) := by decide +kernel
theorem dX4_readName_63 : decode cX4_readName 63 = .ok (.i2l, 1) := by decide +kernel
theorem dX4_readName_64 : decode cX4_readName 64 = .ok (.lor, 1) := by decide +kernel
theorem dX4_readName_65 : decode cX4_readName 65 = .ok (.lstore_n 2, 1) := by decide +kernel
theorem dX4_readName_66 : decode cX4_readName 66 = .ok (.aload_n 0, 1) := by decide +kernel
theorem dX4_readName_67 : decode cX4_readName 67 = .ok (.dup, 1) := by decide +kernel
theorem dX4_readName_68 : decode cX4_readName 68 = .ok (.getfield 32, 3) := by decide +kernel
theorem dX4_readName_71 : decode cX4_readName 71 = .ok (.iconst 1, 1) := by decide +kernel
theorem dX4_readName_72 : decode cX4_readName 72 = .ok (.iadd, 1) := by decide +kernel
theorem dX4_readName_73 : decode cX4_readName 73 = .ok (.putfield 32, 3) := by decide +kernel
theorem dX4_readName_76 : decode cX4_readName 76 = .ok (.goto (-69), 3) := by decide +kernel
theorem dX4_readName_79 : decode cX4_readName 79 = .ok (.aload_n 0, 1) := by decide +kernel
theorem dX4_readName_80 : decode cX4_readName 80 = .ok (.getfield 22, 3) := by decide +kernel
theorem dX4_readName_83 : decode cX4_readName 83 = .ok (.aload_n 0, 1) := by decide +kernel
theorem dX4_readName_84 : decode cX4_readName 84 = .ok (.getfield 35, 3) := by decide +kernel
theorem dX4_readName_87 : decode cX4_readName 87 = .ok (.lload_n 2, 1) := by decide +kernel
theorem dX4_readName_88 : decode cX4_readName 88 = .ok (.lastore, 1) := by decide +kernel
theorem dX4_readName_89 : decode cX4_readName 89 = .ok (.aload_n 0, 1) := by decide +kernel
theorem dX4_readName_90 : decode cX4_readName 90 = .ok (.getfield 15, 3) := by decide +kernel
theorem dX4_readName_93 : decode cX4_readName 93 = .ok (.aload_n 0, 1) := by decide +kernel
theorem dX4_readName_94 : decode cX4_readName 94 = .ok (.getfield 35, 3) := by decide +kernel
theorem dX4_readName_97 : decode cX4_readName 97 = .ok (.aload_n 0, 1) := by decide +kernel
theorem dX4_readName_98 : decode cX4_readName 98 = .ok (.getfield 32, 3) := by decide +kernel
theorem dX4_readName_101 : decode cX4_readName 101 = .ok (.iload_n 1, 1) := by decide +kernel
theorem dX4_readName_102 : decode cX4_readName 102 = .ok (.isub, 1) := by decide +kernel
theorem dX4_readName_103 : decode cX4_readName 103 = .ok (.bipush 8, 2) := by decide +kernel
theorem dX4_readName_105 : decode cX4_readName 105 = .ok (.if_icmp .le 8, 3) := by decide +kernel
theorem dX4_readName_108 : decode cX4_readName 108 = .ok (.bipush 7, 2) := by decide +kernel
theorem dX4_readName_110 : decode cX4_readName 110 = .ok (.goto 4, 3) := by decide +kernel
theorem dX4_readName_113 : decode cX4_readName 113 = .ok (.iconst 2, 1) := by decide +kernel
theorem dX4_readName_114 : decode cX4_readName 114 = .ok (.iastore, 1) := by decide +kernel
theorem dX4_readName_115 : decode cX4_readName 115 = .ok (.return_, 1) := by decide +kernel
theorem cc_X4_readName : Cond.code yX4_readName cX4_readName 4 none ∈ rf_tb := rf_at 774 (by decide +kernel) (by decide +kernel)
theorem cw_RX4_44 : cl_wS RX4 yX4_isLetter cX4_isLetter 1 (some .boolean) 44 1 := ⟨⟨rf_at 768 (by decide +kernel) (by decide +kernel), rf_at 769 (by decide +kernel) (by decide +kernel), cc_X4_isLetter, rf_at 2 (by decide +kernel) (by decide +kernel)⟩, ⟨by decide, by decide, by decide +kernel⟩⟩
theorem cw_RX4_51 : cl_wS RX4 yX4_figure cX4_figure 2 (some .int) 51 2 := ⟨⟨rf_at 775 (by decide +kernel) (by decide +kernel), rf_at 776 (by decide +kernel) (by decide +kernel), cc_X4_figure, rf_at 2 (by decide +kernel) (by decide +kernel)⟩, ⟨by decide, by decide, by decide +kernel⟩⟩
noncomputable def bc_X4_readName_50i7 (a : Nat) (x1 : Int32) (x2 : Int64) (σ : cl_S) : Option ((Int64 × cl_S) ⊕ (Int64 × cl_S)) := ix (σ.1 a 2) 6000 (vl ((x2 <<< ((8:Int32).toInt64 &&& 63)) ||| ((σ.1 (a + 1) (σ.1 a 2).toNatClampNeg).toInt64)) (fun x2_15 => vl (cl_w σ a 2 ((σ.1 a 2) + (1:Int32))) (fun σ_18 => some (.inl (x2_15, σ_18)))))
set_option maxHeartbeats 4000000 in
theorem wc_X4_readName_50i7 (C : cl_C D p s m args meth c cX4_readName 4 none RX4) {a : Nat} {x1 : Int32} {x2 : Int64} {σ0 σ σ' : cl_S} {T : Nat → Nat × Nat} {H : Heap} {locs : List Loc} {ls : Array Slot} {cells slots : Nat} {o : (Int64 × cl_S) ⊕ (Int64 × cl_S)} (h : bc_X4_readName_50i7 a x1 x2 σ = some o) (hP : Sum.elim (fun z : (Int64 × cl_S) => ∀ (T : Nat → Nat × Nat) (H : Heap) (locs : List Loc) (ls : Array Slot) (cells slots : Nat), cl_G true D c0 ({ frames := 1, cells := σ0.2.2.2.2.2.1, slots := σ0.2.2.2.2.2.2, locals := 21 }) s σ0.2.2.2.1 T z.2 H locs cells slots → (T a).1 = 20 → lv_has ls 4 [(0, .ref (c0 + a)), (1, .int x1), (2, .long (z.1))] → W p l e ({ frames := 1, cells := σ0.2.2.2.2.2.1, slots := σ0.2.2.2.2.2.2, locals := 21 }) s m args below meth c H locs cells slots (MQ below (cl_Q true D c0 none cl_no σ0 σ') args s (σ0.2.2.2.2.2.1 - σ'.2.2.2.2.2.1) (σ0.2.2.2.2.2.2 - σ'.2.2.2.2.2.2) (cl_A c0 σ0.2.2.2.1 s.heap.size)) (F0 m 7 ls [])) (fun z : (Int64 × cl_S) => ∀ (T : Nat → Nat × Nat) (H : Heap) (locs : List Loc) (ls : Array Slot) (cells slots : Nat), cl_G true D c0 ({ frames := 1, cells := σ0.2.2.2.2.2.1, slots := σ0.2.2.2.2.2.2, locals := 21 }) s σ0.2.2.2.1 T z.2 H locs cells slots → (T a).1 = 20 → lv_has ls 4 [(0, .ref (c0 + a)), (1, .int x1), (2, .long (z.1))] → W p l e ({ frames := 1, cells := σ0.2.2.2.2.2.1, slots := σ0.2.2.2.2.2.2, locals := 21 }) s m args below meth c H locs cells slots (MQ below (cl_Q true D c0 none cl_no σ0 σ') args s (σ0.2.2.2.2.2.1 - σ'.2.2.2.2.2.1) (σ0.2.2.2.2.2.2 - σ'.2.2.2.2.2.2) (cl_A c0 σ0.2.2.2.1 s.heap.size)) (F0 m 79 ls [])) o) (G : cl_G true D c0 ({ frames := 1, cells := σ0.2.2.2.2.2.1, slots := σ0.2.2.2.2.2.2, locals := 21 }) s σ0.2.2.2.1 T σ H locs cells slots) (ha : (T a).1 = 20) (hl : lv_has ls 4 [(0, .ref (c0 + a)), (1, .int x1), (2, .long x2)]) : W p l e ({ frames := 1, cells := σ0.2.2.2.2.2.1, slots := σ0.2.2.2.2.2.2, locals := 21 }) s m args below meth c H locs cells slots (MQ below (cl_Q true D c0 none cl_no σ0 σ') args s (σ0.2.2.2.2.2.1 - σ'.2.2.2.2.2.1) (σ0.2.2.2.2.2.2 - σ'.2.2.2.2.2.2) (cl_A c0 σ0.2.2.2.1 s.heap.size)) (F0 m 50 ls []) := by
  unfold bc_X4_readName_50i7 at h
  refine lv_lload_n C.1 C.2.1 dX4_readName_50 rfl (lv_at hl 2 rfl) ?_
  refine lv_bipush (v := (8:Int32)) C.1 C.2.1 dX4_readName_51 (by decide) ?_
  refine lv_lshl C.1 C.2.1 dX4_readName_53 rfl ?_
  refine lv_aload_n C.1 C.2.1 dX4_readName_54 rfl (lv_at hl 0 rfl) ?_
  refine cg_4_11 C G ha dX4_readName_55 (fun t_13 => ?_)
  refine lv_aload_n C.1 C.2.1 dX4_readName_58 rfl (lv_at hl 0 rfl) ?_
  refine cg_4_32 C G ha dX4_readName_59 ?_
  obtain ⟨hi, h_14⟩ := ix_some h
  refine cl_cald C G t_13 hi dX4_readName_62 ?_
  refine lv_i2l C.1 C.2.1 dX4_readName_63 rfl ?_
  refine lv_lor C.1 C.2.1 dX4_readName_64 ?_
  refine vt_l h_14 (fun x2_15 h_16 => ?_)
  refine lv_lstore_n (lv' := [(2, .long x2_15), (0, .ref (c0 + a)), (1, .int x1)]) C.1 C.2.1 dX4_readName_65 rfl hl (by decide) rfl (fun ls hl_17 => ?_)
  refine lv_aload_n C.1 C.2.1 dX4_readName_66 rfl (lv_at hl_17 1 rfl) ?_
  refine lv_dup C.1 C.2.1 dX4_readName_67 rfl ?_
  refine cg_4_32 C G ha dX4_readName_68 ?_
  refine lv_iconst (v := (1:Int32)) C.1 C.2.1 dX4_readName_71 (by decide) ?_
  refine lv_iadd C.1 C.2.1 dX4_readName_72 ?_
  refine cp_4_32 C G ha dX4_readName_73 (fun H locs G_19 => ?_)
  refine cl_nm G_19 h_16 (fun σ_18 G_20 h_21 => ?_)
  refine lv_goto (tgt := 7) C.1 C.2.1 dX4_readName_76 (by decide) ?_
  cases h_21
  exact hP _ _ _ _ _ _ G_20 ha (lv_sub hl_17 [1, 2, 0] rfl)
noncomputable def lc_X4_readName_7 (a : Nat) (x1 : Int32) (x2 : Int64) (σ : cl_S) : Option ((Int64 × cl_S) ⊕ (Int64 × cl_S)) := (if (σ.1 a 1) ≤ (σ.1 a 2) then some (.inr (x2, σ)) else ix (σ.1 a 2) 6000 (bd2 (fc_X4_isLetter (σ.1 (a + 1) (σ.1 a 2).toNatClampNeg) σ) (fun r_8 σ_7 => (if r_8 = 0 then ix (σ_7.1 a 2) 6000 (bd2 (fc_X4_figure (σ_7.1 (a + 1) (σ_7.1 a 2).toNatClampNeg) (10:Int32) σ_7) (fun r_25 σ_24 => (if r_25 < 0 then some (.inr (x2, σ_24)) else bc_X4_readName_50i7 a x1 x2 σ_24))) else bc_X4_readName_50i7 a x1 x2 σ_7))))
noncomputable def bc_X4_readName_79 (a : Nat) (x1 : Int32) (x2 : Int64) (σ : cl_S) : Option (cl_S) := ix (σ.1 a 6) 6001 (vl (cl_wl σ (a + 4) (σ.1 a 6).toNatClampNeg x2) (fun σ_31 => (if ((σ_31.1 a 2) - x1) ≤ (8:Int32) then ix (σ_31.1 a 6) 6001 (vl (cl_w σ_31 (a + 2) (σ_31.1 a 6).toNatClampNeg (2:Int32)) (fun σ_37 => some σ_37)) else ix (σ_31.1 a 6) 6001 (vl (cl_w σ_31 (a + 2) (σ_31.1 a 6).toNatClampNeg (7:Int32)) (fun σ_42 => some σ_42)))))
set_option maxHeartbeats 4000000 in
theorem wc_X4_readName_79 (C : cl_C D p s m args meth c cX4_readName 4 none RX4) {a : Nat} {x1 : Int32} {x2 : Int64} {σ0 σ σ' : cl_S} {T : Nat → Nat × Nat} {H : Heap} {locs : List Loc} {ls : Array Slot} {cells slots : Nat} (h : bc_X4_readName_79 a x1 x2 σ = some σ') (G : cl_G true D c0 ({ frames := 1, cells := σ0.2.2.2.2.2.1, slots := σ0.2.2.2.2.2.2, locals := 21 }) s σ0.2.2.2.1 T σ H locs cells slots) (ha : (T a).1 = 20) (hl : lv_has ls 4 [(0, .ref (c0 + a)), (1, .int x1), (2, .long x2)]) : W p l e ({ frames := 1, cells := σ0.2.2.2.2.2.1, slots := σ0.2.2.2.2.2.2, locals := 21 }) s m args below meth c H locs cells slots (MQ below (cl_Q true D c0 none cl_no σ0 σ') args s (σ0.2.2.2.2.2.1 - σ'.2.2.2.2.2.1) (σ0.2.2.2.2.2.2 - σ'.2.2.2.2.2.2) (cl_A c0 σ0.2.2.2.1 s.heap.size)) (F0 m 79 ls []) := by
  unfold bc_X4_readName_79 at h
  refine lv_aload_n C.1 C.2.1 dX4_readName_79 rfl (lv_at hl 0 rfl) ?_
  refine cg_4_22 C G ha dX4_readName_80 (fun t_30 => ?_)
  refine lv_aload_n C.1 C.2.1 dX4_readName_83 rfl (lv_at hl 0 rfl) ?_
  refine cg_4_35 C G ha dX4_readName_84 ?_
  refine lv_lload_n C.1 C.2.1 dX4_readName_87 rfl (lv_at hl 2 rfl) ?_
  obtain ⟨hi, h_32⟩ := ix_some h
  refine cl_last C G t_30 hi dX4_readName_88 (fun H locs G_33 => ?_)
  refine cl_nm G_33 h_32 (fun σ_31 G_34 h_35 => ?_)
  refine lv_aload_n C.1 C.2.1 dX4_readName_89 rfl (lv_at hl 0 rfl) ?_
  refine cg_4_15 C G_34 ha dX4_readName_90 (fun t_36 => ?_)
  refine lv_aload_n C.1 C.2.1 dX4_readName_93 rfl (lv_at hl 0 rfl) ?_
  refine cg_4_35 C G_34 ha dX4_readName_94 ?_
  refine lv_aload_n C.1 C.2.1 dX4_readName_97 rfl (lv_at hl 0 rfl) ?_
  refine cg_4_32 C G_34 ha dX4_readName_98 ?_
  refine lv_iload_n C.1 C.2.1 dX4_readName_101 rfl (lv_at hl 1 rfl) ?_
  refine lv_isub C.1 C.2.1 dX4_readName_102 ?_
  refine lv_bipush (v := (8:Int32)) C.1 C.2.1 dX4_readName_103 (by decide) ?_
  refine lv_icmp_le (tgt := 113) C.1 C.2.1 dX4_readName_105 (by decide) (fun hc => ?_) (fun hc => ?_)
  · rw [if_pos hc] at h_35
    refine lv_iconst (v := (2:Int32)) C.1 C.2.1 dX4_readName_113 (by decide) ?_
    obtain ⟨hi, h_38⟩ := ix_some h_35
    refine cl_iast C G_34 t_36 hi dX4_readName_114 (fun H locs G_39 => ?_)
    refine cl_nm G_39 h_38 (fun σ_37 G_40 h_41 => ?_)
    exact cl_vret ⟨rfl, rfl⟩ rfl C G_40 h_41 dX4_readName_115
  · rw [if_neg hc] at h_35
    refine lv_bipush (v := (7:Int32)) C.1 C.2.1 dX4_readName_108 (by decide) ?_
    refine lv_goto (tgt := 114) C.1 C.2.1 dX4_readName_110 (by decide) ?_
    obtain ⟨hi, h_43⟩ := ix_some h_35
    refine cl_iast C G_34 t_36 hi dX4_readName_114 (fun H locs G_44 => ?_)
    refine cl_nm G_44 h_43 (fun σ_42 G_45 h_46 => ?_)
    exact cl_vret ⟨rfl, rfl⟩ rfl C G_45 h_46 dX4_readName_115
noncomputable def ec_X4_readName_7 (a : Nat) (x1 : Int32) (x2 : Int64) (σ : cl_S) : Option (cl_S) := bc_X4_readName_79 a x1 x2 σ
noncomputable def bc_X4_readName_7 (a : Nat) (x1 : Int32) (x2 : Int64) (σ : cl_S) : Option (cl_S) := (lp (fun z : (Int64 × cl_S) => lc_X4_readName_7 a x1 z.1 z.2) (x2, σ)).bind (fun z => ec_X4_readName_7 a x1 z.1 z.2)
set_option maxHeartbeats 4000000 in
theorem wc_X4_readName_7 (C : cl_C D p s m args meth c cX4_readName 4 none RX4) {a : Nat} {x1 : Int32} {x2 : Int64} {σ0 σ σ' : cl_S} {T : Nat → Nat × Nat} {H : Heap} {locs : List Loc} {ls : Array Slot} {cells slots : Nat} (h : bc_X4_readName_7 a x1 x2 σ = some σ') (G : cl_G true D c0 ({ frames := 1, cells := σ0.2.2.2.2.2.1, slots := σ0.2.2.2.2.2.2, locals := 21 }) s σ0.2.2.2.1 T σ H locs cells slots) (ha : (T a).1 = 20) (hl : lv_has ls 4 [(0, .ref (c0 + a)), (1, .int x1), (2, .long x2)]) : W p l e ({ frames := 1, cells := σ0.2.2.2.2.2.1, slots := σ0.2.2.2.2.2.2, locals := 21 }) s m args below meth c H locs cells slots (MQ below (cl_Q true D c0 none cl_no σ0 σ') args s (σ0.2.2.2.2.2.1 - σ'.2.2.2.2.2.1) (σ0.2.2.2.2.2.2 - σ'.2.2.2.2.2.2) (cl_A c0 σ0.2.2.2.1 s.heap.size)) (F0 m 7 ls []) := by
  unfold bc_X4_readName_7 at h
  obtain ⟨y, hy, h⟩ := bd_some h
  have hE : (fun z : (Int64 × cl_S) => ∀ (T : Nat → Nat × Nat) (H : Heap) (locs : List Loc) (ls : Array Slot) (cells slots : Nat), cl_G true D c0 ({ frames := 1, cells := σ0.2.2.2.2.2.1, slots := σ0.2.2.2.2.2.2, locals := 21 }) s σ0.2.2.2.1 T z.2 H locs cells slots → (T a).1 = 20 → lv_has ls 4 [(0, .ref (c0 + a)), (1, .int x1), (2, .long (z.1))] → W p l e ({ frames := 1, cells := σ0.2.2.2.2.2.1, slots := σ0.2.2.2.2.2.2, locals := 21 }) s m args below meth c H locs cells slots (MQ below (cl_Q true D c0 none cl_no σ0 σ') args s (σ0.2.2.2.2.2.1 - σ'.2.2.2.2.2.1) (σ0.2.2.2.2.2.2 - σ'.2.2.2.2.2.2) (cl_A c0 σ0.2.2.2.1 s.heap.size)) (F0 m 79 ls [])) y := by
    clear hy G ha hl
    intro T H locs ls cells slots G ha hl
    obtain ⟨x2, σ⟩ := y
    dsimp only at h G ha hl
    unfold ec_X4_readName_7 at h
    exact wc_X4_readName_79 C h G ha (lv_sub hl [0, 1, 2] rfl)
  refine lp_recE (fun z : (Int64 × cl_S) => ∀ (T : Nat → Nat × Nat) (H : Heap) (locs : List Loc) (ls : Array Slot) (cells slots : Nat), cl_G true D c0 ({ frames := 1, cells := σ0.2.2.2.2.2.1, slots := σ0.2.2.2.2.2.2, locals := 21 }) s σ0.2.2.2.1 T z.2 H locs cells slots → (T a).1 = 20 → lv_has ls 4 [(0, .ref (c0 + a)), (1, .int x1), (2, .long (z.1))] → W p l e ({ frames := 1, cells := σ0.2.2.2.2.2.1, slots := σ0.2.2.2.2.2.2, locals := 21 }) s m args below meth c H locs cells slots (MQ below (cl_Q true D c0 none cl_no σ0 σ') args s (σ0.2.2.2.2.2.1 - σ'.2.2.2.2.2.1) (σ0.2.2.2.2.2.2 - σ'.2.2.2.2.2.2) (cl_A c0 σ0.2.2.2.1 s.heap.size)) (F0 m 7 ls [])) (fun z : (Int64 × cl_S) => ∀ (T : Nat → Nat × Nat) (H : Heap) (locs : List Loc) (ls : Array Slot) (cells slots : Nat), cl_G true D c0 ({ frames := 1, cells := σ0.2.2.2.2.2.1, slots := σ0.2.2.2.2.2.2, locals := 21 }) s σ0.2.2.2.1 T z.2 H locs cells slots → (T a).1 = 20 → lv_has ls 4 [(0, .ref (c0 + a)), (1, .int x1), (2, .long (z.1))] → W p l e ({ frames := 1, cells := σ0.2.2.2.2.2.1, slots := σ0.2.2.2.2.2.2, locals := 21 }) s m args below meth c H locs cells slots (MQ below (cl_Q true D c0 none cl_no σ0 σ') args s (σ0.2.2.2.2.2.1 - σ'.2.2.2.2.2.1) (σ0.2.2.2.2.2.2 - σ'.2.2.2.2.2.2) (cl_A c0 σ0.2.2.2.1 s.heap.size)) (F0 m 79 ls [])) ?_ _ _ hy hE _ _ _ _ _ _ G ha hl
  clear hE hy G ha hl h
  intro z o h hP T H locs ls cells slots G ha hl
  obtain ⟨x2, σ⟩ := z
  dsimp only at h G ha hl
  unfold lc_X4_readName_7 at h
  refine lv_aload_n C.1 C.2.1 dX4_readName_7 rfl (lv_at hl 0 rfl) ?_
  refine cg_4_32 C G ha dX4_readName_8 ?_
  refine lv_aload_n C.1 C.2.1 dX4_readName_11 rfl (lv_at hl 0 rfl) ?_
  refine cg_4_26 C G ha dX4_readName_12 ?_
  refine lv_icmp_ge (tgt := 79) C.1 C.2.1 dX4_readName_15 (by decide) (fun hc => ?_) (fun hc => ?_)
  · rw [if_pos hc] at h
    cases h
    exact hP _ _ _ _ _ _ G ha (lv_sub hl [0, 1, 2] rfl)
  · rw [if_neg hc] at h
    refine lv_aload_n C.1 C.2.1 dX4_readName_18 rfl (lv_at hl 0 rfl) ?_
    refine cg_4_11 C G ha dX4_readName_19 (fun t_5 => ?_)
    refine lv_aload_n C.1 C.2.1 dX4_readName_22 rfl (lv_at hl 0 rfl) ?_
    refine cg_4_32 C G ha dX4_readName_23 ?_
    obtain ⟨hi, h_6⟩ := ix_some h
    refine cl_cald C G t_5 hi dX4_readName_26 ?_
    obtain ⟨r_8, σ_7, hq, h_9⟩ := bd2_some h_6
    refine cl_callS (rest := []) C G cw_RX4_44 [.int (σ.1 (a + 1) (σ.1 a 2).toNatClampNeg)] _ (kc_X4_isLetter l D c0 hq) (Nat.le_of_ble_eq_true rfl) (Nat.le_of_ble_eq_true rfl) rfl rfl hl.1 (Nat.le_of_ble_eq_true rfl) dX4_readName_27 (fun T_10 H locs cells slots t_11 hu G_12 => ?_)
    have ha := hu.kind ha (by decide)
    refine W.eq (g2 := F0 m 30 ls [.int r_8]) rfl ?_
    refine lv_if_ne (tgt := 50) C.1 C.2.1 dX4_readName_30 (by decide) (fun hc => ?_) (fun hc => ?_)
    · rw [if_neg hc] at h_9
      exact wc_X4_readName_50i7 C h_9 hP G_12 ha (lv_sub hl [0, 1, 2] rfl)
    · rw [if_pos hc] at h_9
      refine lv_aload_n C.1 C.2.1 dX4_readName_33 rfl (lv_at hl 0 rfl) ?_
      refine cg_4_11 C G_12 ha dX4_readName_34 (fun t_22 => ?_)
      refine lv_aload_n C.1 C.2.1 dX4_readName_37 rfl (lv_at hl 0 rfl) ?_
      refine cg_4_32 C G_12 ha dX4_readName_38 ?_
      obtain ⟨hi, h_23⟩ := ix_some h_9
      refine cl_cald C G_12 t_22 hi dX4_readName_41 ?_
      refine lv_bipush (v := (10:Int32)) C.1 C.2.1 dX4_readName_42 (by decide) ?_
      obtain ⟨r_25, σ_24, hq, h_26⟩ := bd2_some h_23
      refine cl_callS (rest := []) C G_12 cw_RX4_51 [.int (σ_7.1 (a + 1) (σ_7.1 a 2).toNatClampNeg), .int (10:Int32)] _ (kc_X4_figure l D c0 hq) (Nat.le_of_ble_eq_true rfl) (Nat.le_of_ble_eq_true rfl) rfl rfl hl.1 (Nat.le_of_ble_eq_true rfl) dX4_readName_44 (fun T_27 H locs cells slots t_28 hu G_29 => ?_)
      have ha := hu.kind ha (by decide)
      refine W.eq (g2 := F0 m 47 ls [.int r_25]) rfl ?_
      refine lv_if_lt (tgt := 79) C.1 C.2.1 dX4_readName_47 (by decide) (fun hc => ?_) (fun hc => ?_)
      · rw [if_pos hc] at h_26
        cases h_26
        exact hP _ _ _ _ _ _ G_29 ha (lv_sub hl [0, 1, 2] rfl)
      · rw [if_neg hc] at h_26
        exact wc_X4_readName_50i7 C h_26 hP G_29 ha (lv_sub hl [0, 1, 2] rfl)
noncomputable def bc_X4_readName_0 (a : Nat) (σ : cl_S) : Option (cl_S) := vl (σ.1 a 2) (fun x1_1 => bc_X4_readName_7 a x1_1 (0:Int64) σ)
set_option maxHeartbeats 4000000 in
theorem wc_X4_readName_0 (C : cl_C D p s m args meth c cX4_readName 4 none RX4) {a : Nat} {σ0 σ σ' : cl_S} {T : Nat → Nat × Nat} {H : Heap} {locs : List Loc} {ls : Array Slot} {cells slots : Nat} (h : bc_X4_readName_0 a σ = some σ') (G : cl_G true D c0 ({ frames := 1, cells := σ0.2.2.2.2.2.1, slots := σ0.2.2.2.2.2.2, locals := 21 }) s σ0.2.2.2.1 T σ H locs cells slots) (ha : (T a).1 = 20) (hl : lv_has ls 4 [(0, .ref (c0 + a))]) : W p l e ({ frames := 1, cells := σ0.2.2.2.2.2.1, slots := σ0.2.2.2.2.2.2, locals := 21 }) s m args below meth c H locs cells slots (MQ below (cl_Q true D c0 none cl_no σ0 σ') args s (σ0.2.2.2.2.2.1 - σ'.2.2.2.2.2.1) (σ0.2.2.2.2.2.2 - σ'.2.2.2.2.2.2) (cl_A c0 σ0.2.2.2.1 s.heap.size)) (F0 m 0 ls []) := by
  unfold bc_X4_readName_0 at h
  refine lv_aload_n C.1 C.2.1 dX4_readName_0 rfl (lv_at hl 0 rfl) ?_
  refine cg_4_32 C G ha dX4_readName_1 ?_
  refine vt_i h (fun x1_1 h_2 => ?_)
  refine lv_istore_n (lv' := [(1, .int x1_1), (0, .ref (c0 + a))]) C.1 C.2.1 dX4_readName_4 rfl hl (by decide) rfl (fun ls hl_3 => ?_)
  refine lv_lconst (v := (0:Int64)) C.1 C.2.1 dX4_readName_5 (by decide) ?_
  refine lv_lstore_n (lv' := [(2, .long (0:Int64)), (1, .int x1_1), (0, .ref (c0 + a))]) C.1 C.2.1 dX4_readName_6 rfl hl_3 (by decide) rfl (fun ls hl_4 => ?_)
  exact wc_X4_readName_7 C h_2 G ha (lv_sub hl_4 [2, 1, 0] rfl)
noncomputable def fc_X4_readName (a : Nat) (σ : cl_S) : Option (cl_S) := bc_X4_readName_0 a σ
theorem kc_X4_readName (l : Launch) (D : cl_D) (c0 : Nat) {a : Nat} {σ σ' : cl_S} (ha : (σ.2.2.2.1 a).1 = 20) (h : fc_X4_readName a σ = some σ') : cl_Met true l D c0 yX4_readName cX4_readName 4 none 1 21 [.ref (c0 + a)] σ none cl_no σ' :=
  cl_of (by decide) (Nat.le_of_ble_eq_true rfl) (fun p e s m args below meth c ls C hn G hl => wc_X4_readName_0 C h G ha hl)
abbrev cX4_readNumber : ByteArray := prog_6_method_7_code
def yX4_readNumber : MethodName := ⟨RX4, "readNumber", "()V"⟩
theorem dX4_readNumber_0 : decode cX4_readNumber 0 = .ok (.aload_n 0, 1) := by decide +kernel
theorem dX4_readNumber_1 : decode cX4_readNumber 1 = .ok (.getfield 32, 3) := by decide +kernel
theorem dX4_readNumber_4 : decode cX4_readNumber 4 = .ok (.iconst 2, 1) := by decide +kernel
theorem dX4_readNumber_5 : decode cX4_readNumber 5 = .ok (.iadd, 1) := by decide +kernel
theorem dX4_readNumber_6 : decode cX4_readNumber 6 = .ok (.aload_n 0, 1) := by decide +kernel
theorem dX4_readNumber_7 : decode cX4_readNumber 7 = .ok (.getfield 26, 3) := by decide +kernel
theorem dX4_readNumber_10 : decode cX4_readNumber 10 = .ok (.if_icmp .ge 56, 3) := by decide +kernel
theorem dX4_readNumber_13 : decode cX4_readNumber 13 = .ok (.aload_n 0, 1) := by decide +kernel
theorem dX4_readNumber_14 : decode cX4_readNumber 14 = .ok (.getfield 11, 3) := by decide +kernel
theorem dX4_readNumber_17 : decode cX4_readNumber 17 = .ok (.aload_n 0, 1) := by decide +kernel
theorem dX4_readNumber_18 : decode cX4_readNumber 18 = .ok (.getfield 32, 3) := by decide +kernel
theorem dX4_readNumber_21 : decode cX4_readNumber 21 = .ok (.caload, 1) := by decide +kernel
theorem dX4_readNumber_22 : decode cX4_readNumber 22 = .ok (.bipush 48, 2) := by decide +kernel
theorem dX4_readNumber_24 : decode cX4_readNumber 24 = .ok (.if_icmp .ne 42, 3) := by decide +kernel
theorem dX4_readNumber_27 : decode cX4_readNumber 27 = .ok (.aload_n 0, 1) := by decide +kernel
theorem dX4_readNumber_28 : decode cX4_readNumber 28 = .ok (.getfield 11, 3) := by decide +kernel
theorem dX4_readNumber_31 : decode cX4_readNumber 31 = .ok (.aload_n 0, 1) := by decide +kernel
theorem dX4_readNumber_32 : decode cX4_readNumber 32 = .ok (.getfield 32, 3) := by decide +kernel
theorem dX4_readNumber_35 : decode cX4_readNumber 35 = .ok (.iconst 1, 1) := by decide +kernel
theorem dX4_readNumber_36 : decode cX4_readNumber 36 = .ok (.iadd, 1) := by decide +kernel
theorem dX4_readNumber_37 : decode cX4_readNumber 37 = .ok (.caload, 1) := by decide +kernel
theorem dX4_readNumber_38 : decode cX4_readNumber 38 = .ok (.bipush 120, 2) := by decide +kernel
theorem dX4_readNumber_40 : decode cX4_readNumber 40 = .ok (.if_icmp .ne 26, 3) := by decide +kernel
theorem dX4_readNumber_43 : decode cX4_readNumber 43 = .ok (.aload_n 0, 1) := by decide +kernel
theorem dX4_readNumber_44 : decode cX4_readNumber 44 = .ok (.getfield 11, 3) := by decide +kernel
theorem dX4_readNumber_47 : decode cX4_readNumber 47 = .ok (.aload_n 0, 1) := by decide +kernel
theorem dX4_readNumber_48 : decode cX4_readNumber 48 = .ok (.getfield 32, 3) := by decide +kernel
theorem dX4_readNumber_51 : decode cX4_readNumber 51 = .ok (.iconst 2, 1) := by decide +kernel
theorem dX4_readNumber_52 : decode cX4_readNumber 52 = .ok (.iadd, 1) := by decide +kernel
theorem dX4_readNumber_53 : decode cX4_readNumber 53 = .ok (.caload, 1) := by decide +kernel
theorem dX4_readNumber_54 : decode cX4_readNumber 54 = .ok (.bipush 16, 2) := by decide +kernel
theorem dX4_readNumber_56 : decode cX4_readNumber 56 = .ok (.invokestatic 51, 3) := by decide +kernel
theorem dX4_readNumber_59 : decode cX4_readNumber 59 = .ok (.ifCond .lt 7, 3) := by decide +kernel
theorem dX4_readNumber_62 : decode cX4_readNumber 62 = .ok (.iconst 1, 1) := by decide +kernel
theorem dX4_readNumber_63 : decode cX4_readNumber 63 = .ok (.goto 4, 3) := by decide +kernel
theorem dX4_readNumber_66 : decode cX4_readNumber 66 = .ok (.iconst 0, 1) := by decide +kernel
theorem dX4_readNumber_67 : decode cX4_readNumber 67 = .ok (.istore_n 1, 1) := by decide +kernel
theorem dX4_readNumber_68 : decode cX4_readNumber 68 = .ok (.iload_n 1, 1) := by decide +kernel
theorem dX4_readNumber_69 : decode cX4_readNumber 69 = .ok (.ifCond .eq 8, 3) := by decide +kernel
theorem dX4_readNumber_72 : decode cX4_readNumber 72 = .ok (.bipush 16, 2) := by decide +kernel
theorem dX4_readNumber_74 : decode cX4_readNumber 74 = .ok (.goto 5, 3) := by decide +kernel
theorem dX4_readNumber_77 : decode cX4_readNumber 77 = .ok (.bipush 10, 2) := by decide +kernel
theorem dX4_readNumber_79 : decode cX4_readNumber 79 = .ok (.istore_n 2, 1) := by decide +kernel
theorem dX4_readNumber_80 : decode cX4_readNumber 80 = .ok (.iload_n 1, 1) := by decide +kernel
theorem dX4_readNumber_81 : decode cX4_readNumber 81 = .ok (.ifCond .eq 12, 3) := by decide +kernel
theorem dX4_readNumber_84 : decode cX4_readNumber 84 = .ok (.aload_n 0, 1) := by decide +kernel
theorem dX4_readNumber_85 : decode cX4_readNumber 85 = .ok (.getfield 32, 3) := by decide +kernel
theorem dX4_readNumber_88 : decode cX4_readNumber 88 = .ok (.iconst 2, 1) := by decide +kernel
theorem dX4_readNumber_89 : decode cX4_readNumber 89 = .ok (.iadd, 1) := by decide +kernel
theorem dX4_readNumber_90 : decode cX4_readNumber 90 = .ok (.goto 7, 3) := by decide +kernel
theorem dX4_readNumber_93 : decode cX4_readNumber 93 = .ok (.aload_n 0, 1) := by decide +kernel
theorem dX4_readNumber_94 : decode cX4_readNumber 94 = .ok (.getfield 32, 3) := by decide +kernel
theorem dX4_readNumber_97 : decode cX4_readNumber 97 = .ok (.istore_n 3, 1) := by decide +kernel
theorem dX4_readNumber_98 : decode cX4_readNumber 98 = .ok (.lconst 0, 1) := by decide +kernel
theorem dX4_readNumber_99 : decode cX4_readNumber 99 = .ok (.lstore 4, 2) := by decide +kernel
theorem dX4_readNumber_101 : decode cX4_readNumber 101 = .ok (.aload_n 0, 1) := by decide +kernel
theorem dX4_readNumber_102 : decode cX4_readNumber 102 = .ok (.iload_n 3, 1) := by decide +kernel
theorem dX4_readNumber_103 : decode cX4_readNumber 103 = .ok (.putfield 32, 3) := by decide +kernel
theorem dX4_readNumber_106 : decode cX4_readNumber 106 = .ok (.aload_n 0, 1) := by decide +kernel
theorem dX4_readNumber_107 : decode cX4_readNumber 107 = .ok (.getfield 32, 3) := by decide +kernel
theorem dX4_readNumber_110 : decode cX4_readNumber 110 = .ok (.aload_n 0, 1) := by decide +kernel
theorem dX4_readNumber_111 : decode cX4_readNumber 111 = .ok (.getfield 26, 3) := by decide +kernel
theorem dX4_readNumber_114 : decode cX4_readNumber 114 = .ok (.if_icmp .ge 54, 3) := by decide +kernel
theorem dX4_readNumber_117 : decode cX4_readNumber 117 = .ok (.aload_n 0, 1) := by decide +kernel
theorem dX4_readNumber_118 : decode cX4_readNumber 118 = .ok (.getfield 11, 3) := by decide +kernel
theorem dX4_readNumber_121 : decode cX4_readNumber 121 = .ok (.aload_n 0, 1) := by decide +kernel
theorem dX4_readNumber_122 : decode cX4_readNumber 122 = .ok (.getfield 32, 3) := by decide +kernel
theorem dX4_readNumber_125 : decode cX4_readNumber 125 = .ok (.caload, 1) := by decide +kernel
theorem dX4_readNumber_126 : decode cX4_readNumber 126 = .ok (.iload_n 2, 1) := by decide +kernel
theorem dX4_readNumber_127 : decode cX4_readNumber 127 = .ok (.invokestatic 51, 3) := by decide +kernel
theorem dX4_readNumber_130 : decode cX4_readNumber 130 = .ok (.ifCond .lt 38, 3) := by decide +kernel
theorem dX4_readNumber_133 : decode cX4_readNumber 133 = .ok (.lload 4, 2) := by decide +kernel
theorem dX4_readNumber_135 : decode cX4_readNumber 135 = .ok (.iload_n 2, 1) := by decide +kernel
theorem dX4_readNumber_136 : decode cX4_readNumber 136 = .ok (.i2l, 1) := by decide +kernel
theorem dX4_readNumber_137 : decode cX4_readNumber 137 = .ok (.lmul, 1) := by decide +kernel
theorem dX4_readNumber_138 : decode cX4_readNumber 138 = .ok (.aload_n 0, 1) := by decide +kernel
theorem dX4_readNumber_139 : decode cX4_readNumber 139 = .ok (.getfield 11, 3) := by decide +kernel
theorem dX4_readNumber_142 : decode cX4_readNumber 142 = .ok (.aload_n 0, 1) := by decide +kernel
theorem dX4_readNumber_143 : decode cX4_readNumber 143 = .ok (.getfield 32, 3) := by decide +kernel
theorem dX4_readNumber_146 : decode cX4_readNumber 146 = .ok (.caload, 1) := by decide +kernel
theorem dX4_readNumber_147 : decode cX4_readNumber 147 = .ok (.iload_n 2, 1) := by decide +kernel
theorem dX4_readNumber_148 : decode cX4_readNumber 148 = .ok (.invokestatic 51, 3) := by decide +kernel
theorem dX4_readNumber_151 : decode cX4_readNumber 151 = .ok (.i2l, 1) := by decide +kernel
theorem dX4_readNumber_152 : decode cX4_readNumber 152 = .ok (.ladd, 1) := by decide +kernel
theorem dX4_readNumber_153 : decode cX4_readNumber 153 = .ok (.lstore 4, 2) := by decide +kernel
theorem dX4_readNumber_155 : decode cX4_readNumber 155 = .ok (.aload_n 0, 1) := by decide +kernel
theorem dX4_readNumber_156 : decode cX4_readNumber 156 = .ok (.dup, 1) := by decide +kernel
theorem dX4_readNumber_157 : decode cX4_readNumber 157 = .ok (.getfield 32, 3) := by decide +kernel
theorem dX4_readNumber_160 : decode cX4_readNumber 160 = .ok (.iconst 1, 1) := by decide +kernel
theorem dX4_readNumber_161 : decode cX4_readNumber 161 = .ok (.iadd, 1) := by decide +kernel
theorem dX4_readNumber_162 : decode cX4_readNumber 162 = .ok (.putfield 32, 3) := by decide +kernel
theorem dX4_readNumber_165 : decode cX4_readNumber 165 = .ok (.goto (-59), 3) := by decide +kernel
theorem dX4_readNumber_168 : decode cX4_readNumber 168 = .ok (.aload_n 0, 1) := by decide +kernel
theorem dX4_readNumber_169 : decode cX4_readNumber 169 = .ok (.getfield 22, 3) := by decide +kernel
theorem dX4_readNumber_172 : decode cX4_readNumber 172 = .ok (.aload_n 0, 1) := by decide +kernel
theorem dX4_readNumber_173 : decode cX4_readNumber 173 = .ok (.getfield 35, 3) := by decide +kernel
theorem dX4_readNumber_176 : decode cX4_readNumber 176 = .ok (.lload 4, 2) := by decide +kernel
theorem dX4_readNumber_178 : decode cX4_readNumber 178 = .ok (.lastore, 1) := by decide +kernel
theorem dX4_readNumber_179 : decode cX4_readNumber 179 = .ok (.aload_n 0, 1) := by decide +kernel
theorem dX4_readNumber_180 : decode cX4_readNumber 180 = .ok (.getfield 15, 3) := by decide +kernel
theorem dX4_readNumber_183 : decode cX4_readNumber 183 = .ok (.aload_n 0, 1) := by decide +kernel
theorem dX4_readNumber_184 : decode cX4_readNumber 184 = .ok (.getfield 35, 3) := by decide +kernel
theorem dX4_readNumber_187 : decode cX4_readNumber 187 = .ok (.aload_n 0, 1) := by decide +kernel
theorem dX4_readNumber_188 : decode cX4_readNumber 188 = .ok (.getfield 32, 3) := by decide +kernel
theorem dX4_readNumber_191 : decode cX4_readNumber 191 = .ok (.iload_n 3, 1) := by decide +kernel
theorem dX4_readNumber_192 : decode cX4_readNumber 192 = .ok (.isub, 1) := by decide +kernel
theorem dX4_readNumber_193 : decode cX4_readNumber 193 = .ok (.iload_n 1, 1) := by decide +kernel
theorem dX4_readNumber_194 : decode cX4_readNumber 194 = .ok (.ifCond .eq 8, 3) := by decide +kernel
theorem dX4_readNumber_197 : decode cX4_readNumber 197 = .ok (.bipush 8, 2) := by decide +kernel
theorem dX4_readNumber_199 : decode cX4_readNumber 199 = .ok (.goto 5, 3) := by decide +kernel
theorem dX4_readNumber_202 : decode cX4_readNumber 202 = .ok (.bipush 10, 2) := by decide +kernel
theorem dX4_readNumber_204 : decode cX4_readNumber 204 = .ok (.if_icmp .le 8, 3) := by decide +kernel
theorem dX4_readNumber_207 : decode cX4_readNumber 207 = .ok (.bipush 7, 2) := by decide +kernel
theorem dX4_readNumber_209 : decode cX4_readNumber 209 = .ok (.goto 4, 3) := by decide +kernel
theorem dX4_readNumber_212 : decode cX4_readNumber 212 = .ok (.iconst 3, 1) := by decide +kernel
theorem dX4_readNumber_213 : decode cX4_readNumber 213 = .ok (.iastore, 1) := by decide +kernel
theorem dX4_readNumber_214 : decode cX4_readNumber 214 = .ok (.return_, 1) := by decide +kernel
theorem cc_X4_readNumber : Cond.code yX4_readNumber cX4_readNumber 6 none ∈ rf_tb := rf_at 781 (by decide +kernel) (by decide +kernel)
noncomputable def lc_X4_readNumber_106 (a : Nat) (x1 : Int32) (x2 : Int32) (x3 : Int32) (x4 : Int64) (σ : cl_S) : Option ((Int64 × cl_S) ⊕ (Int64 × cl_S)) := (if (σ.1 a 1) ≤ (σ.1 a 2) then some (.inr (x4, σ)) else ix (σ.1 a 2) 6000 (bd2 (fc_X4_figure (σ.1 (a + 1) (σ.1 a 2).toNatClampNeg) x2 σ) (fun r_12 σ_11 => (if r_12 < 0 then some (.inr (x4, σ_11)) else ix (σ_11.1 a 2) 6000 (bd2 (fc_X4_figure (σ_11.1 (a + 1) (σ_11.1 a 2).toNatClampNeg) x2 σ_11) (fun r_20 σ_19 => vl ((x4 * (x2.toInt64)) + (r_20.toInt64)) (fun x4_25 => vl (cl_w σ_19 a 2 ((σ_19.1 a 2) + (1:Int32))) (fun σ_28 => some (.inl (x4_25, σ_28))))))))))
noncomputable def bc_X4_readNumber_204 (v0 : Nat) (w0 : Nat) (v1 : Int32) (v2 : Int32) (v3 : Int32) (σ : cl_S) : Option (cl_S) := (if v2 ≤ v3 then ix v1 w0 (vl (cl_w σ v0 v1.toNatClampNeg (3:Int32)) (fun σ_39 => some σ_39)) else ix v1 w0 (vl (cl_w σ v0 v1.toNatClampNeg (7:Int32)) (fun σ_44 => some σ_44)))
set_option maxHeartbeats 4000000 in
theorem wc_X4_readNumber_204 (C : cl_C D p s m args meth c cX4_readNumber 6 none RX4) {v0 : Nat} {w0 : Nat} {v1 : Int32} {v2 : Int32} {v3 : Int32} {σ0 σ σ' : cl_S} {T : Nat → Nat × Nat} {H : Heap} {locs : List Loc} {ls : Array Slot} {cells slots : Nat} (h : bc_X4_readNumber_204 v0 w0 v1 v2 v3 σ = some σ') (G : cl_G true D c0 ({ frames := 1, cells := σ0.2.2.2.2.2.1, slots := σ0.2.2.2.2.2.2, locals := 21 }) s σ0.2.2.2.1 T σ H locs cells slots) (g0 : T v0 = (1, w0)) (hl : lv_has ls 6 []) : W p l e ({ frames := 1, cells := σ0.2.2.2.2.2.1, slots := σ0.2.2.2.2.2.2, locals := 21 }) s m args below meth c H locs cells slots (MQ below (cl_Q true D c0 none cl_no σ0 σ') args s (σ0.2.2.2.2.2.1 - σ'.2.2.2.2.2.1) (σ0.2.2.2.2.2.2 - σ'.2.2.2.2.2.2) (cl_A c0 σ0.2.2.2.1 s.heap.size)) (F0 m 204 ls [.int v3, .int v2, .int v1, .ref (c0 + v0)]) := by
  unfold bc_X4_readNumber_204 at h
  refine lv_icmp_le (tgt := 212) C.1 C.2.1 dX4_readNumber_204 (by decide) (fun hc => ?_) (fun hc => ?_)
  · rw [if_pos hc] at h
    refine lv_iconst (v := (3:Int32)) C.1 C.2.1 dX4_readNumber_212 (by decide) ?_
    obtain ⟨hi, h_40⟩ := ix_some h
    refine cl_iast C G g0 hi dX4_readNumber_213 (fun H locs G_41 => ?_)
    refine cl_nm G_41 h_40 (fun σ_39 G_42 h_43 => ?_)
    exact cl_vret ⟨rfl, rfl⟩ rfl C G_42 h_43 dX4_readNumber_214
  · rw [if_neg hc] at h
    refine lv_bipush (v := (7:Int32)) C.1 C.2.1 dX4_readNumber_207 (by decide) ?_
    refine lv_goto (tgt := 213) C.1 C.2.1 dX4_readNumber_209 (by decide) ?_
    obtain ⟨hi, h_45⟩ := ix_some h
    refine cl_iast C G g0 hi dX4_readNumber_213 (fun H locs G_46 => ?_)
    refine cl_nm G_46 h_45 (fun σ_44 G_47 h_48 => ?_)
    exact cl_vret ⟨rfl, rfl⟩ rfl C G_47 h_48 dX4_readNumber_214
noncomputable def bc_X4_readNumber_168 (a : Nat) (x1 : Int32) (x3 : Int32) (x4 : Int64) (σ : cl_S) : Option (cl_S) := ix (σ.1 a 6) 6001 (vl (cl_wl σ (a + 4) (σ.1 a 6).toNatClampNeg x4) (fun σ_33 => (if x1 = 0 then bc_X4_readNumber_204 (a + 2) 6001 (σ_33.1 a 6) ((σ_33.1 a 2) - x3) (10:Int32) σ_33 else bc_X4_readNumber_204 (a + 2) 6001 (σ_33.1 a 6) ((σ_33.1 a 2) - x3) (8:Int32) σ_33)))
set_option maxHeartbeats 4000000 in
theorem wc_X4_readNumber_168 (C : cl_C D p s m args meth c cX4_readNumber 6 none RX4) {a : Nat} {x1 : Int32} {x3 : Int32} {x4 : Int64} {σ0 σ σ' : cl_S} {T : Nat → Nat × Nat} {H : Heap} {locs : List Loc} {ls : Array Slot} {cells slots : Nat} (h : bc_X4_readNumber_168 a x1 x3 x4 σ = some σ') (G : cl_G true D c0 ({ frames := 1, cells := σ0.2.2.2.2.2.1, slots := σ0.2.2.2.2.2.2, locals := 21 }) s σ0.2.2.2.1 T σ H locs cells slots) (ha : (T a).1 = 20) (hl : lv_has ls 6 [(0, .ref (c0 + a)), (1, .int x1), (3, .int x3), (4, .long x4)]) : W p l e ({ frames := 1, cells := σ0.2.2.2.2.2.1, slots := σ0.2.2.2.2.2.2, locals := 21 }) s m args below meth c H locs cells slots (MQ below (cl_Q true D c0 none cl_no σ0 σ') args s (σ0.2.2.2.2.2.1 - σ'.2.2.2.2.2.1) (σ0.2.2.2.2.2.2 - σ'.2.2.2.2.2.2) (cl_A c0 σ0.2.2.2.1 s.heap.size)) (F0 m 168 ls []) := by
  unfold bc_X4_readNumber_168 at h
  refine lv_aload_n C.1 C.2.1 dX4_readNumber_168 rfl (lv_at hl 0 rfl) ?_
  refine cg_4_22 C G ha dX4_readNumber_169 (fun t_32 => ?_)
  refine lv_aload_n C.1 C.2.1 dX4_readNumber_172 rfl (lv_at hl 0 rfl) ?_
  refine cg_4_35 C G ha dX4_readNumber_173 ?_
  refine lv_lload C.1 C.2.1 dX4_readNumber_176 (lv_at hl 3 rfl) ?_
  obtain ⟨hi, h_34⟩ := ix_some h
  refine cl_last C G t_32 hi dX4_readNumber_178 (fun H locs G_35 => ?_)
  refine cl_nm G_35 h_34 (fun σ_33 G_36 h_37 => ?_)
  refine lv_aload_n C.1 C.2.1 dX4_readNumber_179 rfl (lv_at hl 0 rfl) ?_
  refine cg_4_15 C G_36 ha dX4_readNumber_180 (fun t_38 => ?_)
  refine lv_aload_n C.1 C.2.1 dX4_readNumber_183 rfl (lv_at hl 0 rfl) ?_
  refine cg_4_35 C G_36 ha dX4_readNumber_184 ?_
  refine lv_aload_n C.1 C.2.1 dX4_readNumber_187 rfl (lv_at hl 0 rfl) ?_
  refine cg_4_32 C G_36 ha dX4_readNumber_188 ?_
  refine lv_iload_n C.1 C.2.1 dX4_readNumber_191 rfl (lv_at hl 2 rfl) ?_
  refine lv_isub C.1 C.2.1 dX4_readNumber_192 ?_
  refine lv_iload_n C.1 C.2.1 dX4_readNumber_193 rfl (lv_at hl 1 rfl) ?_
  refine lv_if_eq (tgt := 202) C.1 C.2.1 dX4_readNumber_194 (by decide) (fun hc => ?_) (fun hc => ?_)
  · rw [if_pos hc] at h_37
    refine lv_bipush (v := (10:Int32)) C.1 C.2.1 dX4_readNumber_202 (by decide) ?_
    exact wc_X4_readNumber_204 C h_37 G_36 t_38 (lv_sub hl [] rfl)
  · rw [if_neg hc] at h_37
    refine lv_bipush (v := (8:Int32)) C.1 C.2.1 dX4_readNumber_197 (by decide) ?_
    refine lv_goto (tgt := 204) C.1 C.2.1 dX4_readNumber_199 (by decide) ?_
    exact wc_X4_readNumber_204 C h_37 G_36 t_38 (lv_sub hl [] rfl)
noncomputable def ec_X4_readNumber_106 (a : Nat) (x1 : Int32) (x2 : Int32) (x3 : Int32) (x4 : Int64) (σ : cl_S) : Option (cl_S) := bc_X4_readNumber_168 a x1 x3 x4 σ
noncomputable def bc_X4_readNumber_106 (a : Nat) (x1 : Int32) (x2 : Int32) (x3 : Int32) (x4 : Int64) (σ : cl_S) : Option (cl_S) := (lp (fun z : (Int64 × cl_S) => lc_X4_readNumber_106 a x1 x2 x3 z.1 z.2) (x4, σ)).bind (fun z => ec_X4_readNumber_106 a x1 x2 x3 z.1 z.2)
set_option maxHeartbeats 4000000 in
theorem wc_X4_readNumber_106 (C : cl_C D p s m args meth c cX4_readNumber 6 none RX4) {a : Nat} {x1 : Int32} {x2 : Int32} {x3 : Int32} {x4 : Int64} {σ0 σ σ' : cl_S} {T : Nat → Nat × Nat} {H : Heap} {locs : List Loc} {ls : Array Slot} {cells slots : Nat} (h : bc_X4_readNumber_106 a x1 x2 x3 x4 σ = some σ') (G : cl_G true D c0 ({ frames := 1, cells := σ0.2.2.2.2.2.1, slots := σ0.2.2.2.2.2.2, locals := 21 }) s σ0.2.2.2.1 T σ H locs cells slots) (ha : (T a).1 = 20) (hl : lv_has ls 6 [(0, .ref (c0 + a)), (1, .int x1), (2, .int x2), (3, .int x3), (4, .long x4)]) : W p l e ({ frames := 1, cells := σ0.2.2.2.2.2.1, slots := σ0.2.2.2.2.2.2, locals := 21 }) s m args below meth c H locs cells slots (MQ below (cl_Q true D c0 none cl_no σ0 σ') args s (σ0.2.2.2.2.2.1 - σ'.2.2.2.2.2.1) (σ0.2.2.2.2.2.2 - σ'.2.2.2.2.2.2) (cl_A c0 σ0.2.2.2.1 s.heap.size)) (F0 m 106 ls []) := by
  unfold bc_X4_readNumber_106 at h
  obtain ⟨y, hy, h⟩ := bd_some h
  have hE : (fun z : (Int64 × cl_S) => ∀ (T : Nat → Nat × Nat) (H : Heap) (locs : List Loc) (ls : Array Slot) (cells slots : Nat), cl_G true D c0 ({ frames := 1, cells := σ0.2.2.2.2.2.1, slots := σ0.2.2.2.2.2.2, locals := 21 }) s σ0.2.2.2.1 T z.2 H locs cells slots → (T a).1 = 20 → lv_has ls 6 [(0, .ref (c0 + a)), (1, .int x1), (2, .int x2), (3, .int x3), (4, .long (z.1))] → W p l e ({ frames := 1, cells := σ0.2.2.2.2.2.1, slots := σ0.2.2.2.2.2.2, locals := 21 }) s m args below meth c H locs cells slots (MQ below (cl_Q true D c0 none cl_no σ0 σ') args s (σ0.2.2.2.2.2.1 - σ'.2.2.2.2.2.1) (σ0.2.2.2.2.2.2 - σ'.2.2.2.2.2.2) (cl_A c0 σ0.2.2.2.1 s.heap.size)) (F0 m 168 ls [])) y := by
    clear hy G ha hl
    intro T H locs ls cells slots G ha hl
    obtain ⟨x4, σ⟩ := y
    dsimp only at h G ha hl
    unfold ec_X4_readNumber_106 at h
    exact wc_X4_readNumber_168 C h G ha (lv_sub hl [0, 1, 3, 4] rfl)
  refine lp_recE (fun z : (Int64 × cl_S) => ∀ (T : Nat → Nat × Nat) (H : Heap) (locs : List Loc) (ls : Array Slot) (cells slots : Nat), cl_G true D c0 ({ frames := 1, cells := σ0.2.2.2.2.2.1, slots := σ0.2.2.2.2.2.2, locals := 21 }) s σ0.2.2.2.1 T z.2 H locs cells slots → (T a).1 = 20 → lv_has ls 6 [(0, .ref (c0 + a)), (1, .int x1), (2, .int x2), (3, .int x3), (4, .long (z.1))] → W p l e ({ frames := 1, cells := σ0.2.2.2.2.2.1, slots := σ0.2.2.2.2.2.2, locals := 21 }) s m args below meth c H locs cells slots (MQ below (cl_Q true D c0 none cl_no σ0 σ') args s (σ0.2.2.2.2.2.1 - σ'.2.2.2.2.2.1) (σ0.2.2.2.2.2.2 - σ'.2.2.2.2.2.2) (cl_A c0 σ0.2.2.2.1 s.heap.size)) (F0 m 106 ls [])) (fun z : (Int64 × cl_S) => ∀ (T : Nat → Nat × Nat) (H : Heap) (locs : List Loc) (ls : Array Slot) (cells slots : Nat), cl_G true D c0 ({ frames := 1, cells := σ0.2.2.2.2.2.1, slots := σ0.2.2.2.2.2.2, locals := 21 }) s σ0.2.2.2.1 T z.2 H locs cells slots → (T a).1 = 20 → lv_has ls 6 [(0, .ref (c0 + a)), (1, .int x1), (2, .int x2), (3, .int x3), (4, .long (z.1))] → W p l e ({ frames := 1, cells := σ0.2.2.2.2.2.1, slots := σ0.2.2.2.2.2.2, locals := 21 }) s m args below meth c H locs cells slots (MQ below (cl_Q true D c0 none cl_no σ0 σ') args s (σ0.2.2.2.2.2.1 - σ'.2.2.2.2.2.1) (σ0.2.2.2.2.2.2 - σ'.2.2.2.2.2.2) (cl_A c0 σ0.2.2.2.1 s.heap.size)) (F0 m 168 ls [])) ?_ _ _ hy hE _ _ _ _ _ _ G ha hl
  clear hE hy G ha hl h
  intro z o h hP T H locs ls cells slots G ha hl
  obtain ⟨x4, σ⟩ := z
  dsimp only at h G ha hl
  unfold lc_X4_readNumber_106 at h
  refine lv_aload_n C.1 C.2.1 dX4_readNumber_106 rfl (lv_at hl 0 rfl) ?_
  refine cg_4_32 C G ha dX4_readNumber_107 ?_
  refine lv_aload_n C.1 C.2.1 dX4_readNumber_110 rfl (lv_at hl 0 rfl) ?_
  refine cg_4_26 C G ha dX4_readNumber_111 ?_
  refine lv_icmp_ge (tgt := 168) C.1 C.2.1 dX4_readNumber_114 (by decide) (fun hc => ?_) (fun hc => ?_)
  · rw [if_pos hc] at h
    cases h
    exact hP _ _ _ _ _ _ G ha (lv_sub hl [0, 1, 2, 3, 4] rfl)
  · rw [if_neg hc] at h
    refine lv_aload_n C.1 C.2.1 dX4_readNumber_117 rfl (lv_at hl 0 rfl) ?_
    refine cg_4_11 C G ha dX4_readNumber_118 (fun t_9 => ?_)
    refine lv_aload_n C.1 C.2.1 dX4_readNumber_121 rfl (lv_at hl 0 rfl) ?_
    refine cg_4_32 C G ha dX4_readNumber_122 ?_
    obtain ⟨hi, h_10⟩ := ix_some h
    refine cl_cald C G t_9 hi dX4_readNumber_125 ?_
    refine lv_iload_n C.1 C.2.1 dX4_readNumber_126 rfl (lv_at hl 2 rfl) ?_
    obtain ⟨r_12, σ_11, hq, h_13⟩ := bd2_some h_10
    refine cl_callS (rest := []) C G cw_RX4_51 [.int (σ.1 (a + 1) (σ.1 a 2).toNatClampNeg), .int x2] _ (kc_X4_figure l D c0 hq) (Nat.le_of_ble_eq_true rfl) (Nat.le_of_ble_eq_true rfl) rfl rfl hl.1 (Nat.le_of_ble_eq_true rfl) dX4_readNumber_127 (fun T_14 H locs cells slots t_15 hu G_16 => ?_)
    have ha := hu.kind ha (by decide)
    refine W.eq (g2 := F0 m 130 ls [.int r_12]) rfl ?_
    refine lv_if_lt (tgt := 168) C.1 C.2.1 dX4_readNumber_130 (by decide) (fun hc => ?_) (fun hc => ?_)
    · rw [if_pos hc] at h_13
      cases h_13
      exact hP _ _ _ _ _ _ G_16 ha (lv_sub hl [0, 1, 2, 3, 4] rfl)
    · rw [if_neg hc] at h_13
      refine lv_lload C.1 C.2.1 dX4_readNumber_133 (lv_at hl 4 rfl) ?_
      refine lv_iload_n C.1 C.2.1 dX4_readNumber_135 rfl (lv_at hl 2 rfl) ?_
      refine lv_i2l C.1 C.2.1 dX4_readNumber_136 rfl ?_
      refine lv_lmul C.1 C.2.1 dX4_readNumber_137 ?_
      refine lv_aload_n C.1 C.2.1 dX4_readNumber_138 rfl (lv_at hl 0 rfl) ?_
      refine cg_4_11 C G_16 ha dX4_readNumber_139 (fun t_17 => ?_)
      refine lv_aload_n C.1 C.2.1 dX4_readNumber_142 rfl (lv_at hl 0 rfl) ?_
      refine cg_4_32 C G_16 ha dX4_readNumber_143 ?_
      obtain ⟨hi, h_18⟩ := ix_some h_13
      refine cl_cald C G_16 t_17 hi dX4_readNumber_146 ?_
      refine lv_iload_n C.1 C.2.1 dX4_readNumber_147 rfl (lv_at hl 2 rfl) ?_
      obtain ⟨r_20, σ_19, hq, h_21⟩ := bd2_some h_18
      refine cl_callS (rest := [.long (x4 * (x2.toInt64))]) C G_16 cw_RX4_51 [.int (σ_11.1 (a + 1) (σ_11.1 a 2).toNatClampNeg), .int x2] _ (kc_X4_figure l D c0 hq) (Nat.le_of_ble_eq_true rfl) (Nat.le_of_ble_eq_true rfl) rfl rfl hl.1 (Nat.le_of_ble_eq_true rfl) dX4_readNumber_148 (fun T_22 H locs cells slots t_23 hu G_24 => ?_)
      have ha := hu.kind ha (by decide)
      refine W.eq (g2 := F0 m 151 ls [.int r_20, .long (x4 * (x2.toInt64))]) rfl ?_
      refine lv_i2l C.1 C.2.1 dX4_readNumber_151 rfl ?_
      refine lv_ladd C.1 C.2.1 dX4_readNumber_152 ?_
      refine vt_l h_21 (fun x4_25 h_26 => ?_)
      refine lv_lstore (lv' := [(4, .long x4_25), (0, .ref (c0 + a)), (1, .int x1), (2, .int x2), (3, .int x3)]) C.1 C.2.1 dX4_readNumber_153 hl (by decide) rfl (fun ls hl_27 => ?_)
      refine lv_aload_n C.1 C.2.1 dX4_readNumber_155 rfl (lv_at hl_27 1 rfl) ?_
      refine lv_dup C.1 C.2.1 dX4_readNumber_156 rfl ?_
      refine cg_4_32 C G_24 ha dX4_readNumber_157 ?_
      refine lv_iconst (v := (1:Int32)) C.1 C.2.1 dX4_readNumber_160 (by decide) ?_
      refine lv_iadd C.1 C.2.1 dX4_readNumber_161 ?_
      refine cp_4_32 C G_24 ha dX4_readNumber_162 (fun H locs G_29 => ?_)
      refine cl_nm G_29 h_26 (fun σ_28 G_30 h_31 => ?_)
      refine lv_goto (tgt := 106) C.1 C.2.1 dX4_readNumber_165 (by decide) ?_
      cases h_31
      exact hP _ _ _ _ _ _ G_30 ha (lv_sub hl_27 [1, 2, 3, 4, 0] rfl)
noncomputable def bc_X4_readNumber_97 (a : Nat) (x1 : Int32) (x2 : Int32) (v0 : Int32) (σ : cl_S) : Option (cl_S) := vl (cl_w σ a 2 v0) (fun σ_5 => bc_X4_readNumber_106 a x1 x2 v0 (0:Int64) σ_5)
set_option maxHeartbeats 4000000 in
theorem wc_X4_readNumber_97 (C : cl_C D p s m args meth c cX4_readNumber 6 none RX4) {a : Nat} {x1 : Int32} {x2 : Int32} {v0 : Int32} {σ0 σ σ' : cl_S} {T : Nat → Nat × Nat} {H : Heap} {locs : List Loc} {ls : Array Slot} {cells slots : Nat} (h : bc_X4_readNumber_97 a x1 x2 v0 σ = some σ') (G : cl_G true D c0 ({ frames := 1, cells := σ0.2.2.2.2.2.1, slots := σ0.2.2.2.2.2.2, locals := 21 }) s σ0.2.2.2.1 T σ H locs cells slots) (ha : (T a).1 = 20) (hl : lv_has ls 6 [(0, .ref (c0 + a)), (1, .int x1), (2, .int x2)]) : W p l e ({ frames := 1, cells := σ0.2.2.2.2.2.1, slots := σ0.2.2.2.2.2.2, locals := 21 }) s m args below meth c H locs cells slots (MQ below (cl_Q true D c0 none cl_no σ0 σ') args s (σ0.2.2.2.2.2.1 - σ'.2.2.2.2.2.1) (σ0.2.2.2.2.2.2 - σ'.2.2.2.2.2.2) (cl_A c0 σ0.2.2.2.1 s.heap.size)) (F0 m 97 ls [.int v0]) := by
  unfold bc_X4_readNumber_97 at h
  refine lv_istore_n (lv' := [(3, .int v0), (0, .ref (c0 + a)), (1, .int x1), (2, .int x2)]) C.1 C.2.1 dX4_readNumber_97 rfl hl (by decide) rfl (fun ls hl_3 => ?_)
  refine lv_lconst (v := (0:Int64)) C.1 C.2.1 dX4_readNumber_98 (by decide) ?_
  refine lv_lstore (lv' := [(4, .long (0:Int64)), (3, .int v0), (0, .ref (c0 + a)), (1, .int x1), (2, .int x2)]) C.1 C.2.1 dX4_readNumber_99 hl_3 (by decide) rfl (fun ls hl_4 => ?_)
  refine lv_aload_n C.1 C.2.1 dX4_readNumber_101 rfl (lv_at hl_4 2 rfl) ?_
  refine lv_iload_n C.1 C.2.1 dX4_readNumber_102 rfl (lv_at hl_4 1 rfl) ?_
  refine cp_4_32 C G ha dX4_readNumber_103 (fun H locs G_6 => ?_)
  refine cl_nm G_6 h (fun σ_5 G_7 h_8 => ?_)
  exact wc_X4_readNumber_106 C h_8 G_7 ha (lv_sub hl_4 [2, 3, 4, 1, 0] rfl)
noncomputable def bc_X4_readNumber_79 (a : Nat) (x1 : Int32) (v0 : Int32) (σ : cl_S) : Option (cl_S) := (if x1 = 0 then bc_X4_readNumber_97 a x1 v0 (σ.1 a 2) σ else bc_X4_readNumber_97 a x1 v0 ((σ.1 a 2) + (2:Int32)) σ)
set_option maxHeartbeats 4000000 in
theorem wc_X4_readNumber_79 (C : cl_C D p s m args meth c cX4_readNumber 6 none RX4) {a : Nat} {x1 : Int32} {v0 : Int32} {σ0 σ σ' : cl_S} {T : Nat → Nat × Nat} {H : Heap} {locs : List Loc} {ls : Array Slot} {cells slots : Nat} (h : bc_X4_readNumber_79 a x1 v0 σ = some σ') (G : cl_G true D c0 ({ frames := 1, cells := σ0.2.2.2.2.2.1, slots := σ0.2.2.2.2.2.2, locals := 21 }) s σ0.2.2.2.1 T σ H locs cells slots) (ha : (T a).1 = 20) (hl : lv_has ls 6 [(0, .ref (c0 + a)), (1, .int x1)]) : W p l e ({ frames := 1, cells := σ0.2.2.2.2.2.1, slots := σ0.2.2.2.2.2.2, locals := 21 }) s m args below meth c H locs cells slots (MQ below (cl_Q true D c0 none cl_no σ0 σ') args s (σ0.2.2.2.2.2.1 - σ'.2.2.2.2.2.1) (σ0.2.2.2.2.2.2 - σ'.2.2.2.2.2.2) (cl_A c0 σ0.2.2.2.1 s.heap.size)) (F0 m 79 ls [.int v0]) := by
  unfold bc_X4_readNumber_79 at h
  refine lv_istore_n (lv' := [(2, .int v0), (0, .ref (c0 + a)), (1, .int x1)]) C.1 C.2.1 dX4_readNumber_79 rfl hl (by decide) rfl (fun ls hl_2 => ?_)
  refine lv_iload_n C.1 C.2.1 dX4_readNumber_80 rfl (lv_at hl_2 2 rfl) ?_
  refine lv_if_eq (tgt := 93) C.1 C.2.1 dX4_readNumber_81 (by decide) (fun hc => ?_) (fun hc => ?_)
  · rw [if_pos hc] at h
    refine lv_aload_n C.1 C.2.1 dX4_readNumber_93 rfl (lv_at hl_2 1 rfl) ?_
    refine cg_4_32 C G ha dX4_readNumber_94 ?_
    exact wc_X4_readNumber_97 C h G ha (lv_sub hl_2 [1, 2, 0] rfl)
  · rw [if_neg hc] at h
    refine lv_aload_n C.1 C.2.1 dX4_readNumber_84 rfl (lv_at hl_2 1 rfl) ?_
    refine cg_4_32 C G ha dX4_readNumber_85 ?_
    refine lv_iconst (v := (2:Int32)) C.1 C.2.1 dX4_readNumber_88 (by decide) ?_
    refine lv_iadd C.1 C.2.1 dX4_readNumber_89 ?_
    refine lv_goto (tgt := 97) C.1 C.2.1 dX4_readNumber_90 (by decide) ?_
    exact wc_X4_readNumber_97 C h G ha (lv_sub hl_2 [1, 2, 0] rfl)
noncomputable def bc_X4_readNumber_67 (a : Nat) (v0 : Int32) (σ : cl_S) : Option (cl_S) := (if v0 = 0 then bc_X4_readNumber_79 a v0 (10:Int32) σ else bc_X4_readNumber_79 a v0 (16:Int32) σ)
set_option maxHeartbeats 4000000 in
theorem wc_X4_readNumber_67 (C : cl_C D p s m args meth c cX4_readNumber 6 none RX4) {a : Nat} {v0 : Int32} {σ0 σ σ' : cl_S} {T : Nat → Nat × Nat} {H : Heap} {locs : List Loc} {ls : Array Slot} {cells slots : Nat} (h : bc_X4_readNumber_67 a v0 σ = some σ') (G : cl_G true D c0 ({ frames := 1, cells := σ0.2.2.2.2.2.1, slots := σ0.2.2.2.2.2.2, locals := 21 }) s σ0.2.2.2.1 T σ H locs cells slots) (ha : (T a).1 = 20) (hl : lv_has ls 6 [(0, .ref (c0 + a))]) : W p l e ({ frames := 1, cells := σ0.2.2.2.2.2.1, slots := σ0.2.2.2.2.2.2, locals := 21 }) s m args below meth c H locs cells slots (MQ below (cl_Q true D c0 none cl_no σ0 σ') args s (σ0.2.2.2.2.2.1 - σ'.2.2.2.2.2.1) (σ0.2.2.2.2.2.2 - σ'.2.2.2.2.2.2) (cl_A c0 σ0.2.2.2.1 s.heap.size)) (F0 m 67 ls [.int v0]) := by
  unfold bc_X4_readNumber_67 at h
  refine lv_istore_n (lv' := [(1, .int v0), (0, .ref (c0 + a))]) C.1 C.2.1 dX4_readNumber_67 rfl hl (by decide) rfl (fun ls hl_1 => ?_)
  refine lv_iload_n C.1 C.2.1 dX4_readNumber_68 rfl (lv_at hl_1 0 rfl) ?_
  refine lv_if_eq (tgt := 77) C.1 C.2.1 dX4_readNumber_69 (by decide) (fun hc => ?_) (fun hc => ?_)
  · rw [if_pos hc] at h
    refine lv_bipush (v := (10:Int32)) C.1 C.2.1 dX4_readNumber_77 (by decide) ?_
    exact wc_X4_readNumber_79 C h G ha (lv_sub hl_1 [1, 0] rfl)
  · rw [if_neg hc] at h
    refine lv_bipush (v := (16:Int32)) C.1 C.2.1 dX4_readNumber_72 (by decide) ?_
    refine lv_goto (tgt := 79) C.1 C.2.1 dX4_readNumber_74 (by decide) ?_
    exact wc_X4_readNumber_79 C h G ha (lv_sub hl_1 [1, 0] rfl)
noncomputable def bc_X4_readNumber_66 (a : Nat) (σ : cl_S) : Option (cl_S) := bc_X4_readNumber_67 a (0:Int32) σ
set_option maxHeartbeats 4000000 in
theorem wc_X4_readNumber_66 (C : cl_C D p s m args meth c cX4_readNumber 6 none RX4) {a : Nat} {σ0 σ σ' : cl_S} {T : Nat → Nat × Nat} {H : Heap} {locs : List Loc} {ls : Array Slot} {cells slots : Nat} (h : bc_X4_readNumber_66 a σ = some σ') (G : cl_G true D c0 ({ frames := 1, cells := σ0.2.2.2.2.2.1, slots := σ0.2.2.2.2.2.2, locals := 21 }) s σ0.2.2.2.1 T σ H locs cells slots) (ha : (T a).1 = 20) (hl : lv_has ls 6 [(0, .ref (c0 + a))]) : W p l e ({ frames := 1, cells := σ0.2.2.2.2.2.1, slots := σ0.2.2.2.2.2.2, locals := 21 }) s m args below meth c H locs cells slots (MQ below (cl_Q true D c0 none cl_no σ0 σ') args s (σ0.2.2.2.2.2.1 - σ'.2.2.2.2.2.1) (σ0.2.2.2.2.2.2 - σ'.2.2.2.2.2.2) (cl_A c0 σ0.2.2.2.1 s.heap.size)) (F0 m 66 ls []) := by
  unfold bc_X4_readNumber_66 at h
  refine lv_iconst (v := (0:Int32)) C.1 C.2.1 dX4_readNumber_66 (by decide) ?_
  exact wc_X4_readNumber_67 C h G ha (lv_sub hl [0] rfl)
noncomputable def bc_X4_readNumber_0 (a : Nat) (σ : cl_S) : Option (cl_S) := (if (σ.1 a 1) ≤ ((σ.1 a 2) + (2:Int32)) then bc_X4_readNumber_66 a σ else ix (σ.1 a 2) 6000 ((if (σ.1 (a + 1) (σ.1 a 2).toNatClampNeg) = (48:Int32) then ix ((σ.1 a 2) + (1:Int32)) 6000 ((if (σ.1 (a + 1) ((σ.1 a 2) + (1:Int32)).toNatClampNeg) = (120:Int32) then ix ((σ.1 a 2) + (2:Int32)) 6000 (bd2 (fc_X4_figure (σ.1 (a + 1) ((σ.1 a 2) + (2:Int32)).toNatClampNeg) (16:Int32) σ) (fun r_56 σ_55 => (if r_56 < 0 then bc_X4_readNumber_66 a σ_55 else bc_X4_readNumber_67 a (1:Int32) σ_55))) else bc_X4_readNumber_66 a σ)) else bc_X4_readNumber_66 a σ)))
set_option maxHeartbeats 4000000 in
theorem wc_X4_readNumber_0 (C : cl_C D p s m args meth c cX4_readNumber 6 none RX4) {a : Nat} {σ0 σ σ' : cl_S} {T : Nat → Nat × Nat} {H : Heap} {locs : List Loc} {ls : Array Slot} {cells slots : Nat} (h : bc_X4_readNumber_0 a σ = some σ') (G : cl_G true D c0 ({ frames := 1, cells := σ0.2.2.2.2.2.1, slots := σ0.2.2.2.2.2.2, locals := 21 }) s σ0.2.2.2.1 T σ H locs cells slots) (ha : (T a).1 = 20) (hl : lv_has ls 6 [(0, .ref (c0 + a))]) : W p l e ({ frames := 1, cells := σ0.2.2.2.2.2.1, slots := σ0.2.2.2.2.2.2, locals := 21 }) s m args below meth c H locs cells slots (MQ below (cl_Q true D c0 none cl_no σ0 σ') args s (σ0.2.2.2.2.2.1 - σ'.2.2.2.2.2.1) (σ0.2.2.2.2.2.2 - σ'.2.2.2.2.2.2) (cl_A c0 σ0.2.2.2.1 s.heap.size)) (F0 m 0 ls []) := by
  unfold bc_X4_readNumber_0 at h
  refine lv_aload_n C.1 C.2.1 dX4_readNumber_0 rfl (lv_at hl 0 rfl) ?_
  refine cg_4_32 C G ha dX4_readNumber_1 ?_
  refine lv_iconst (v := (2:Int32)) C.1 C.2.1 dX4_readNumber_4 (by decide) ?_
  refine lv_iadd C.1 C.2.1 dX4_readNumber_5 ?_
  refine lv_aload_n C.1 C.2.1 dX4_readNumber_6 rfl (lv_at hl 0 rfl) ?_
  refine cg_4_26 C G ha dX4_readNumber_7 ?_
  refine lv_icmp_ge (tgt := 66) C.1 C.2.1 dX4_readNumber_10 (by decide) (fun hc => ?_) (fun hc => ?_)
  · rw [if_pos hc] at h
    exact wc_X4_readNumber_66 C h G ha (lv_sub hl [0] rfl)
  · rw [if_neg hc] at h
    refine lv_aload_n C.1 C.2.1 dX4_readNumber_13 rfl (lv_at hl 0 rfl) ?_
    refine cg_4_11 C G ha dX4_readNumber_14 (fun t_49 => ?_)
    refine lv_aload_n C.1 C.2.1 dX4_readNumber_17 rfl (lv_at hl 0 rfl) ?_
    refine cg_4_32 C G ha dX4_readNumber_18 ?_
    obtain ⟨hi, h_50⟩ := ix_some h
    refine cl_cald C G t_49 hi dX4_readNumber_21 ?_
    refine lv_bipush (v := (48:Int32)) C.1 C.2.1 dX4_readNumber_22 (by decide) ?_
    refine lv_icmp_ne (tgt := 66) C.1 C.2.1 dX4_readNumber_24 (by decide) (fun hc => ?_) (fun hc => ?_)
    · rw [if_neg hc] at h_50
      exact wc_X4_readNumber_66 C h_50 G ha (lv_sub hl [0] rfl)
    · rw [if_pos hc] at h_50
      refine lv_aload_n C.1 C.2.1 dX4_readNumber_27 rfl (lv_at hl 0 rfl) ?_
      refine cg_4_11 C G ha dX4_readNumber_28 (fun t_51 => ?_)
      refine lv_aload_n C.1 C.2.1 dX4_readNumber_31 rfl (lv_at hl 0 rfl) ?_
      refine cg_4_32 C G ha dX4_readNumber_32 ?_
      refine lv_iconst (v := (1:Int32)) C.1 C.2.1 dX4_readNumber_35 (by decide) ?_
      refine lv_iadd C.1 C.2.1 dX4_readNumber_36 ?_
      obtain ⟨hi, h_52⟩ := ix_some h_50
      refine cl_cald C G t_51 hi dX4_readNumber_37 ?_
      refine lv_bipush (v := (120:Int32)) C.1 C.2.1 dX4_readNumber_38 (by decide) ?_
      refine lv_icmp_ne (tgt := 66) C.1 C.2.1 dX4_readNumber_40 (by decide) (fun hc => ?_) (fun hc => ?_)
      · rw [if_neg hc] at h_52
        exact wc_X4_readNumber_66 C h_52 G ha (lv_sub hl [0] rfl)
      · rw [if_pos hc] at h_52
        refine lv_aload_n C.1 C.2.1 dX4_readNumber_43 rfl (lv_at hl 0 rfl) ?_
        refine cg_4_11 C G ha dX4_readNumber_44 (fun t_53 => ?_)
        refine lv_aload_n C.1 C.2.1 dX4_readNumber_47 rfl (lv_at hl 0 rfl) ?_
        refine cg_4_32 C G ha dX4_readNumber_48 ?_
        refine lv_iconst (v := (2:Int32)) C.1 C.2.1 dX4_readNumber_51 (by decide) ?_
        refine lv_iadd C.1 C.2.1 dX4_readNumber_52 ?_
        obtain ⟨hi, h_54⟩ := ix_some h_52
        refine cl_cald C G t_53 hi dX4_readNumber_53 ?_
        refine lv_bipush (v := (16:Int32)) C.1 C.2.1 dX4_readNumber_54 (by decide) ?_
        obtain ⟨r_56, σ_55, hq, h_57⟩ := bd2_some h_54
        refine cl_callS (rest := []) C G cw_RX4_51 [.int (σ.1 (a + 1) ((σ.1 a 2) + (2:Int32)).toNatClampNeg), .int (16:Int32)] _ (kc_X4_figure l D c0 hq) (Nat.le_of_ble_eq_true rfl) (Nat.le_of_ble_eq_true rfl) rfl rfl hl.1 (Nat.le_of_ble_eq_true rfl) dX4_readNumber_56 (fun T_58 H locs cells slots t_59 hu G_60 => ?_)
        have ha := hu.kind ha (by decide)
        refine W.eq (g2 := F0 m 59 ls [.int r_56]) rfl ?_
        refine lv_if_lt (tgt := 66) C.1 C.2.1 dX4_readNumber_59 (by decide) (fun hc => ?_) (fun hc => ?_)
        · rw [if_pos hc] at h_57
          exact wc_X4_readNumber_66 C h_57 G_60 ha (lv_sub hl [0] rfl)
        · rw [if_neg hc] at h_57
          refine lv_iconst (v := (1:Int32)) C.1 C.2.1 dX4_readNumber_62 (by decide) ?_
          refine lv_goto (tgt := 67) C.1 C.2.1 dX4_readNumber_63 (by decide) ?_
          exact wc_X4_readNumber_67 C h_57 G_60 ha (lv_sub hl [0] rfl)
noncomputable def fc_X4_readNumber (a : Nat) (σ : cl_S) : Option (cl_S) := bc_X4_readNumber_0 a σ
theorem kc_X4_readNumber (l : Launch) (D : cl_D) (c0 : Nat) {a : Nat} {σ σ' : cl_S} (ha : (σ.2.2.2.1 a).1 = 20) (h : fc_X4_readNumber a σ = some σ') : cl_Met true l D c0 yX4_readNumber cX4_readNumber 6 none 1 21 [.ref (c0 + a)] σ none cl_no σ' :=
  cl_of (by decide) (Nat.le_of_ble_eq_true rfl) (fun p e s m args below meth c ls C hn G hl => wc_X4_readNumber_0 C h G ha hl)
abbrev cX4_signOf : ByteArray := prog_6_method_8_code
def yX4_signOf : MethodName := ⟨RX4, "signOf", "(C)I"⟩
theorem dX4_signOf_0 : decode cX4_signOf 0 = .ok (.iload_n 0, 1) := by decide +kernel
theorem dX4_signOf_1 : decode cX4_signOf 1 = .ok (.bipush 10, 2) := by decide +kernel
theorem dX4_signOf_3 : decode cX4_signOf 3 = .ok (.if_icmp .ne 5, 3) := by decide +kernel
theorem dX4_signOf_6 : decode cX4_signOf 6 = .ok (.iconst 1, 1) := by decide +kernel
theorem dX4_signOf_7 : decode cX4_signOf 7 = .ok (.ireturn, 1) := by decide +kernel
theorem dX4_signOf_8 : decode cX4_signOf 8 = .ok (.iload_n 0, 1) := by decide +kernel
theorem dX4_signOf_9 : decode cX4_signOf 9 = .ok (.bipush 44, 2) := by decide +kernel
theorem dX4_signOf_11 : decode cX4_signOf 11 = .ok (.if_icmp .ne 5, 3) := by decide +kernel
theorem dX4_signOf_14 : decode cX4_signOf 14 = .ok (.iconst 4, 1) := by decide +kernel
theorem dX4_signOf_15 : decode cX4_signOf 15 = .ok (.ireturn, 1) := by decide +kernel
theorem dX4_signOf_16 : decode cX4_signOf 16 = .ok (.iload_n 0, 1) := by decide +kernel
theorem dX4_signOf_17 : decode cX4_signOf 17 = .ok (.bipush 58, 2) := by decide +kernel
theorem dX4_signOf_19 : decode cX4_signOf 19 = .ok (.if_icmp .ne 5, 3) := by decide +kernel
theorem dX4_signOf_22 : decode cX4_signOf 22 = .ok (.iconst 5, 1) := by decide +kernel
theorem dX4_signOf_23 : decode cX4_signOf 23 = .ok (.ireturn, 1) := by decide +kernel
theorem dX4_signOf_24 : decode cX4_signOf 24 = .ok (.iload_n 0, 1) := by decide +kernel
theorem dX4_signOf_25 : decode cX4_signOf 25 = .ok (.bipush 45, 2) := by decide +kernel
theorem dX4_signOf_27 : decode cX4_signOf 27 = .ok (.if_icmp .ne 8, 3) := by decide +kernel
theorem dX4_signOf_30 : decode cX4_signOf 30 = .ok (.bipush 6, 2) := by decide +kernel
theorem dX4_signOf_32 : decode cX4_signOf 32 = .ok (.goto 5, 3) := by decide +kernel
theorem dX4_signOf_35 : decode cX4_signOf 35 = .ok (.bipush 7, 2) := by decide +kernel
theorem dX4_signOf_37 : decode cX4_signOf 37 = .ok (.ireturn, 1) := by decide +kernel
theorem cc_X4_signOf : Cond.code yX4_signOf cX4_signOf 1 (some .int) ∈ rf_tb := rf_at 784 (by decide +kernel) (by decide +kernel)
noncomputable def bc_X4_signOf_0 (x0 : Int32) (σ : cl_S) : Option (Int32 × cl_S) := (if x0 = (10:Int32) then some ((1:Int32), σ) else (if x0 = (44:Int32) then some ((4:Int32), σ) else (if x0 = (58:Int32) then some ((5:Int32), σ) else (if x0 = (45:Int32) then some ((6:Int32), σ) else some ((7:Int32), σ)))))
set_option maxHeartbeats 4000000 in
theorem wc_X4_signOf_0 (C : cl_C D p s m args meth c cX4_signOf 1 (some .int) RX4) {r : Int32} {x0 : Int32} {σ0 σ σ' : cl_S} {T : Nat → Nat × Nat} {H : Heap} {locs : List Loc} {ls : Array Slot} {cells slots : Nat} (h : bc_X4_signOf_0 x0 σ = some (r, σ')) (G : cl_G true D c0 ({ frames := 0, cells := σ0.2.2.2.2.2.1, slots := σ0.2.2.2.2.2.2, locals := 0 }) s σ0.2.2.2.1 T σ H locs cells slots) (hl : lv_has ls 1 [(0, .int x0)]) : W p l e ({ frames := 0, cells := σ0.2.2.2.2.2.1, slots := σ0.2.2.2.2.2.2, locals := 0 }) s m args below meth c H locs cells slots (MQ below (cl_Q true D c0 (some (.int r)) cl_no σ0 σ') args s (σ0.2.2.2.2.2.1 - σ'.2.2.2.2.2.1) (σ0.2.2.2.2.2.2 - σ'.2.2.2.2.2.2) (cl_A c0 σ0.2.2.2.1 s.heap.size)) (F0 m 0 ls []) := by
  unfold bc_X4_signOf_0 at h
  refine lv_iload_n C.1 C.2.1 dX4_signOf_0 rfl (lv_at hl 0 rfl) ?_
  refine lv_bipush (v := (10:Int32)) C.1 C.2.1 dX4_signOf_1 (by decide) ?_
  refine lv_icmp_ne (tgt := 8) C.1 C.2.1 dX4_signOf_3 (by decide) (fun hc => ?_) (fun hc => ?_)
  · rw [if_neg hc] at h
    refine lv_iload_n C.1 C.2.1 dX4_signOf_8 rfl (lv_at hl 0 rfl) ?_
    refine lv_bipush (v := (44:Int32)) C.1 C.2.1 dX4_signOf_9 (by decide) ?_
    refine lv_icmp_ne (tgt := 16) C.1 C.2.1 dX4_signOf_11 (by decide) (fun hc => ?_) (fun hc => ?_)
    · rw [if_neg hc] at h
      refine lv_iload_n C.1 C.2.1 dX4_signOf_16 rfl (lv_at hl 0 rfl) ?_
      refine lv_bipush (v := (58:Int32)) C.1 C.2.1 dX4_signOf_17 (by decide) ?_
      refine lv_icmp_ne (tgt := 24) C.1 C.2.1 dX4_signOf_19 (by decide) (fun hc => ?_) (fun hc => ?_)
      · rw [if_neg hc] at h
        refine lv_iload_n C.1 C.2.1 dX4_signOf_24 rfl (lv_at hl 0 rfl) ?_
        refine lv_bipush (v := (45:Int32)) C.1 C.2.1 dX4_signOf_25 (by decide) ?_
        refine lv_icmp_ne (tgt := 35) C.1 C.2.1 dX4_signOf_27 (by decide) (fun hc => ?_) (fun hc => ?_)
        · rw [if_neg hc] at h
          refine lv_bipush (v := (7:Int32)) C.1 C.2.1 dX4_signOf_35 (by decide) ?_
          exact cl_iret ⟨rfl, rfl⟩ rfl C G h dX4_signOf_37
        · rw [if_pos hc] at h
          refine lv_bipush (v := (6:Int32)) C.1 C.2.1 dX4_signOf_30 (by decide) ?_
          refine lv_goto (tgt := 37) C.1 C.2.1 dX4_signOf_32 (by decide) ?_
          exact cl_iret ⟨rfl, rfl⟩ rfl C G h dX4_signOf_37
      · rw [if_pos hc] at h
        refine lv_iconst (v := (5:Int32)) C.1 C.2.1 dX4_signOf_22 (by decide) ?_
        exact cl_iret ⟨rfl, rfl⟩ rfl C G h dX4_signOf_23
    · rw [if_pos hc] at h
      refine lv_iconst (v := (4:Int32)) C.1 C.2.1 dX4_signOf_14 (by decide) ?_
      exact cl_iret ⟨rfl, rfl⟩ rfl C G h dX4_signOf_15
  · rw [if_pos hc] at h
    refine lv_iconst (v := (1:Int32)) C.1 C.2.1 dX4_signOf_6 (by decide) ?_
    exact cl_iret ⟨rfl, rfl⟩ rfl C G h dX4_signOf_7
noncomputable def fc_X4_signOf (x0 : Int32) (σ : cl_S) : Option (Int32 × cl_S) := bc_X4_signOf_0 x0 σ
theorem kc_X4_signOf (l : Launch) (D : cl_D) (c0 : Nat) {r : Int32} {x0 : Int32} {σ σ' : cl_S} (h : fc_X4_signOf x0 σ = some (r, σ')) : cl_Met true l D c0 yX4_signOf cX4_signOf 1 (some .int) 0 0 [.int x0] σ (some (.int r)) cl_no σ' :=
  cl_of (by decide) (Nat.le_of_ble_eq_true rfl) (fun p e s m args below meth c ls C hn G hl => wc_X4_signOf_0 C h G  hl)
abbrev cX4_readToken : ByteArray := prog_6_method_5_code
def yX4_readToken : MethodName := ⟨RX4, "readToken", "()V"⟩
theorem dX4_readToken_0 : decode cX4_readToken 0 = .ok (.aload_n 0, 1) := by decide +kernel
theorem dX4_readToken_1 : decode cX4_readToken 1 = .ok (.getfield 19, 3) := by decide +kernel
theorem dX4_readToken_4 : decode cX4_readToken 4 = .ok (.aload_n 0, 1) := by decide +kernel
theorem dX4_readToken_5 : decode cX4_readToken 5 = .ok (.getfield 35, 3) := by decide +kernel
theorem dX4_readToken_8 : decode cX4_readToken 8 = .ok (.aload_n 0, 1) := by decide +kernel
theorem dX4_readToken_9 : decode cX4_readToken 9 = .ok (.getfield 32, 3) := by decide +kernel
theorem dX4_readToken_12 : decode cX4_readToken 12 = .ok (.iastore, 1) := by decide +kernel
theorem dX4_readToken_13 : decode cX4_readToken 13 = .ok (.aload_n 0, 1) := by decide +kernel
theorem dX4_readToken_14 : decode cX4_readToken 14 = .ok (.getfield 32, 3) := by decide +kernel
theorem dX4_readToken_17 : decode cX4_readToken 17 = .ok (.aload_n 0, 1) := by decide +kernel
theorem dX4_readToken_18 : decode cX4_readToken 18 = .ok (.getfield 26, 3) := by decide +kernel
theorem dX4_readToken_21 : decode cX4_readToken 21 = .ok (.if_icmp .lt 16, 3) := by decide +kernel
theorem dX4_readToken_24 : decode cX4_readToken 24 = .ok (.aload_n 0, 1) := by decide +kernel
theorem dX4_readToken_25 : decode cX4_readToken 25 = .ok (.getfield 15, 3) := by decide +kernel
theorem dX4_readToken_28 : decode cX4_readToken 28 = .ok (.aload_n 0, 1) := by decide +kernel
theorem dX4_readToken_29 : decode cX4_readToken 29 = .ok (.getfield 35, 3) := by decide +kernel
theorem dX4_readToken_32 : decode cX4_readToken 32 = .ok (.iconst 0, 1) := by decide +kernel
theorem dX4_readToken_33 : decode cX4_readToken 33 = .ok (.iastore, 1) := by decide +kernel
theorem dX4_readToken_34 : decode cX4_readToken 34 = .ok (.goto 80, 3) := by decide +kernel
theorem dX4_readToken_37 : decode cX4_readToken 37 = .ok (.aload_n 0, 1) := by decide +kernel
theorem dX4_readToken_38 : decode cX4_readToken 38 = .ok (.getfield 11, 3) := by decide +kernel
theorem dX4_readToken_41 : decode cX4_readToken 41 = .ok (.aload_n 0, 1) := by decide +kernel
theorem dX4_readToken_42 : decode cX4_readToken 42 = .ok (.getfield 32, 3) := by decide +kernel
theorem dX4_readToken_45 : decode cX4_readToken 45 = .ok (.caload, 1) := by decide +kernel
theorem dX4_readToken_46 : decode cX4_readToken 46 = .ok (.invokestatic 44, 3) := by decide +kernel
theorem dX4_readToken_49 : decode cX4_readToken 49 = .ok (.ifCond .eq 10, 3) := by decide +kernel
theorem dX4_readToken_52 : decode cX4_readToken 52 = .ok (.aload_n 0, 1) := by decide +kernel
theorem dX4_readToken_53 : decode cX4_readToken 53 = .ok (.invokevirtual 48, 3) := by decide +kernel
theorem dX4_readToken_56 : decode cX4_readToken 56 = .ok (.goto 58, 3) := by decide +kernel
theorem dX4_readToken_59 : decode cX4_readToken 59 = .ok (.aload_n 0, 1) := by decide +kernel
theorem dX4_readToken_60 : decode cX4_readToken 60 = .ok (.getfield 11, 3) := by decide +kernel
theorem dX4_readToken_63 : decode cX4_readToken 63 = .ok (.aload_n 0, 1) := by decide +kernel
theorem dX4_readToken_64 : decode cX4_readToken 64 = .ok (.getfield 32, 3) := by decide +kernel
theorem dX4_readToken_67 : decode cX4_readToken 67 = .ok (.caload, 1) := by decide +kernel
theorem dX4_readToken_68 : decode cX4_readToken 68 = .ok (.bipush 10, 2) := by decide +kernel
theorem dX4_readToken_70 : decode cX4_readToken 70 = .ok (.invokestatic 51, 3) := by decide +kernel
theorem dX4_readToken_73 : decode cX4_readToken 73 = .ok (.ifCond .lt 10, 3) := by decide +kernel
theorem dX4_readToken_76 : decode cX4_readToken 76 = .ok (.aload_n 0, 1) := by decide +kernel
theorem dX4_readToken_77 : decode cX4_readToken 77 = .ok (.invokevirtual 55, 3) := by decide +kernel
theorem dX4_readToken_80 : decode cX4_readToken 80 = .ok (.goto 34, 3) := by decide +kernel
theorem dX4_readToken_83 : decode cX4_readToken 83 = .ok (.aload_n 0, 1) := by decide +kernel
theorem dX4_readToken_84 : decode cX4_readToken 84 = .ok (.getfield 15, 3) := by decide +kernel
theorem dX4_readToken_87 : decode cX4_readToken 87 = .ok (.aload_n 0, 1) := by decide +kernel
theorem dX4_readToken_88 : decode cX4_readToken 88 = .ok (.getfield 35, 3) := by decide +kernel
theorem dX4_readToken_91 : decode cX4_readToken 91 = .ok (.aload_n 0, 1) := by decide +kernel
theorem dX4_readToken_92 : decode cX4_readToken 92 = .ok (.getfield 11, 3) := by decide +kernel
theorem dX4_readToken_95 : decode cX4_readToken 95 = .ok (.aload_n 0, 1) := by decide +kernel
theorem dX4_readToken_96 : decode cX4_readToken 96 = .ok (.getfield 32, 3) := by decide +kernel
theorem dX4_readToken_99 : decode cX4_readToken 99 = .ok (.caload, 1) := by decide +kernel
theorem dX4_readToken_100 : decode cX4_readToken 100 = .ok (.invokestatic 58, 3) := by decide +kernel
theorem dX4_readToken_103 : decode cX4_readToken 103 = .ok (.iastore, 1) := by decide +kernel
theorem dX4_readToken_104 : decode cX4_readToken 104 = .ok (.aload_n 0, 1) := by decide +kernel
theorem dX4_readToken_105 : decode cX4_readToken 105 = .ok (.dup, 1) := by decide +kernel
theorem dX4_readToken_106 : decode cX4_readToken 106 = .ok (.getfield 32, 3) := by decide +kernel
theorem dX4_readToken_109 : decode cX4_readToken 109 = .ok (.iconst 1, 1) := by decide +kernel
theorem dX4_readToken_110 : decode cX4_readToken 110 = .ok (.iadd, 1) := by decide +kernel
theorem dX4_readToken_111 : decode cX4_readToken 111 = .ok (.putfield 32, 3) := by decide +kernel
theorem dX4_readToken_114 : decode cX4_readToken 114 = .ok (.aload_n 0, 1) := by decide +kernel
theorem dX4_readToken_115 : decode cX4_readToken 115 = .ok (.dup, 1) := by decide +kernel
theorem dX4_readToken_116 : decode cX4_readToken 116 = .ok (.getfield 35, 3) := by decide +kernel
theorem dX4_readToken_119 : decode cX4_readToken 119 = .ok (.iconst 1, 1) := by decide +kernel
theorem dX4_readToken_120 : decode cX4_readToken 120 = .ok (.iadd, 1) := by decide +kernel
theorem dX4_readToken_121 : decode cX4_readToken 121 = .ok (.putfield 35, 3) := by decide +kernel
theorem dX4_readToken_124 : decode cX4_readToken 124 = .ok (.return_, 1) := by decide +kernel
theorem cc_X4_readToken : Cond.code yX4_readToken cX4_readToken 1 none ∈ rf_tb := rf_at 767 (by decide +kernel) (by decide +kernel)
theorem cw_RX4_48 : cl_wV RX4 RX4 yX4_readName cX4_readName 4 none 48 0 := ⟨⟨rf_at 771 (by decide +kernel) (by decide +kernel), rf_at 773 (by decide +kernel) (by decide +kernel), rf_sel (q := (yX4_readName, 7)) 3 (by decide +kernel) (by decide +kernel), cc_X4_readName, rf_at 2 (by decide +kernel) (by decide +kernel)⟩, ⟨by decide, by decide, by decide +kernel⟩⟩
theorem cw_RX4_55 : cl_wV RX4 RX4 yX4_readNumber cX4_readNumber 6 none 55 0 := ⟨⟨rf_at 778 (by decide +kernel) (by decide +kernel), rf_at 780 (by decide +kernel) (by decide +kernel), rf_sel (q := (yX4_readNumber, 7)) 4 (by decide +kernel) (by decide +kernel), cc_X4_readNumber, rf_at 2 (by decide +kernel) (by decide +kernel)⟩, ⟨by decide, by decide, by decide +kernel⟩⟩
theorem cw_RX4_58 : cl_wS RX4 yX4_signOf cX4_signOf 1 (some .int) 58 1 := ⟨⟨rf_at 782 (by decide +kernel) (by decide +kernel), rf_at 783 (by decide +kernel) (by decide +kernel), cc_X4_signOf, rf_at 2 (by decide +kernel) (by decide +kernel)⟩, ⟨by decide, by decide, by decide +kernel⟩⟩
noncomputable def bc_X4_readToken_114 (a : Nat) (σ : cl_S) : Option (cl_S) := vl (cl_w σ a 6 ((σ.1 a 6) + (1:Int32))) (fun σ_41 => some σ_41)
set_option maxHeartbeats 4000000 in
theorem wc_X4_readToken_114 (C : cl_C D p s m args meth c cX4_readToken 1 none RX4) {a : Nat} {σ0 σ σ' : cl_S} {T : Nat → Nat × Nat} {H : Heap} {locs : List Loc} {ls : Array Slot} {cells slots : Nat} (h : bc_X4_readToken_114 a σ = some σ') (G : cl_G true D c0 ({ frames := 2, cells := σ0.2.2.2.2.2.1, slots := σ0.2.2.2.2.2.2, locals := 46 }) s σ0.2.2.2.1 T σ H locs cells slots) (ha : (T a).1 = 20) (hl : lv_has ls 1 [(0, .ref (c0 + a))]) : W p l e ({ frames := 2, cells := σ0.2.2.2.2.2.1, slots := σ0.2.2.2.2.2.2, locals := 46 }) s m args below meth c H locs cells slots (MQ below (cl_Q true D c0 none cl_no σ0 σ') args s (σ0.2.2.2.2.2.1 - σ'.2.2.2.2.2.1) (σ0.2.2.2.2.2.2 - σ'.2.2.2.2.2.2) (cl_A c0 σ0.2.2.2.1 s.heap.size)) (F0 m 114 ls []) := by
  unfold bc_X4_readToken_114 at h
  refine lv_aload_n C.1 C.2.1 dX4_readToken_114 rfl (lv_at hl 0 rfl) ?_
  refine lv_dup C.1 C.2.1 dX4_readToken_115 rfl ?_
  refine cg_4_35 C G ha dX4_readToken_116 ?_
  refine lv_iconst (v := (1:Int32)) C.1 C.2.1 dX4_readToken_119 (by decide) ?_
  refine lv_iadd C.1 C.2.1 dX4_readToken_120 ?_
  refine cp_4_35 C G ha dX4_readToken_121 (fun H locs G_42 => ?_)
  refine cl_nm G_42 h (fun σ_41 G_43 h_44 => ?_)
  exact cl_vret ⟨rfl, rfl⟩ rfl C G_43 h_44 dX4_readToken_124
noncomputable def bc_X4_readToken_0 (a : Nat) (σ : cl_S) : Option (cl_S) := ix (σ.1 a 6) 6001 (vl (cl_w σ (a + 3) (σ.1 a 6).toNatClampNeg (σ.1 a 2)) (fun σ_2 => (if (σ_2.1 a 2) < (σ_2.1 a 1) then ix (σ_2.1 a 2) 6000 (bd2 (fc_X4_isLetter (σ_2.1 (a + 1) (σ_2.1 a 2).toNatClampNeg) σ_2) (fun r_10 σ_9 => (if r_10 = 0 then ix (σ_9.1 a 2) 6000 (bd2 (fc_X4_figure (σ_9.1 (a + 1) (σ_9.1 a 2).toNatClampNeg) (10:Int32) σ_9) (fun r_18 σ_17 => (if r_18 < 0 then ix (σ_17.1 a 2) 6000 (bd2 (fc_X4_signOf (σ_17.1 (a + 1) (σ_17.1 a 2).toNatClampNeg) σ_17) (fun r_27 σ_26 => ix (σ_17.1 a 6) 6001 (vl (cl_w σ_26 (a + 2) (σ_17.1 a 6).toNatClampNeg r_27) (fun σ_32 => vl (cl_w σ_32 a 2 ((σ_32.1 a 2) + (1:Int32))) (fun σ_37 => bc_X4_readToken_114 a σ_37))))) else bd1 (fc_X4_readNumber a σ_17) (fun σ_45 => bc_X4_readToken_114 a σ_45)))) else bd1 (fc_X4_readName a σ_9) (fun σ_50 => bc_X4_readToken_114 a σ_50)))) else ix (σ_2.1 a 6) 6001 (vl (cl_w σ_2 (a + 2) (σ_2.1 a 6).toNatClampNeg (0:Int32)) (fun σ_56 => bc_X4_readToken_114 a σ_56)))))
set_option maxHeartbeats 4000000 in
theorem wc_X4_readToken_0 (C : cl_C D p s m args meth c cX4_readToken 1 none RX4) {a : Nat} {σ0 σ σ' : cl_S} {T : Nat → Nat × Nat} {H : Heap} {locs : List Loc} {ls : Array Slot} {cells slots : Nat} (h : bc_X4_readToken_0 a σ = some σ') (G : cl_G true D c0 ({ frames := 2, cells := σ0.2.2.2.2.2.1, slots := σ0.2.2.2.2.2.2, locals := 46 }) s σ0.2.2.2.1 T σ H locs cells slots) (ha : (T a).1 = 20) (hl : lv_has ls 1 [(0, .ref (c0 + a))]) : W p l e ({ frames := 2, cells := σ0.2.2.2.2.2.1, slots := σ0.2.2.2.2.2.2, locals := 46 }) s m args below meth c H locs cells slots (MQ below (cl_Q true D c0 none cl_no σ0 σ') args s (σ0.2.2.2.2.2.1 - σ'.2.2.2.2.2.1) (σ0.2.2.2.2.2.2 - σ'.2.2.2.2.2.2) (cl_A c0 σ0.2.2.2.1 s.heap.size)) (F0 m 0 ls []) := by
  unfold bc_X4_readToken_0 at h
  refine lv_aload_n C.1 C.2.1 dX4_readToken_0 rfl (lv_at hl 0 rfl) ?_
  refine cg_4_19 C G ha dX4_readToken_1 (fun t_1 => ?_)
  refine lv_aload_n C.1 C.2.1 dX4_readToken_4 rfl (lv_at hl 0 rfl) ?_
  refine cg_4_35 C G ha dX4_readToken_5 ?_
  refine lv_aload_n C.1 C.2.1 dX4_readToken_8 rfl (lv_at hl 0 rfl) ?_
  refine cg_4_32 C G ha dX4_readToken_9 ?_
  obtain ⟨hi, h_3⟩ := ix_some h
  refine cl_iast C G t_1 hi dX4_readToken_12 (fun H locs G_4 => ?_)
  refine cl_nm G_4 h_3 (fun σ_2 G_5 h_6 => ?_)
  refine lv_aload_n C.1 C.2.1 dX4_readToken_13 rfl (lv_at hl 0 rfl) ?_
  refine cg_4_32 C G_5 ha dX4_readToken_14 ?_
  refine lv_aload_n C.1 C.2.1 dX4_readToken_17 rfl (lv_at hl 0 rfl) ?_
  refine cg_4_26 C G_5 ha dX4_readToken_18 ?_
  refine lv_icmp_lt (tgt := 37) C.1 C.2.1 dX4_readToken_21 (by decide) (fun hc => ?_) (fun hc => ?_)
  · rw [if_pos hc] at h_6
    refine lv_aload_n C.1 C.2.1 dX4_readToken_37 rfl (lv_at hl 0 rfl) ?_
    refine cg_4_11 C G_5 ha dX4_readToken_38 (fun t_7 => ?_)
    refine lv_aload_n C.1 C.2.1 dX4_readToken_41 rfl (lv_at hl 0 rfl) ?_
    refine cg_4_32 C G_5 ha dX4_readToken_42 ?_
    obtain ⟨hi, h_8⟩ := ix_some h_6
    refine cl_cald C G_5 t_7 hi dX4_readToken_45 ?_
    obtain ⟨r_10, σ_9, hq, h_11⟩ := bd2_some h_8
    refine cl_callS (rest := []) C G_5 cw_RX4_44 [.int (σ_2.1 (a + 1) (σ_2.1 a 2).toNatClampNeg)] _ (kc_X4_isLetter l D c0 hq) (Nat.le_of_ble_eq_true rfl) (Nat.le_of_ble_eq_true rfl) rfl rfl hl.1 (Nat.le_of_ble_eq_true rfl) dX4_readToken_46 (fun T_12 H locs cells slots t_13 hu G_14 => ?_)
    have ha := hu.kind ha (by decide)
    refine W.eq (g2 := F0 m 49 ls [.int r_10]) rfl ?_
    refine lv_if_eq (tgt := 59) C.1 C.2.1 dX4_readToken_49 (by decide) (fun hc => ?_) (fun hc => ?_)
    · rw [if_pos hc] at h_11
      refine lv_aload_n C.1 C.2.1 dX4_readToken_59 rfl (lv_at hl 0 rfl) ?_
      refine cg_4_11 C G_14 ha dX4_readToken_60 (fun t_15 => ?_)
      refine lv_aload_n C.1 C.2.1 dX4_readToken_63 rfl (lv_at hl 0 rfl) ?_
      refine cg_4_32 C G_14 ha dX4_readToken_64 ?_
      obtain ⟨hi, h_16⟩ := ix_some h_11
      refine cl_cald C G_14 t_15 hi dX4_readToken_67 ?_
      refine lv_bipush (v := (10:Int32)) C.1 C.2.1 dX4_readToken_68 (by decide) ?_
      obtain ⟨r_18, σ_17, hq, h_19⟩ := bd2_some h_16
      refine cl_callS (rest := []) C G_14 cw_RX4_51 [.int (σ_9.1 (a + 1) (σ_9.1 a 2).toNatClampNeg), .int (10:Int32)] _ (kc_X4_figure l D c0 hq) (Nat.le_of_ble_eq_true rfl) (Nat.le_of_ble_eq_true rfl) rfl rfl hl.1 (Nat.le_of_ble_eq_true rfl) dX4_readToken_70 (fun T_20 H locs cells slots t_21 hu G_22 => ?_)
      have ha := hu.kind ha (by decide)
      refine W.eq (g2 := F0 m 73 ls [.int r_18]) rfl ?_
      refine lv_if_lt (tgt := 83) C.1 C.2.1 dX4_readToken_73 (by decide) (fun hc => ?_) (fun hc => ?_)
      · rw [if_pos hc] at h_19
        refine lv_aload_n C.1 C.2.1 dX4_readToken_83 rfl (lv_at hl 0 rfl) ?_
        refine cg_4_15 C G_22 ha dX4_readToken_84 (fun t_23 => ?_)
        refine lv_aload_n C.1 C.2.1 dX4_readToken_87 rfl (lv_at hl 0 rfl) ?_
        refine cg_4_35 C G_22 ha dX4_readToken_88 ?_
        refine lv_aload_n C.1 C.2.1 dX4_readToken_91 rfl (lv_at hl 0 rfl) ?_
        refine cg_4_11 C G_22 ha dX4_readToken_92 (fun t_24 => ?_)
        refine lv_aload_n C.1 C.2.1 dX4_readToken_95 rfl (lv_at hl 0 rfl) ?_
        refine cg_4_32 C G_22 ha dX4_readToken_96 ?_
        obtain ⟨hi, h_25⟩ := ix_some h_19
        refine cl_cald C G_22 t_24 hi dX4_readToken_99 ?_
        obtain ⟨r_27, σ_26, hq, h_28⟩ := bd2_some h_25
        refine cl_callS (rest := [.int (σ_17.1 a 6), .ref (c0 + (a + 2))]) C G_22 cw_RX4_58 [.int (σ_17.1 (a + 1) (σ_17.1 a 2).toNatClampNeg)] _ (kc_X4_signOf l D c0 hq) (Nat.le_of_ble_eq_true rfl) (Nat.le_of_ble_eq_true rfl) rfl rfl hl.1 (Nat.le_of_ble_eq_true rfl) dX4_readToken_100 (fun T_29 H locs cells slots t_30 hu G_31 => ?_)
        have ha := hu.kind ha (by decide)
        have t_23 := cl_uparr hu t_23 (by decide)
        refine W.eq (g2 := F0 m 103 ls [.int r_27, .int (σ_17.1 a 6), .ref (c0 + (a + 2))]) rfl ?_
        obtain ⟨hi, h_33⟩ := ix_some h_28
        refine cl_iast C G_31 t_23 hi dX4_readToken_103 (fun H locs G_34 => ?_)
        refine cl_nm G_34 h_33 (fun σ_32 G_35 h_36 => ?_)
        refine lv_aload_n C.1 C.2.1 dX4_readToken_104 rfl (lv_at hl 0 rfl) ?_
        refine lv_dup C.1 C.2.1 dX4_readToken_105 rfl ?_
        refine cg_4_32 C G_35 ha dX4_readToken_106 ?_
        refine lv_iconst (v := (1:Int32)) C.1 C.2.1 dX4_readToken_109 (by decide) ?_
        refine lv_iadd C.1 C.2.1 dX4_readToken_110 ?_
        refine cp_4_32 C G_35 ha dX4_readToken_111 (fun H locs G_38 => ?_)
        refine cl_nm G_38 h_36 (fun σ_37 G_39 h_40 => ?_)
        exact wc_X4_readToken_114 C h_40 G_39 ha (lv_sub hl [0] rfl)
      · rw [if_neg hc] at h_19
        refine lv_aload_n C.1 C.2.1 dX4_readToken_76 rfl (lv_at hl 0 rfl) ?_
        obtain ⟨σ_45, hq, h_46⟩ := bd1_some h_19
        refine cl_callV (ci := 4) (rest := []) C G_22 rfl ha cw_RX4_55 [] _ (kc_X4_readNumber l D c0 (by rw [G_22.1]; exact ha) hq) (Nat.le_of_ble_eq_true rfl) (Nat.le_of_ble_eq_true rfl) rfl rfl hl.1 (Nat.le_of_ble_eq_true rfl) dX4_readToken_77 (fun T_47 H locs cells slots t_48 hu G_49 => ?_)
        have ha := hu.kind ha (by decide)
        refine W.eq (g2 := F0 m 80 ls []) rfl ?_
        refine lv_goto (tgt := 114) C.1 C.2.1 dX4_readToken_80 (by decide) ?_
        exact wc_X4_readToken_114 C h_46 G_49 ha (lv_sub hl [0] rfl)
    · rw [if_neg hc] at h_11
      refine lv_aload_n C.1 C.2.1 dX4_readToken_52 rfl (lv_at hl 0 rfl) ?_
      obtain ⟨σ_50, hq, h_51⟩ := bd1_some h_11
      refine cl_callV (ci := 4) (rest := []) C G_14 rfl ha cw_RX4_48 [] _ (kc_X4_readName l D c0 (by rw [G_14.1]; exact ha) hq) (Nat.le_of_ble_eq_true rfl) (Nat.le_of_ble_eq_true rfl) rfl rfl hl.1 (Nat.le_of_ble_eq_true rfl) dX4_readToken_53 (fun T_52 H locs cells slots t_53 hu G_54 => ?_)
      have ha := hu.kind ha (by decide)
      refine W.eq (g2 := F0 m 56 ls []) rfl ?_
      refine lv_goto (tgt := 114) C.1 C.2.1 dX4_readToken_56 (by decide) ?_
      exact wc_X4_readToken_114 C h_51 G_54 ha (lv_sub hl [0] rfl)
  · rw [if_neg hc] at h_6
    refine lv_aload_n C.1 C.2.1 dX4_readToken_24 rfl (lv_at hl 0 rfl) ?_
    refine cg_4_15 C G_5 ha dX4_readToken_25 (fun t_55 => ?_)
    refine lv_aload_n C.1 C.2.1 dX4_readToken_28 rfl (lv_at hl 0 rfl) ?_
    refine cg_4_35 C G_5 ha dX4_readToken_29 ?_
    refine lv_iconst (v := (0:Int32)) C.1 C.2.1 dX4_readToken_32 (by decide) ?_
    obtain ⟨hi, h_57⟩ := ix_some h_6
    refine cl_iast C G_5 t_55 hi dX4_readToken_33 (fun H locs G_58 => ?_)
    refine cl_nm G_58 h_57 (fun σ_56 G_59 h_60 => ?_)
    refine lv_goto (tgt := 114) C.1 C.2.1 dX4_readToken_34 (by decide) ?_
    exact wc_X4_readToken_114 C h_60 G_59 ha (lv_sub hl [0] rfl)
noncomputable def fc_X4_readToken (a : Nat) (σ : cl_S) : Option (cl_S) := bc_X4_readToken_0 a σ
theorem kc_X4_readToken (l : Launch) (D : cl_D) (c0 : Nat) {a : Nat} {σ σ' : cl_S} (ha : (σ.2.2.2.1 a).1 = 20) (h : fc_X4_readToken a σ = some σ') : cl_Met true l D c0 yX4_readToken cX4_readToken 1 none 2 46 [.ref (c0 + a)] σ none cl_no σ' :=
  cl_of (by decide) (Nat.le_of_ble_eq_true rfl) (fun p e s m args below meth c ls C hn G hl => wc_X4_readToken_0 C h G ha hl)
end CQ0
