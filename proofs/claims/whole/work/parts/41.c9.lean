section CQ8
variable {p : Program} {l : Launch} {e : Env} {s : State} {m : MethodId} {args : Array Value} {below : List Frame} {meth : Method} {c : Code} {D : cl_D} {c0 : Nat}
abbrev cX10_bucketOf : ByteArray := prog_12_method_3_code
def yX10_bucketOf : MethodName := ⟨RX10, "bucketOf", "(IILPartHouse$Term;LPartHouse$Term;LPartHouse$Term;)I"⟩
theorem dX10_bucketOf_0 : decode cX10_bucketOf 0 = .ok (.iload_n 0, 1) := by decide +kernel
theorem dX10_bucketOf_1 : decode cX10_bucketOf 1 = .ok (.bipush 31, 2) := by decide +kernel
theorem dX10_bucketOf_3 : decode cX10_bucketOf 3 = .ok (.iload_n 1, 1) := by decide +kernel
theorem dX10_bucketOf_4 : decode cX10_bucketOf 4 = .ok (.imul, 1) := by decide +kernel
theorem dX10_bucketOf_5 : decode cX10_bucketOf 5 = .ok (.iadd, 1) := by decide +kernel
theorem dX10_bucketOf_6 : decode cX10_bucketOf 6 = .ok (.istore 5, 2) := by decide +kernel
theorem dX10_bucketOf_8 : decode cX10_bucketOf 8 = .ok (.iload 5, 2) := by decide +kernel
theorem dX10_bucketOf_10 : decode cX10_bucketOf 10 = .ok (.bipush 31, 2) := by decide +kernel
theorem dX10_bucketOf_12 : decode cX10_bucketOf 12 = .ok (.imul, 1) := by decide +kernel
theorem dX10_bucketOf_13 : decode cX10_bucketOf 13 = .ok (.aload_n 2, 1) := by decide +kernel
theorem dX10_bucketOf_14 : decode cX10_bucketOf 14 = .ok (.getfield 58, 3) := by decide +kernel
theorem dX10_bucketOf_17 : decode cX10_bucketOf 17 = .ok (.iadd, 1) := by decide +kernel
theorem dX10_bucketOf_18 : decode cX10_bucketOf 18 = .ok (.istore 5, 2) := by decide +kernel
theorem dX10_bucketOf_20 : decode cX10_bucketOf 20 = .ok (.iload 5, 2) := by decide +kernel
theorem dX10_bucketOf_22 : decode cX10_bucketOf 22 = .ok (.bipush 31, 2) := by decide +kernel
theorem dX10_bucketOf_24 : decode cX10_bucketOf 24 = .ok (.imul, 1) := by decide +kernel
theorem dX10_bucketOf_25 : decode cX10_bucketOf 25 = .ok (.aload_n 3, 1) := by decide +kernel
theorem dX10_bucketOf_26 : decode cX10_bucketOf 26 = .ok (.getfield 58, 3) := by decide +kernel
theorem dX10_bucketOf_29 : decode cX10_bucketOf 29 = .ok (.iadd, 1) := by decide +kernel
theorem dX10_bucketOf_30 : decode cX10_bucketOf 30 = .ok (.istore 5, 2) := by decide +kernel
theorem dX10_bucketOf_32 : decode cX10_bucketOf 32 = .ok (.iload 5, 2) := by decide +kernel
theorem dX10_bucketOf_34 : decode cX10_bucketOf 34 = .ok (.bipush 31, 2) := by decide +kernel
theorem dX10_bucketOf_36 : decode cX10_bucketOf 36 = .ok (.imul, 1) := by decide +kernel
theorem dX10_bucketOf_37 : decode cX10_bucketOf 37 = .ok (.aload 4, 2) := by decide +kernel
theorem dX10_bucketOf_39 : decode cX10_bucketOf 39 = .ok (.getfield 58, 3) := by decide +kernel
theorem dX10_bucketOf_42 : decode cX10_bucketOf 42 = .ok (.iadd, 1) := by decide +kernel
theorem dX10_bucketOf_43 : decode cX10_bucketOf 43 = .ok (.istore 5, 2) := by decide +kernel
theorem dX10_bucketOf_45 : decode cX10_bucketOf 45 = .ok (.iload 5, 2) := by decide +kernel
theorem dX10_bucketOf_47 : decode cX10_bucketOf 47 = .ok (.ldc 62, 2) := by decide +kernel
theorem dX10_bucketOf_49 : decode cX10_bucketOf 49 = .ok (.imul, 1) := by decide +kernel
theorem dX10_bucketOf_50 : decode cX10_bucketOf 50 = .ok (.bipush 20, 2) := by decide +kernel
theorem dX10_bucketOf_52 : decode cX10_bucketOf 52 = .ok (.iushr, 1) := by decide +kernel
theorem dX10_bucketOf_53 : decode cX10_bucketOf 53 = .ok (.ireturn, 1) := by decide +kernel
theorem cc_X10_bucketOf : Cond.code yX10_bucketOf cX10_bucketOf 6 (some .int) ∈ rf_tb := rf_at 296 (by decide +kernel) (by decide +kernel)
theorem kc_RX10_62 : Cond.constant RX10 62 (-1640531535 : Int32) ∈ rf_tb := rf_at 297 (by decide +kernel) (by decide +kernel)
noncomputable def bc_X10_bucketOf_0 (x0 : Int32) (x1 : Int32) (x2 : (Option Nat)) (x3 : (Option Nat)) (x4 : (Option Nat)) (σ : cl_S) : Option (Int32 × cl_S) := vl (x0 + ((31:Int32) * x1)) (fun x5_1 => nn x2 (fun a_4 => vl ((x5_1 * (31:Int32)) + (σ.1 a_4 2)) (fun x5_7 => nn x3 (fun a_10 => vl ((x5_7 * (31:Int32)) + (σ.1 a_10 2)) (fun x5_13 => nn x4 (fun a_16 => vl ((x5_13 * (31:Int32)) + (σ.1 a_16 2)) (fun x5_19 => some (((x5_19 * (-1640531535:Int32)).toUInt32 >>> ((20:Int32).toUInt32 &&& Int32.toUInt32 31)).toInt32, σ))))))))
set_option maxHeartbeats 4000000 in
theorem wc_X10_bucketOf_0 (C : cl_C D p s m args meth c cX10_bucketOf 6 (some .int) RX10) {r : Int32} {x0 : Int32} {x1 : Int32} {x2 : (Option Nat)} {x3 : (Option Nat)} {x4 : (Option Nat)} {σ0 σ σ' : cl_S} {T : Nat → Nat × Nat} {H : Heap} {locs : List Loc} {ls : Array Slot} {cells slots : Nat} (h : bc_X10_bucketOf_0 x0 x1 x2 x3 x4 σ = some (r, σ')) (G : cl_G true D c0 ({ frames := 0, cells := σ0.2.2.2.2.2.1, slots := σ0.2.2.2.2.2.2, locals := 0 }) s σ0.2.2.2.1 T σ H locs cells slots) (f2 : cl_RT T x2 25) (f3 : cl_RT T x3 25) (f4 : cl_RT T x4 25) (hl : lv_has ls 6 [(0, .int x0), (1, .int x1), (2, cl_rf c0 x2), (3, cl_rf c0 x3), (4, cl_rf c0 x4)]) : W p l e ({ frames := 0, cells := σ0.2.2.2.2.2.1, slots := σ0.2.2.2.2.2.2, locals := 0 }) s m args below meth c H locs cells slots (MQ below (cl_Q true D c0 (some (.int r)) cl_no σ0 σ') args s (σ0.2.2.2.2.2.1 - σ'.2.2.2.2.2.1) (σ0.2.2.2.2.2.2 - σ'.2.2.2.2.2.2) (cl_A c0 σ0.2.2.2.1 s.heap.size)) (F0 m 0 ls []) := by
  unfold bc_X10_bucketOf_0 at h
  refine lv_iload_n C.1 C.2.1 dX10_bucketOf_0 rfl (lv_at hl 0 rfl) ?_
  refine lv_bipush (v := (31:Int32)) C.1 C.2.1 dX10_bucketOf_1 (by decide) ?_
  refine lv_iload_n C.1 C.2.1 dX10_bucketOf_3 rfl (lv_at hl 1 rfl) ?_
  refine lv_imul C.1 C.2.1 dX10_bucketOf_4 ?_
  refine lv_iadd C.1 C.2.1 dX10_bucketOf_5 ?_
  refine vt_i h (fun x5_1 h_2 => ?_)
  refine lv_istore (lv' := [(5, .int x5_1), (0, .int x0), (1, .int x1), (2, cl_rf c0 x2), (3, cl_rf c0 x3), (4, cl_rf c0 x4)]) C.1 C.2.1 dX10_bucketOf_6 hl (by decide) (by first | rfl | (cases x2 <;> cases x3 <;> cases x4 <;> rfl)) (fun ls hl_3 => ?_)
  refine lv_iload C.1 C.2.1 dX10_bucketOf_8 (lv_at hl_3 0 rfl) ?_
  refine lv_bipush (v := (31:Int32)) C.1 C.2.1 dX10_bucketOf_10 (by decide) ?_
  refine lv_imul C.1 C.2.1 dX10_bucketOf_12 ?_
  refine cl_aload_n C.1 C.2.1 dX10_bucketOf_13 rfl (lv_at hl_3 3 rfl) ?_
  obtain ⟨a_4, rfl, h_6⟩ := nn_some h_2
  have t_5 := f2 _ rfl
  refine cg_10_58 C G t_5 dX10_bucketOf_14 ?_
  refine lv_iadd C.1 C.2.1 dX10_bucketOf_17 ?_
  refine vt_i h_6 (fun x5_7 h_8 => ?_)
  refine lv_istore (lv' := [(5, .int x5_7), (0, .int x0), (1, .int x1), (2, .ref (c0 + a_4)), (3, cl_rf c0 x3), (4, cl_rf c0 x4)]) C.1 C.2.1 dX10_bucketOf_18 hl_3 (by decide) (by first | rfl | (cases x3 <;> cases x4 <;> rfl)) (fun ls hl_9 => ?_)
  refine lv_iload C.1 C.2.1 dX10_bucketOf_20 (lv_at hl_9 0 rfl) ?_
  refine lv_bipush (v := (31:Int32)) C.1 C.2.1 dX10_bucketOf_22 (by decide) ?_
  refine lv_imul C.1 C.2.1 dX10_bucketOf_24 ?_
  refine cl_aload_n C.1 C.2.1 dX10_bucketOf_25 rfl (lv_at hl_9 4 rfl) ?_
  obtain ⟨a_10, rfl, h_12⟩ := nn_some h_8
  have t_11 := f3 _ rfl
  refine cg_10_58 C G t_11 dX10_bucketOf_26 ?_
  refine lv_iadd C.1 C.2.1 dX10_bucketOf_29 ?_
  refine vt_i h_12 (fun x5_13 h_14 => ?_)
  refine lv_istore (lv' := [(5, .int x5_13), (0, .int x0), (1, .int x1), (2, .ref (c0 + a_4)), (3, .ref (c0 + a_10)), (4, cl_rf c0 x4)]) C.1 C.2.1 dX10_bucketOf_30 hl_9 (by decide) (by first | rfl | (cases x4 <;> rfl)) (fun ls hl_15 => ?_)
  refine lv_iload C.1 C.2.1 dX10_bucketOf_32 (lv_at hl_15 0 rfl) ?_
  refine lv_bipush (v := (31:Int32)) C.1 C.2.1 dX10_bucketOf_34 (by decide) ?_
  refine lv_imul C.1 C.2.1 dX10_bucketOf_36 ?_
  refine cl_aload C.1 C.2.1 dX10_bucketOf_37 (lv_at hl_15 5 rfl) ?_
  obtain ⟨a_16, rfl, h_18⟩ := nn_some h_14
  have t_17 := f4 _ rfl
  refine cg_10_58 C G t_17 dX10_bucketOf_39 ?_
  refine lv_iadd C.1 C.2.1 dX10_bucketOf_42 ?_
  refine vt_i h_18 (fun x5_19 h_20 => ?_)
  refine lv_istore (lv' := [(5, .int x5_19), (0, .int x0), (1, .int x1), (2, .ref (c0 + a_4)), (3, .ref (c0 + a_10)), (4, .ref (c0 + a_16))]) C.1 C.2.1 dX10_bucketOf_43 hl_15 (by decide) rfl (fun ls hl_21 => ?_)
  refine lv_iload C.1 C.2.1 dX10_bucketOf_45 (lv_at hl_21 0 rfl) ?_
  refine lv_ldc (v := (-1640531535:Int32)) C.1 C.2.1 C.2.2.2.1 (C.2.2.2.2.1 _ kc_RX10_62) dX10_bucketOf_47 ?_
  refine lv_imul C.1 C.2.1 dX10_bucketOf_49 ?_
  refine lv_bipush (v := (20:Int32)) C.1 C.2.1 dX10_bucketOf_50 (by decide) ?_
  refine lv_iushr C.1 C.2.1 dX10_bucketOf_52 rfl ?_
  exact cl_iret ⟨rfl, rfl⟩ rfl C G h_20 dX10_bucketOf_53
noncomputable def fc_X10_bucketOf (x0 : Int32) (x1 : Int32) (x2 : (Option Nat)) (x3 : (Option Nat)) (x4 : (Option Nat)) (σ : cl_S) : Option (Int32 × cl_S) := bc_X10_bucketOf_0 x0 x1 x2 x3 x4 σ
theorem kc_X10_bucketOf (l : Launch) (D : cl_D) (c0 : Nat) {r : Int32} {x0 : Int32} {x1 : Int32} {x2 : (Option Nat)} {x3 : (Option Nat)} {x4 : (Option Nat)} {σ σ' : cl_S} (h : fc_X10_bucketOf x0 x1 x2 x3 x4 σ = some (r, σ')) (f2 : cl_RT σ.2.2.2.1 x2 25) (f3 : cl_RT σ.2.2.2.1 x3 25) (f4 : cl_RT σ.2.2.2.1 x4 25) : cl_Met true l D c0 yX10_bucketOf cX10_bucketOf 6 (some .int) 0 0 [.int x0, .int x1, cl_rf c0 x2, cl_rf c0 x3, cl_rf c0 x4] σ (some (.int r)) cl_no σ' :=
  by cases x2 <;> cases x3 <;> cases x4 <;> exact cl_of (by decide) (Nat.le_of_ble_eq_true rfl) (fun p e s m args below meth c ls C hn G hl => wc_X10_bucketOf_0 C h G f2 f3 f4 hl)
abbrev cX10_find : ByteArray := prog_12_method_4_code
def yX10_find : MethodName := ⟨RX10, "find", "(IILPartHouse$Term;LPartHouse$Term;LPartHouse$Term;)LPartHouse$Term;"⟩
theorem dX10_find_0 : decode cX10_find 0 = .ok (.aload_n 0, 1) := by decide +kernel
theorem dX10_find_1 : decode cX10_find 1 = .ok (.getfield 13, 3) := by decide +kernel
theorem dX10_find_4 : decode cX10_find 4 = .ok (.iload_n 1, 1) := by decide +kernel
theorem dX10_find_5 : decode cX10_find 5 = .ok (.iload_n 2, 1) := by decide +kernel
theorem dX10_find_6 : decode cX10_find 6 = .ok (.aload_n 3, 1) := by decide +kernel
theorem dX10_find_7 : decode cX10_find 7 = .ok (.aload 4, 2) := by decide +kernel
theorem dX10_find_9 : decode cX10_find 9 = .ok (.aload 5, 2) := by decide +kernel
theorem dX10_find_11 : decode cX10_find 11 = .ok (.invokestatic 63, 3) := by decide +kernel
theorem dX10_find_14 : decode cX10_find 14 = .ok (.aaload, 1) := by decide +kernel
theorem dX10_find_15 : decode cX10_find 15 = .ok (.astore 6, 2) := by decide +kernel
theorem dX10_find_17 : decode cX10_find 17 = .ok (.aload 6, 2) := by decide +kernel
theorem dX10_find_19 : decode cX10_find 19 = .ok (.ifnull 63, 3) := by decide +kernel
theorem dX10_find_22 : decode cX10_find 22 = .ok (.aload 6, 2) := by decide +kernel
theorem dX10_find_24 : decode cX10_find 24 = .ok (.getfield 67, 3) := by decide +kernel
theorem dX10_find_27 : decode cX10_find 27 = .ok (.iload_n 1, 1) := by decide +kernel
theorem dX10_find_28 : decode cX10_find 28 = .ok (.if_icmp .ne 44, 3) := by decide +kernel
theorem dX10_find_31 : decode cX10_find 31 = .ok (.aload 6, 2) := by decide +kernel
theorem dX10_find_33 : decode cX10_find 33 = .ok (.getfield 70, 3) := by decide +kernel
theorem dX10_find_36 : decode cX10_find 36 = .ok (.iload_n 2, 1) := by decide +kernel
theorem dX10_find_37 : decode cX10_find 37 = .ok (.if_icmp .ne 35, 3) := by decide +kernel
theorem dX10_find_40 : decode cX10_find 40 = .ok (.aload 6, 2) := by decide +kernel
theorem dX10_find_42 : decode cX10_find 42 = .ok (.getfield 24, 3) := by decide +kernel
theorem dX10_find_45 : decode cX10_find 45 = .ok (.aload_n 3, 1) := by decide +kernel
theorem dX10_find_46 : decode cX10_find 46 = .ok (.if_acmp .ne 26, 3) := by decide +kernel
theorem dX10_find_49 : decode cX10_find 49 = .ok (.aload 6, 2) := by decide +kernel
theorem dX10_find_51 : decode cX10_find 51 = .ok (.getfield 27, 3) := by decide +kernel
theorem dX10_find_54 : decode cX10_find 54 = .ok (.aload 4, 2) := by decide +kernel
theorem dX10_find_56 : decode cX10_find 56 = .ok (.if_acmp .ne 16, 3) := by decide +kernel
theorem dX10_find_59 : decode cX10_find 59 = .ok (.aload 6, 2) := by decide +kernel
theorem dX10_find_61 : decode cX10_find 61 = .ok (.getfield 30, 3) := by decide +kernel
theorem dX10_find_64 : decode cX10_find 64 = .ok (.aload 5, 2) := by decide +kernel
theorem dX10_find_66 : decode cX10_find 66 = .ok (.if_acmp .ne 6, 3) := by decide +kernel
theorem dX10_find_69 : decode cX10_find 69 = .ok (.aload 6, 2) := by decide +kernel
theorem dX10_find_71 : decode cX10_find 71 = .ok (.areturn, 1) := by decide +kernel
theorem dX10_find_72 : decode cX10_find 72 = .ok (.aload 6, 2) := by decide +kernel
theorem dX10_find_74 : decode cX10_find 74 = .ok (.getfield 73, 3) := by decide +kernel
theorem dX10_find_77 : decode cX10_find 77 = .ok (.astore 6, 2) := by decide +kernel
theorem dX10_find_79 : decode cX10_find 79 = .ok (.goto (-62), 3) := by decide +kernel
theorem dX10_find_82 : decode cX10_find 82 = .ok (.aload_n 0, 1) := by decide +kernel
theorem dX10_find_83 : decode cX10_find 83 = .ok (.getfield 20, 3) := by decide +kernel
theorem dX10_find_86 : decode cX10_find 86 = .ok (.areturn, 1) := by decide +kernel
theorem cc_X10_find : Cond.code yX10_find cX10_find 7 (some (.object "PartHouse$Term")) ∈ rf_tb := rf_at 309 (by decide +kernel) (by decide +kernel)
theorem cw_RX10_63 : cl_wS RX10 yX10_bucketOf cX10_bucketOf 6 (some .int) 63 5 := ⟨⟨rf_at 294 (by decide +kernel) (by decide +kernel), rf_at 295 (by decide +kernel) (by decide +kernel), cc_X10_bucketOf, rf_at 9 (by decide +kernel) (by decide +kernel)⟩, ⟨by decide, by decide, by decide +kernel⟩⟩
noncomputable def bc_X10_find_72i17 (a : Nat) (x1 : Int32) (x2 : Int32) (x3 : (Option Nat)) (x4 : (Option Nat)) (x5 : (Option Nat)) (x6 : (Option Nat)) (σ : cl_S) : Option (((Option Nat) × cl_S) ⊕ (((Option Nat) × cl_S) ⊕ ((Option Nat) × cl_S))) := nn x6 (fun a_17 => vl (σ.2.2.1 a_17 7) (fun r_21 => some (.inl (r_21, σ))))
set_option maxHeartbeats 4000000 in
theorem wc_X10_find_72i17 (C : cl_C D p s m args meth c cX10_find 7 (some (.object "PartHouse$Term")) RX10) {r : (Option Nat)} {a : Nat} {x1 : Int32} {x2 : Int32} {x3 : (Option Nat)} {x4 : (Option Nat)} {x5 : (Option Nat)} {x6 : (Option Nat)} {σ0 σ σ' : cl_S} {T : Nat → Nat × Nat} {H : Heap} {locs : List Loc} {ls : Array Slot} {cells slots : Nat} {o : ((Option Nat) × cl_S) ⊕ (((Option Nat) × cl_S) ⊕ ((Option Nat) × cl_S))} (h : bc_X10_find_72i17 a x1 x2 x3 x4 x5 x6 σ = some o) (hP : Sum.elim (fun z : ((Option Nat) × cl_S) => ∀ (T : Nat → Nat × Nat) (H : Heap) (locs : List Loc) (ls : Array Slot) (cells slots : Nat), cl_G true D c0 ({ frames := 1, cells := σ0.2.2.2.2.2.1, slots := σ0.2.2.2.2.2.2, locals := 25 }) s σ0.2.2.2.1 T z.2 H locs cells slots → (T a).1 = 26 → cl_RT T x3 25 → cl_RT T x4 25 → cl_RT T x5 25 → cl_RT T (z.1) 25 → lv_has ls 7 [(0, .ref (c0 + a)), (1, .int x1), (2, .int x2), (3, cl_rf c0 x3), (4, cl_rf c0 x4), (5, cl_rf c0 x5), (6, cl_rf c0 (z.1))] → W p l e ({ frames := 1, cells := σ0.2.2.2.2.2.1, slots := σ0.2.2.2.2.2.2, locals := 25 }) s m args below meth c H locs cells slots (MQ below (cl_Q true D c0 (some (cl_rf c0 r)) (fun T1 => cl_RT T1 r 25) σ0 σ') args s (σ0.2.2.2.2.2.1 - σ'.2.2.2.2.2.1) (σ0.2.2.2.2.2.2 - σ'.2.2.2.2.2.2) (cl_A c0 σ0.2.2.2.1 s.heap.size)) (F0 m 17 ls [])) (Sum.elim (fun z : (Option Nat) × cl_S => z = (r, σ')) (fun z : ((Option Nat) × cl_S) => ∀ (T : Nat → Nat × Nat) (H : Heap) (locs : List Loc) (ls : Array Slot) (cells slots : Nat), cl_G true D c0 ({ frames := 1, cells := σ0.2.2.2.2.2.1, slots := σ0.2.2.2.2.2.2, locals := 25 }) s σ0.2.2.2.1 T z.2 H locs cells slots → (T a).1 = 26 → cl_RT T x3 25 → cl_RT T x4 25 → cl_RT T x5 25 → cl_RT T (z.1) 25 → lv_has ls 7 [(0, .ref (c0 + a)), (1, .int x1), (2, .int x2), (3, cl_rf c0 x3), (4, cl_rf c0 x4), (5, cl_rf c0 x5), (6, cl_rf c0 (z.1))] → W p l e ({ frames := 1, cells := σ0.2.2.2.2.2.1, slots := σ0.2.2.2.2.2.2, locals := 25 }) s m args below meth c H locs cells slots (MQ below (cl_Q true D c0 (some (cl_rf c0 r)) (fun T1 => cl_RT T1 r 25) σ0 σ') args s (σ0.2.2.2.2.2.1 - σ'.2.2.2.2.2.1) (σ0.2.2.2.2.2.2 - σ'.2.2.2.2.2.2) (cl_A c0 σ0.2.2.2.1 s.heap.size)) (F0 m 82 ls []))) o) (G : cl_G true D c0 ({ frames := 1, cells := σ0.2.2.2.2.2.1, slots := σ0.2.2.2.2.2.2, locals := 25 }) s σ0.2.2.2.1 T σ H locs cells slots) (ha : (T a).1 = 26) (f3 : cl_RT T x3 25) (f4 : cl_RT T x4 25) (f5 : cl_RT T x5 25) (f6 : cl_RT T x6 25) (hl : lv_has ls 7 [(0, .ref (c0 + a)), (1, .int x1), (2, .int x2), (3, cl_rf c0 x3), (4, cl_rf c0 x4), (5, cl_rf c0 x5), (6, cl_rf c0 x6)]) : W p l e ({ frames := 1, cells := σ0.2.2.2.2.2.1, slots := σ0.2.2.2.2.2.2, locals := 25 }) s m args below meth c H locs cells slots (MQ below (cl_Q true D c0 (some (cl_rf c0 r)) (fun T1 => cl_RT T1 r 25) σ0 σ') args s (σ0.2.2.2.2.2.1 - σ'.2.2.2.2.2.1) (σ0.2.2.2.2.2.2 - σ'.2.2.2.2.2.2) (cl_A c0 σ0.2.2.2.1 s.heap.size)) (F0 m 72 ls []) := by
  unfold bc_X10_find_72i17 at h
  refine cl_aload C.1 C.2.1 dX10_find_72 (lv_at hl 6 rfl) ?_
  obtain ⟨a_17, rfl, h_19⟩ := nn_some h
  have t_18 := f6 _ rfl
  refine cg_10_73 C G t_18 dX10_find_74 (fun t_20 => ?_)
  refine vt_r (K := 25) t_20 h_19 (fun r_21 t_22 h_23 => ?_)
  refine cl_astore (lv' := [(6, cl_rf c0 r_21), (0, .ref (c0 + a)), (1, .int x1), (2, .int x2), (3, cl_rf c0 x3), (4, cl_rf c0 x4), (5, cl_rf c0 x5)]) C.1 C.2.1 dX10_find_77 hl (by decide) (by first | rfl | (cases x3 <;> cases x4 <;> cases x5 <;> rfl)) (fun ls hl_24 => ?_)
  refine lv_goto (tgt := 17) C.1 C.2.1 dX10_find_79 (by decide) ?_
  cases h_23
  exact hP _ _ _ _ _ _ G ha f3 f4 f5 t_22 (lv_sub hl_24 [1, 2, 3, 4, 5, 6, 0] rfl)
noncomputable def lc_X10_find_17 (a : Nat) (x1 : Int32) (x2 : Int32) (x3 : (Option Nat)) (x4 : (Option Nat)) (x5 : (Option Nat)) (x6 : (Option Nat)) (σ : cl_S) : Option (((Option Nat) × cl_S) ⊕ (((Option Nat) × cl_S) ⊕ ((Option Nat) × cl_S))) := (if x6 = none then some (.inr (.inr (x6, σ))) else nn x6 (fun a_14 => (if (σ.1 a_14 0) = x1 then (if (σ.1 a_14 1) = x2 then vl (σ.2.2.1 a_14 3) (fun r_26 => (if r_26 = x3 then vl (σ.2.2.1 a_14 4) (fun r_30 => (if r_30 = x4 then vl (σ.2.2.1 a_14 5) (fun r_34 => (if r_34 = x5 then some (.inr (.inl ((some a_14), σ))) else bc_X10_find_72i17 a x1 x2 x3 x4 x5 (some a_14) σ)) else bc_X10_find_72i17 a x1 x2 x3 x4 x5 (some a_14) σ)) else bc_X10_find_72i17 a x1 x2 x3 x4 x5 (some a_14) σ)) else bc_X10_find_72i17 a x1 x2 x3 x4 x5 (some a_14) σ) else bc_X10_find_72i17 a x1 x2 x3 x4 x5 (some a_14) σ)))
noncomputable def ec_X10_find_17 (a : Nat) (x1 : Int32) (x2 : Int32) (x3 : (Option Nat)) (x4 : (Option Nat)) (x5 : (Option Nat)) (x6 : (Option Nat)) (σ : cl_S) : Option ((Option Nat) × cl_S) := some ((some 33), σ)
noncomputable def bc_X10_find_17 (a : Nat) (x1 : Int32) (x2 : Int32) (x3 : (Option Nat)) (x4 : (Option Nat)) (x5 : (Option Nat)) (x6 : (Option Nat)) (σ : cl_S) : Option ((Option Nat) × cl_S) := (lp (fun z : ((Option Nat) × cl_S) => lc_X10_find_17 a x1 x2 x3 x4 x5 z.1 z.2) (x6, σ)).bind (fun y => Sum.elim (fun z => some z) (fun z => ec_X10_find_17 a x1 x2 x3 x4 x5 z.1 z.2) y)
set_option maxHeartbeats 4000000 in
theorem wc_X10_find_17 (C : cl_C D p s m args meth c cX10_find 7 (some (.object "PartHouse$Term")) RX10) {r : (Option Nat)} {a : Nat} {x1 : Int32} {x2 : Int32} {x3 : (Option Nat)} {x4 : (Option Nat)} {x5 : (Option Nat)} {x6 : (Option Nat)} {σ0 σ σ' : cl_S} {T : Nat → Nat × Nat} {H : Heap} {locs : List Loc} {ls : Array Slot} {cells slots : Nat} (h : bc_X10_find_17 a x1 x2 x3 x4 x5 x6 σ = some (r, σ')) (G : cl_G true D c0 ({ frames := 1, cells := σ0.2.2.2.2.2.1, slots := σ0.2.2.2.2.2.2, locals := 25 }) s σ0.2.2.2.1 T σ H locs cells slots) (ha : (T a).1 = 26) (f3 : cl_RT T x3 25) (f4 : cl_RT T x4 25) (f5 : cl_RT T x5 25) (f6 : cl_RT T x6 25) (hl : lv_has ls 7 [(0, .ref (c0 + a)), (1, .int x1), (2, .int x2), (3, cl_rf c0 x3), (4, cl_rf c0 x4), (5, cl_rf c0 x5), (6, cl_rf c0 x6)]) : W p l e ({ frames := 1, cells := σ0.2.2.2.2.2.1, slots := σ0.2.2.2.2.2.2, locals := 25 }) s m args below meth c H locs cells slots (MQ below (cl_Q true D c0 (some (cl_rf c0 r)) (fun T1 => cl_RT T1 r 25) σ0 σ') args s (σ0.2.2.2.2.2.1 - σ'.2.2.2.2.2.1) (σ0.2.2.2.2.2.2 - σ'.2.2.2.2.2.2) (cl_A c0 σ0.2.2.2.1 s.heap.size)) (F0 m 17 ls []) := by
  unfold bc_X10_find_17 at h
  obtain ⟨y, hy, h⟩ := bd_some h
  have hE : (Sum.elim (fun z : (Option Nat) × cl_S => z = (r, σ')) (fun z : ((Option Nat) × cl_S) => ∀ (T : Nat → Nat × Nat) (H : Heap) (locs : List Loc) (ls : Array Slot) (cells slots : Nat), cl_G true D c0 ({ frames := 1, cells := σ0.2.2.2.2.2.1, slots := σ0.2.2.2.2.2.2, locals := 25 }) s σ0.2.2.2.1 T z.2 H locs cells slots → (T a).1 = 26 → cl_RT T x3 25 → cl_RT T x4 25 → cl_RT T x5 25 → cl_RT T (z.1) 25 → lv_has ls 7 [(0, .ref (c0 + a)), (1, .int x1), (2, .int x2), (3, cl_rf c0 x3), (4, cl_rf c0 x4), (5, cl_rf c0 x5), (6, cl_rf c0 (z.1))] → W p l e ({ frames := 1, cells := σ0.2.2.2.2.2.1, slots := σ0.2.2.2.2.2.2, locals := 25 }) s m args below meth c H locs cells slots (MQ below (cl_Q true D c0 (some (cl_rf c0 r)) (fun T1 => cl_RT T1 r 25) σ0 σ') args s (σ0.2.2.2.2.2.1 - σ'.2.2.2.2.2.1) (σ0.2.2.2.2.2.2 - σ'.2.2.2.2.2.2) (cl_A c0 σ0.2.2.2.1 s.heap.size)) (F0 m 82 ls []))) y := by
    clear hy G ha f3 f4 f5 f6 hl
    cases y with
    | inl z =>
      exact Option.some.inj h
    | inr z =>
      intro T H locs ls cells slots G ha f3 f4 f5 f6 hl
      have h := se_r h
      obtain ⟨x6, σ⟩ := z
      dsimp only at h G ha f3 f4 f5 f6 hl
      unfold ec_X10_find_17 at h
      refine lv_aload_n C.1 C.2.1 dX10_find_82 rfl (lv_at hl 0 rfl) ?_
      refine cg_10_20 C G ha dX10_find_83 (fun t_37 => ?_)
      have t_37 : (T 33).1 = 25 := by rw [t_37]
      exact cl_aret (v := (some 33)) ⟨rfl, rfl⟩ rfl C G h (by first | exact Or.inl ⟨_, rfl⟩ | exact Or.inr ⟨_, rfl⟩) (cl_RTs t_37) dX10_find_86
  refine lp_recE (fun z : ((Option Nat) × cl_S) => ∀ (T : Nat → Nat × Nat) (H : Heap) (locs : List Loc) (ls : Array Slot) (cells slots : Nat), cl_G true D c0 ({ frames := 1, cells := σ0.2.2.2.2.2.1, slots := σ0.2.2.2.2.2.2, locals := 25 }) s σ0.2.2.2.1 T z.2 H locs cells slots → (T a).1 = 26 → cl_RT T x3 25 → cl_RT T x4 25 → cl_RT T x5 25 → cl_RT T (z.1) 25 → lv_has ls 7 [(0, .ref (c0 + a)), (1, .int x1), (2, .int x2), (3, cl_rf c0 x3), (4, cl_rf c0 x4), (5, cl_rf c0 x5), (6, cl_rf c0 (z.1))] → W p l e ({ frames := 1, cells := σ0.2.2.2.2.2.1, slots := σ0.2.2.2.2.2.2, locals := 25 }) s m args below meth c H locs cells slots (MQ below (cl_Q true D c0 (some (cl_rf c0 r)) (fun T1 => cl_RT T1 r 25) σ0 σ') args s (σ0.2.2.2.2.2.1 - σ'.2.2.2.2.2.1) (σ0.2.2.2.2.2.2 - σ'.2.2.2.2.2.2) (cl_A c0 σ0.2.2.2.1 s.heap.size)) (F0 m 17 ls [])) (Sum.elim (fun z : (Option Nat) × cl_S => z = (r, σ')) (fun z : ((Option Nat) × cl_S) => ∀ (T : Nat → Nat × Nat) (H : Heap) (locs : List Loc) (ls : Array Slot) (cells slots : Nat), cl_G true D c0 ({ frames := 1, cells := σ0.2.2.2.2.2.1, slots := σ0.2.2.2.2.2.2, locals := 25 }) s σ0.2.2.2.1 T z.2 H locs cells slots → (T a).1 = 26 → cl_RT T x3 25 → cl_RT T x4 25 → cl_RT T x5 25 → cl_RT T (z.1) 25 → lv_has ls 7 [(0, .ref (c0 + a)), (1, .int x1), (2, .int x2), (3, cl_rf c0 x3), (4, cl_rf c0 x4), (5, cl_rf c0 x5), (6, cl_rf c0 (z.1))] → W p l e ({ frames := 1, cells := σ0.2.2.2.2.2.1, slots := σ0.2.2.2.2.2.2, locals := 25 }) s m args below meth c H locs cells slots (MQ below (cl_Q true D c0 (some (cl_rf c0 r)) (fun T1 => cl_RT T1 r 25) σ0 σ') args s (σ0.2.2.2.2.2.1 - σ'.2.2.2.2.2.1) (σ0.2.2.2.2.2.2 - σ'.2.2.2.2.2.2) (cl_A c0 σ0.2.2.2.1 s.heap.size)) (F0 m 82 ls []))) ?_ _ _ hy hE _ _ _ _ _ _ G ha f3 f4 f5 f6 hl
  clear hE hy G ha f3 f4 f5 f6 hl h
  intro z o h hP T H locs ls cells slots G ha f3 f4 f5 f6 hl
  obtain ⟨x6, σ⟩ := z
  dsimp only at h G ha f3 f4 f5 f6 hl
  unfold lc_X10_find_17 at h
  refine cl_aload C.1 C.2.1 dX10_find_17 (lv_at hl 6 rfl) ?_
  refine cl_ifnull (r := x6) (tgt := 82) C.1 C.2.1 dX10_find_19 (by decide) (fun hc => ?_) (fun hc => ?_)
  · rw [if_pos hc] at h
    cases h
    exact hP _ _ _ _ _ _ G ha f3 f4 f5 f6 (lv_sub hl [0, 1, 2, 3, 4, 5, 6] rfl)
  · rw [if_neg hc] at h
    refine cl_aload C.1 C.2.1 dX10_find_22 (lv_at hl 6 rfl) ?_
    obtain ⟨a_14, rfl, h_16⟩ := nn_some h
    have t_15 := f6 _ rfl
    refine cg_10_67 C G t_15 dX10_find_24 ?_
    refine lv_iload_n C.1 C.2.1 dX10_find_27 rfl (lv_at hl 1 rfl) ?_
    refine lv_icmp_ne (tgt := 72) C.1 C.2.1 dX10_find_28 (by decide) (fun hc => ?_) (fun hc => ?_)
    · rw [if_neg hc] at h_16
      exact wc_X10_find_72i17 C h_16 hP G ha f3 f4 f5 (cl_RTs t_15) (lv_sub hl [0, 1, 2, 3, 4, 5, 6] rfl)
    · rw [if_pos hc] at h_16
      refine lv_aload C.1 C.2.1 dX10_find_31 (lv_at hl 6 rfl) ?_
      refine cg_10_70 C G t_15 dX10_find_33 ?_
      refine lv_iload_n C.1 C.2.1 dX10_find_36 rfl (lv_at hl 2 rfl) ?_
      refine lv_icmp_ne (tgt := 72) C.1 C.2.1 dX10_find_37 (by decide) (fun hc => ?_) (fun hc => ?_)
      · rw [if_neg hc] at h_16
        exact wc_X10_find_72i17 C h_16 hP G ha f3 f4 f5 (cl_RTs t_15) (lv_sub hl [0, 1, 2, 3, 4, 5, 6] rfl)
      · rw [if_pos hc] at h_16
        refine lv_aload C.1 C.2.1 dX10_find_40 (lv_at hl 6 rfl) ?_
        refine cg_10_24 C G t_15 dX10_find_42 (fun t_25 => ?_)
        refine vt_r (K := 25) t_25 h_16 (fun r_26 t_27 h_28 => ?_)
        refine cl_aload_n C.1 C.2.1 dX10_find_45 rfl (lv_at hl 3 rfl) ?_
        refine cl_acmp_ne (rx := r_26) (ry := x3) (tgt := 72) C.1 C.2.1 dX10_find_46 (by decide) (fun hc => ?_) (fun hc => ?_)
        · rw [if_neg hc] at h_28
          exact wc_X10_find_72i17 C h_28 hP G ha f3 f4 f5 (cl_RTs t_15) (lv_sub hl [0, 1, 2, 3, 4, 5, 6] rfl)
        · rw [if_pos hc] at h_28
          refine lv_aload C.1 C.2.1 dX10_find_49 (lv_at hl 6 rfl) ?_
          refine cg_10_27 C G t_15 dX10_find_51 (fun t_29 => ?_)
          refine vt_r (K := 25) t_29 h_28 (fun r_30 t_31 h_32 => ?_)
          refine cl_aload C.1 C.2.1 dX10_find_54 (lv_at hl 4 rfl) ?_
          refine cl_acmp_ne (rx := r_30) (ry := x4) (tgt := 72) C.1 C.2.1 dX10_find_56 (by decide) (fun hc => ?_) (fun hc => ?_)
          · rw [if_neg hc] at h_32
            exact wc_X10_find_72i17 C h_32 hP G ha f3 f4 f5 (cl_RTs t_15) (lv_sub hl [0, 1, 2, 3, 4, 5, 6] rfl)
          · rw [if_pos hc] at h_32
            refine lv_aload C.1 C.2.1 dX10_find_59 (lv_at hl 6 rfl) ?_
            refine cg_10_30 C G t_15 dX10_find_61 (fun t_33 => ?_)
            refine vt_r (K := 25) t_33 h_32 (fun r_34 t_35 h_36 => ?_)
            refine cl_aload C.1 C.2.1 dX10_find_64 (lv_at hl 5 rfl) ?_
            refine cl_acmp_ne (rx := r_34) (ry := x5) (tgt := 72) C.1 C.2.1 dX10_find_66 (by decide) (fun hc => ?_) (fun hc => ?_)
            · rw [if_neg hc] at h_36
              exact wc_X10_find_72i17 C h_36 hP G ha f3 f4 f5 (cl_RTs t_15) (lv_sub hl [0, 1, 2, 3, 4, 5, 6] rfl)
            · rw [if_pos hc] at h_36
              refine lv_aload C.1 C.2.1 dX10_find_69 (lv_at hl 6 rfl) ?_
              cases h_36
              have hP := congrArg some hP
              exact cl_aret (v := (some a_14)) ⟨rfl, rfl⟩ rfl C G hP (by first | exact Or.inl ⟨_, rfl⟩ | exact Or.inr ⟨_, rfl⟩) (cl_RTs t_15) dX10_find_71
noncomputable def bc_X10_find_0 (a : Nat) (x1 : Int32) (x2 : Int32) (x3 : (Option Nat)) (x4 : (Option Nat)) (x5 : (Option Nat)) (σ : cl_S) : Option ((Option Nat) × cl_S) := bd2 (fc_X10_bucketOf x1 x2 x3 x4 x5 σ) (fun r_3 σ_2 => ix r_3 4096 (vl (σ_2.2.2.1 32 r_3.toNatClampNeg) (fun r_10 => bc_X10_find_17 a x1 x2 x3 x4 x5 r_10 σ_2)))
set_option maxHeartbeats 4000000 in
theorem wc_X10_find_0 (C : cl_C D p s m args meth c cX10_find 7 (some (.object "PartHouse$Term")) RX10) {r : (Option Nat)} {a : Nat} {x1 : Int32} {x2 : Int32} {x3 : (Option Nat)} {x4 : (Option Nat)} {x5 : (Option Nat)} {σ0 σ σ' : cl_S} {T : Nat → Nat × Nat} {H : Heap} {locs : List Loc} {ls : Array Slot} {cells slots : Nat} (h : bc_X10_find_0 a x1 x2 x3 x4 x5 σ = some (r, σ')) (G : cl_G true D c0 ({ frames := 1, cells := σ0.2.2.2.2.2.1, slots := σ0.2.2.2.2.2.2, locals := 25 }) s σ0.2.2.2.1 T σ H locs cells slots) (ha : (T a).1 = 26) (f3 : cl_RT T x3 25) (f4 : cl_RT T x4 25) (f5 : cl_RT T x5 25) (hl : lv_has ls 7 [(0, .ref (c0 + a)), (1, .int x1), (2, .int x2), (3, cl_rf c0 x3), (4, cl_rf c0 x4), (5, cl_rf c0 x5)]) : W p l e ({ frames := 1, cells := σ0.2.2.2.2.2.1, slots := σ0.2.2.2.2.2.2, locals := 25 }) s m args below meth c H locs cells slots (MQ below (cl_Q true D c0 (some (cl_rf c0 r)) (fun T1 => cl_RT T1 r 25) σ0 σ') args s (σ0.2.2.2.2.2.1 - σ'.2.2.2.2.2.1) (σ0.2.2.2.2.2.2 - σ'.2.2.2.2.2.2) (cl_A c0 σ0.2.2.2.1 s.heap.size)) (F0 m 0 ls []) := by
  unfold bc_X10_find_0 at h
  refine lv_aload_n C.1 C.2.1 dX10_find_0 rfl (lv_at hl 0 rfl) ?_
  refine cg_10_13 C G ha dX10_find_1 (fun t_1 => ?_)
  refine lv_iload_n C.1 C.2.1 dX10_find_4 rfl (lv_at hl 1 rfl) ?_
  refine lv_iload_n C.1 C.2.1 dX10_find_5 rfl (lv_at hl 2 rfl) ?_
  refine cl_aload_n C.1 C.2.1 dX10_find_6 rfl (lv_at hl 3 rfl) ?_
  refine cl_aload C.1 C.2.1 dX10_find_7 (lv_at hl 4 rfl) ?_
  refine cl_aload C.1 C.2.1 dX10_find_9 (lv_at hl 5 rfl) ?_
  obtain ⟨r_3, σ_2, hq, h_4⟩ := bd2_some h
  refine cl_callS (rest := [.ref (c0 + 32)]) C G cw_RX10_63 [.int x1, .int x2, cl_rf c0 x3, cl_rf c0 x4, cl_rf c0 x5] _ (kc_X10_bucketOf l D c0 hq (by rw [G.1]; exact f3) (by rw [G.1]; exact f4) (by rw [G.1]; exact f5)) (Nat.le_of_ble_eq_true rfl) (Nat.le_of_ble_eq_true rfl) rfl rfl hl.1 (Nat.le_of_ble_eq_true rfl) dX10_find_11 (fun T_5 H locs cells slots t_6 hu G_7 => ?_)
  have ha := hu.kind ha (by decide)
  have f3 := f3.up hu (by decide)
  have f4 := f4.up hu (by decide)
  have f5 := f5.up hu (by decide)
  have t_1 := cl_uparr hu t_1 (by decide)
  refine W.eq (g2 := F0 m 14 ls [.int r_3, .ref (c0 + 32)]) rfl ?_
  obtain ⟨hi, h_8⟩ := ix_some h_4
  refine cl_aald C G_7 t_1 (by decide) (by decide) rfl hi dX10_find_14 (fun t_9 => ?_)
  refine vt_r (K := 25) t_9 h_8 (fun r_10 t_11 h_12 => ?_)
  refine cl_astore (lv' := [(6, cl_rf c0 r_10), (0, .ref (c0 + a)), (1, .int x1), (2, .int x2), (3, cl_rf c0 x3), (4, cl_rf c0 x4), (5, cl_rf c0 x5)]) C.1 C.2.1 dX10_find_15 hl (by decide) (by first | rfl | (cases x3 <;> cases x4 <;> cases x5 <;> rfl)) (fun ls hl_13 => ?_)
  exact wc_X10_find_17 C h_12 G_7 ha f3 f4 f5 t_11 (lv_sub hl_13 [1, 2, 3, 4, 5, 6, 0] rfl)
noncomputable def fc_X10_find (a : Nat) (x1 : Int32) (x2 : Int32) (x3 : (Option Nat)) (x4 : (Option Nat)) (x5 : (Option Nat)) (σ : cl_S) : Option ((Option Nat) × cl_S) := bc_X10_find_0 a x1 x2 x3 x4 x5 σ
theorem kc_X10_find (l : Launch) (D : cl_D) (c0 : Nat) {r : (Option Nat)} {a : Nat} {x1 : Int32} {x2 : Int32} {x3 : (Option Nat)} {x4 : (Option Nat)} {x5 : (Option Nat)} {σ σ' : cl_S} (ha : (σ.2.2.2.1 a).1 = 26) (h : fc_X10_find a x1 x2 x3 x4 x5 σ = some (r, σ')) (f3 : cl_RT σ.2.2.2.1 x3 25) (f4 : cl_RT σ.2.2.2.1 x4 25) (f5 : cl_RT σ.2.2.2.1 x5 25) : cl_Met true l D c0 yX10_find cX10_find 7 (some (.object "PartHouse$Term")) 1 25 [.ref (c0 + a), .int x1, .int x2, cl_rf c0 x3, cl_rf c0 x4, cl_rf c0 x5] σ (some (cl_rf c0 r)) (fun T1 => cl_RT T1 r 25) σ' :=
  by cases x3 <;> cases x4 <;> cases x5 <;> exact cl_of (by decide) (Nat.le_of_ble_eq_true rfl) (fun p e s m args below meth c ls C hn G hl => wc_X10_find_0 C h G ha f3 f4 f5 hl)
abbrev cX10_noteUser : ByteArray := prog_12_method_6_code
def yX10_noteUser : MethodName := ⟨RX10, "noteUser", "(LPartHouse$Term;)V"⟩
theorem dX10_noteUser_0 : decode cX10_noteUser 0 = .ok (.aload_n 1, 1) := by decide +kernel
theorem dX10_noteUser_1 : decode cX10_noteUser 1 = .ok (.aload_n 1, 1) := by decide +kernel
theorem dX10_noteUser_2 : decode cX10_noteUser 2 = .ok (.getfield 24, 3) := by decide +kernel
theorem dX10_noteUser_5 : decode cX10_noteUser 5 = .ok (.getfield 89, 3) := by decide +kernel
theorem dX10_noteUser_8 : decode cX10_noteUser 8 = .ok (.putfield 92, 3) := by decide +kernel
theorem dX10_noteUser_11 : decode cX10_noteUser 11 = .ok (.aload_n 1, 1) := by decide +kernel
theorem dX10_noteUser_12 : decode cX10_noteUser 12 = .ok (.getfield 24, 3) := by decide +kernel
theorem dX10_noteUser_15 : decode cX10_noteUser 15 = .ok (.aload_n 1, 1) := by decide +kernel
theorem dX10_noteUser_16 : decode cX10_noteUser 16 = .ok (.putfield 89, 3) := by decide +kernel
theorem dX10_noteUser_19 : decode cX10_noteUser 19 = .ok (.aload_n 1, 1) := by decide +kernel
theorem dX10_noteUser_20 : decode cX10_noteUser 20 = .ok (.getfield 27, 3) := by decide +kernel
theorem dX10_noteUser_23 : decode cX10_noteUser 23 = .ok (.aload_n 1, 1) := by decide +kernel
theorem dX10_noteUser_24 : decode cX10_noteUser 24 = .ok (.getfield 24, 3) := by decide +kernel
theorem dX10_noteUser_27 : decode cX10_noteUser 27 = .ok (.if_acmp .eq 22, 3) := by decide +kernel
theorem dX10_noteUser_30 : decode cX10_noteUser 30 = .ok (.aload_n 1, 1) := by decide +kernel
theorem dX10_noteUser_31 : decode cX10_noteUser 31 = .ok (.aload_n 1, 1) := by decide +kernel
theorem dX10_noteUser_32 : decode cX10_noteUser 32 = .ok (.getfield 27, 3) := by decide +kernel
theorem dX10_noteUser_35 : decode cX10_noteUser 35 = .ok (.getfield 89, 3) := by decide +kernel
theorem dX10_noteUser_38 : decode cX10_noteUser 38 = .ok (.putfield 95, 3) := by decide +kernel
theorem dX10_noteUser_41 : decode cX10_noteUser 41 = .ok (.aload_n 1, 1) := by decide +kernel
theorem dX10_noteUser_42 : decode cX10_noteUser 42 = .ok (.getfield 27, 3) := by decide +kernel
theorem dX10_noteUser_45 : decode cX10_noteUser 45 = .ok (.aload_n 1, 1) := by decide +kernel
theorem dX10_noteUser_46 : decode cX10_noteUser 46 = .ok (.putfield 89, 3) := by decide +kernel
theorem dX10_noteUser_49 : decode cX10_noteUser 49 = .ok (.aload_n 1, 1) := by decide +kernel
theorem dX10_noteUser_50 : decode cX10_noteUser 50 = .ok (.getfield 30, 3) := by decide +kernel
theorem dX10_noteUser_53 : decode cX10_noteUser 53 = .ok (.aload_n 1, 1) := by decide +kernel
theorem dX10_noteUser_54 : decode cX10_noteUser 54 = .ok (.getfield 24, 3) := by decide +kernel
theorem dX10_noteUser_57 : decode cX10_noteUser 57 = .ok (.if_acmp .eq 33, 3) := by decide +kernel
theorem dX10_noteUser_60 : decode cX10_noteUser 60 = .ok (.aload_n 1, 1) := by decide +kernel
theorem dX10_noteUser_61 : decode cX10_noteUser 61 = .ok (.getfield 30, 3) := by decide +kernel
theorem dX10_noteUser_64 : decode cX10_noteUser 64 = .ok (.aload_n 1, 1) := by decide +kernel
theorem dX10_noteUser_65 : decode cX10_noteUser 65 = .ok (.getfield 27, 3) := by decide +kernel
theorem dX10_noteUser_68 : decode cX10_noteUser 68 = .ok (.if_acmp .eq 22, 3) := by decide +kernel
theorem dX10_noteUser_71 : decode cX10_noteUser 71 = .ok (.aload_n 1, 1) := by decide +kernel
theorem dX10_noteUser_72 : decode cX10_noteUser 72 = .ok (.aload_n 1, 1) := by decide +kernel
theorem dX10_noteUser_73 : decode cX10_noteUser 73 = .ok (.getfield 30, 3) := by decide +kernel
theorem dX10_noteUser_76 : decode cX10_noteUser 76 = .ok (.getfield 89, 3) := by decide +kernel
theorem dX10_noteUser_79 : decode cX10_noteUser 79 = .ok (.putfield 98, 3) := by decide +kernel
theorem dX10_noteUser_82 : decode cX10_noteUser 82 = .ok (.aload_n 1, 1) := by decide +kernel
theorem dX10_noteUser_83 : decode cX10_noteUser 83 = .ok (.getfield 30, 3) := by decide +kernel
theorem dX10_noteUser_86 : decode cX10_noteUser 86 = .ok (.aload_n 1, 1) := by decide +kernel
theorem dX10_noteUser_87 : decode cX10_noteUser 87 = .ok (.putfield 89, 3) := by decide +kernel
theorem dX10_noteUser_90 : decode cX10_noteUser 90 = .ok (.return_, 1) := by decide +kernel
theorem cc_X10_noteUser : Cond.code yX10_noteUser cX10_noteUser 2 none ∈ rf_tb := rf_at 301 (by decide +kernel) (by decide +kernel)
noncomputable def bc_X10_noteUser_49 (x1 : (Option Nat)) (σ : cl_S) : Option (cl_S) := nn x1 (fun a_38 => vl (σ.2.2.1 a_38 5) (fun r_42 => vl (σ.2.2.1 a_38 3) (fun r_46 => (if r_42 = r_46 then some σ else vl (σ.2.2.1 a_38 5) (fun r_50 => vl (σ.2.2.1 a_38 4) (fun r_54 => (if r_50 = r_54 then some σ else vl (σ.2.2.1 a_38 5) (fun r_58 => nn r_58 (fun a_61 => vl (σ.2.2.1 a_61 12) (fun r_65 => vl (cl_wr σ a_38 15 r_65) (fun σ_68 => vl (σ_68.2.2.1 a_38 5) (fun r_73 => nn r_73 (fun a_76 => vl (cl_wr σ_68 a_76 12 (some a_38)) (fun σ_79 => some σ_79))))))))))))))
set_option maxHeartbeats 4000000 in
theorem wc_X10_noteUser_49 (C : cl_C D p s m args meth c cX10_noteUser 2 none RX10) {x1 : (Option Nat)} {σ0 σ σ' : cl_S} {T : Nat → Nat × Nat} {H : Heap} {locs : List Loc} {ls : Array Slot} {cells slots : Nat} (h : bc_X10_noteUser_49 x1 σ = some σ') (G : cl_G true D c0 ({ frames := 0, cells := σ0.2.2.2.2.2.1, slots := σ0.2.2.2.2.2.2, locals := 0 }) s σ0.2.2.2.1 T σ H locs cells slots) (f1 : cl_RT T x1 25) (hl : lv_has ls 2 [(1, cl_rf c0 x1)]) : W p l e ({ frames := 0, cells := σ0.2.2.2.2.2.1, slots := σ0.2.2.2.2.2.2, locals := 0 }) s m args below meth c H locs cells slots (MQ below (cl_Q true D c0 none cl_no σ0 σ') args s (σ0.2.2.2.2.2.1 - σ'.2.2.2.2.2.1) (σ0.2.2.2.2.2.2 - σ'.2.2.2.2.2.2) (cl_A c0 σ0.2.2.2.1 s.heap.size)) (F0 m 49 ls []) := by
  unfold bc_X10_noteUser_49 at h
  refine cl_aload_n C.1 C.2.1 dX10_noteUser_49 rfl (lv_at hl 0 rfl) ?_
  obtain ⟨a_38, rfl, h_40⟩ := nn_some h
  have t_39 := f1 _ rfl
  refine cg_10_30 C G t_39 dX10_noteUser_50 (fun t_41 => ?_)
  refine vt_r (K := 25) t_41 h_40 (fun r_42 t_43 h_44 => ?_)
  refine lv_aload_n C.1 C.2.1 dX10_noteUser_53 rfl (lv_at hl 0 rfl) ?_
  refine cg_10_24 C G t_39 dX10_noteUser_54 (fun t_45 => ?_)
  refine vt_r (K := 25) t_45 h_44 (fun r_46 t_47 h_48 => ?_)
  refine cl_acmp_eq (rx := r_42) (ry := r_46) (tgt := 90) C.1 C.2.1 dX10_noteUser_57 (by decide) (fun hc => ?_) (fun hc => ?_)
  · rw [if_pos hc] at h_48
    exact cl_vret ⟨rfl, rfl⟩ rfl C G h_48 dX10_noteUser_90
  · rw [if_neg hc] at h_48
    refine lv_aload_n C.1 C.2.1 dX10_noteUser_60 rfl (lv_at hl 0 rfl) ?_
    refine cg_10_30 C G t_39 dX10_noteUser_61 (fun t_49 => ?_)
    refine vt_r (K := 25) t_49 h_48 (fun r_50 t_51 h_52 => ?_)
    refine lv_aload_n C.1 C.2.1 dX10_noteUser_64 rfl (lv_at hl 0 rfl) ?_
    refine cg_10_27 C G t_39 dX10_noteUser_65 (fun t_53 => ?_)
    refine vt_r (K := 25) t_53 h_52 (fun r_54 t_55 h_56 => ?_)
    refine cl_acmp_eq (rx := r_50) (ry := r_54) (tgt := 90) C.1 C.2.1 dX10_noteUser_68 (by decide) (fun hc => ?_) (fun hc => ?_)
    · rw [if_pos hc] at h_56
      exact cl_vret ⟨rfl, rfl⟩ rfl C G h_56 dX10_noteUser_90
    · rw [if_neg hc] at h_56
      refine lv_aload_n C.1 C.2.1 dX10_noteUser_71 rfl (lv_at hl 0 rfl) ?_
      refine lv_aload_n C.1 C.2.1 dX10_noteUser_72 rfl (lv_at hl 0 rfl) ?_
      refine cg_10_30 C G t_39 dX10_noteUser_73 (fun t_57 => ?_)
      refine vt_r (K := 25) t_57 h_56 (fun r_58 t_59 h_60 => ?_)
      obtain ⟨a_61, rfl, h_63⟩ := nn_some h_60
      have t_62 := t_59 _ rfl
      refine cg_10_89 C G t_62 dX10_noteUser_76 (fun t_64 => ?_)
      refine vt_r (K := 25) t_64 h_63 (fun r_65 t_66 h_67 => ?_)
      refine cp_10_98 (x := r_65) C G t_39 t_66 dX10_noteUser_79 (fun H locs G_69 => ?_)
      refine cl_nm G_69 h_67 (fun σ_68 G_70 h_71 => ?_)
      refine lv_aload_n C.1 C.2.1 dX10_noteUser_82 rfl (lv_at hl 0 rfl) ?_
      refine cg_10_30 C G_70 t_39 dX10_noteUser_83 (fun t_72 => ?_)
      refine vt_r (K := 25) t_72 h_71 (fun r_73 t_74 h_75 => ?_)
      refine lv_aload_n C.1 C.2.1 dX10_noteUser_86 rfl (lv_at hl 0 rfl) ?_
      obtain ⟨a_76, rfl, h_78⟩ := nn_some h_75
      have t_77 := t_74 _ rfl
      refine cp_10_89 (x := (some a_38)) C G_70 t_77 (cl_RTs t_39) dX10_noteUser_87 (fun H locs G_80 => ?_)
      refine cl_nm G_80 h_78 (fun σ_79 G_81 h_82 => ?_)
      exact cl_vret ⟨rfl, rfl⟩ rfl C G_81 h_82 dX10_noteUser_90
noncomputable def bc_X10_noteUser_0 (a : Nat) (x1 : (Option Nat)) (σ : cl_S) : Option (cl_S) := nn x1 (fun a_1 => vl (σ.2.2.1 a_1 3) (fun r_5 => nn r_5 (fun a_8 => vl (σ.2.2.1 a_8 12) (fun r_12 => vl (cl_wr σ a_1 13 r_12) (fun σ_15 => vl (σ_15.2.2.1 a_1 3) (fun r_20 => nn r_20 (fun a_23 => vl (cl_wr σ_15 a_23 12 (some a_1)) (fun σ_26 => vl (σ_26.2.2.1 a_1 4) (fun r_31 => vl (σ_26.2.2.1 a_1 3) (fun r_35 => (if r_31 = r_35 then bc_X10_noteUser_49 (some a_1) σ_26 else vl (σ_26.2.2.1 a_1 4) (fun r_84 => nn r_84 (fun a_87 => vl (σ_26.2.2.1 a_87 12) (fun r_91 => vl (cl_wr σ_26 a_1 14 r_91) (fun σ_94 => vl (σ_94.2.2.1 a_1 4) (fun r_99 => nn r_99 (fun a_102 => vl (cl_wr σ_94 a_102 12 (some a_1)) (fun σ_105 => bc_X10_noteUser_49 (some a_1) σ_105))))))))))))))))))
set_option maxHeartbeats 4000000 in
theorem wc_X10_noteUser_0 (C : cl_C D p s m args meth c cX10_noteUser 2 none RX10) {a : Nat} {x1 : (Option Nat)} {σ0 σ σ' : cl_S} {T : Nat → Nat × Nat} {H : Heap} {locs : List Loc} {ls : Array Slot} {cells slots : Nat} (h : bc_X10_noteUser_0 a x1 σ = some σ') (G : cl_G true D c0 ({ frames := 0, cells := σ0.2.2.2.2.2.1, slots := σ0.2.2.2.2.2.2, locals := 0 }) s σ0.2.2.2.1 T σ H locs cells slots) (ha : (T a).1 = 26) (f1 : cl_RT T x1 25) (hl : lv_has ls 2 [(0, .ref (c0 + a)), (1, cl_rf c0 x1)]) : W p l e ({ frames := 0, cells := σ0.2.2.2.2.2.1, slots := σ0.2.2.2.2.2.2, locals := 0 }) s m args below meth c H locs cells slots (MQ below (cl_Q true D c0 none cl_no σ0 σ') args s (σ0.2.2.2.2.2.1 - σ'.2.2.2.2.2.1) (σ0.2.2.2.2.2.2 - σ'.2.2.2.2.2.2) (cl_A c0 σ0.2.2.2.1 s.heap.size)) (F0 m 0 ls []) := by
  unfold bc_X10_noteUser_0 at h
  refine cl_aload_n C.1 C.2.1 dX10_noteUser_0 rfl (lv_at hl 1 rfl) ?_
  refine cl_aload_n C.1 C.2.1 dX10_noteUser_1 rfl (lv_at hl 1 rfl) ?_
  obtain ⟨a_1, rfl, h_3⟩ := nn_some h
  have t_2 := f1 _ rfl
  refine cg_10_24 C G t_2 dX10_noteUser_2 (fun t_4 => ?_)
  refine vt_r (K := 25) t_4 h_3 (fun r_5 t_6 h_7 => ?_)
  obtain ⟨a_8, rfl, h_10⟩ := nn_some h_7
  have t_9 := t_6 _ rfl
  refine cg_10_89 C G t_9 dX10_noteUser_5 (fun t_11 => ?_)
  refine vt_r (K := 25) t_11 h_10 (fun r_12 t_13 h_14 => ?_)
  refine cp_10_92 (x := r_12) C G t_2 t_13 dX10_noteUser_8 (fun H locs G_16 => ?_)
  refine cl_nm G_16 h_14 (fun σ_15 G_17 h_18 => ?_)
  refine lv_aload_n C.1 C.2.1 dX10_noteUser_11 rfl (lv_at hl 1 rfl) ?_
  refine cg_10_24 C G_17 t_2 dX10_noteUser_12 (fun t_19 => ?_)
  refine vt_r (K := 25) t_19 h_18 (fun r_20 t_21 h_22 => ?_)
  refine lv_aload_n C.1 C.2.1 dX10_noteUser_15 rfl (lv_at hl 1 rfl) ?_
  obtain ⟨a_23, rfl, h_25⟩ := nn_some h_22
  have t_24 := t_21 _ rfl
  refine cp_10_89 (x := (some a_1)) C G_17 t_24 (cl_RTs t_2) dX10_noteUser_16 (fun H locs G_27 => ?_)
  refine cl_nm G_27 h_25 (fun σ_26 G_28 h_29 => ?_)
  refine lv_aload_n C.1 C.2.1 dX10_noteUser_19 rfl (lv_at hl 1 rfl) ?_
  refine cg_10_27 C G_28 t_2 dX10_noteUser_20 (fun t_30 => ?_)
  refine vt_r (K := 25) t_30 h_29 (fun r_31 t_32 h_33 => ?_)
  refine lv_aload_n C.1 C.2.1 dX10_noteUser_23 rfl (lv_at hl 1 rfl) ?_
  refine cg_10_24 C G_28 t_2 dX10_noteUser_24 (fun t_34 => ?_)
  refine vt_r (K := 25) t_34 h_33 (fun r_35 t_36 h_37 => ?_)
  refine cl_acmp_eq (rx := r_31) (ry := r_35) (tgt := 49) C.1 C.2.1 dX10_noteUser_27 (by decide) (fun hc => ?_) (fun hc => ?_)
  · rw [if_pos hc] at h_37
    exact wc_X10_noteUser_49 C h_37 G_28 (cl_RTs t_2) (lv_sub hl [1] rfl)
  · rw [if_neg hc] at h_37
    refine lv_aload_n C.1 C.2.1 dX10_noteUser_30 rfl (lv_at hl 1 rfl) ?_
    refine lv_aload_n C.1 C.2.1 dX10_noteUser_31 rfl (lv_at hl 1 rfl) ?_
    refine cg_10_27 C G_28 t_2 dX10_noteUser_32 (fun t_83 => ?_)
    refine vt_r (K := 25) t_83 h_37 (fun r_84 t_85 h_86 => ?_)
    obtain ⟨a_87, rfl, h_89⟩ := nn_some h_86
    have t_88 := t_85 _ rfl
    refine cg_10_89 C G_28 t_88 dX10_noteUser_35 (fun t_90 => ?_)
    refine vt_r (K := 25) t_90 h_89 (fun r_91 t_92 h_93 => ?_)
    refine cp_10_95 (x := r_91) C G_28 t_2 t_92 dX10_noteUser_38 (fun H locs G_95 => ?_)
    refine cl_nm G_95 h_93 (fun σ_94 G_96 h_97 => ?_)
    refine lv_aload_n C.1 C.2.1 dX10_noteUser_41 rfl (lv_at hl 1 rfl) ?_
    refine cg_10_27 C G_96 t_2 dX10_noteUser_42 (fun t_98 => ?_)
    refine vt_r (K := 25) t_98 h_97 (fun r_99 t_100 h_101 => ?_)
    refine lv_aload_n C.1 C.2.1 dX10_noteUser_45 rfl (lv_at hl 1 rfl) ?_
    obtain ⟨a_102, rfl, h_104⟩ := nn_some h_101
    have t_103 := t_100 _ rfl
    refine cp_10_89 (x := (some a_1)) C G_96 t_103 (cl_RTs t_2) dX10_noteUser_46 (fun H locs G_106 => ?_)
    refine cl_nm G_106 h_104 (fun σ_105 G_107 h_108 => ?_)
    exact wc_X10_noteUser_49 C h_108 G_107 (cl_RTs t_2) (lv_sub hl [1] rfl)
noncomputable def fc_X10_noteUser (a : Nat) (x1 : (Option Nat)) (σ : cl_S) : Option (cl_S) := bc_X10_noteUser_0 a x1 σ
theorem kc_X10_noteUser (l : Launch) (D : cl_D) (c0 : Nat) {a : Nat} {x1 : (Option Nat)} {σ σ' : cl_S} (ha : (σ.2.2.2.1 a).1 = 26) (h : fc_X10_noteUser a x1 σ = some σ') (f1 : cl_RT σ.2.2.2.1 x1 25) : cl_Met true l D c0 yX10_noteUser cX10_noteUser 2 none 0 0 [.ref (c0 + a), cl_rf c0 x1] σ none cl_no σ' :=
  by cases x1 <;> exact cl_of (by decide) (Nat.le_of_ble_eq_true rfl) (fun p e s m args below meth c ls C hn G hl => wc_X10_noteUser_0 C h G ha f1 hl)
abbrev cX10_add : ByteArray := prog_12_method_5_code
def yX10_add : MethodName := ⟨RX10, "add", "(IILPartHouse$Term;LPartHouse$Term;LPartHouse$Term;)LPartHouse$Term;"⟩
theorem dX10_add_0 : decode cX10_add 0 = .ok (.aload_n 0, 1) := by decide +kernel
theorem dX10_add_1 : decode cX10_add 1 = .ok (.dup, 1) := by decide +kernel
theorem dX10_add_2 : decode cX10_add 2 = .ok (.getfield 76, 3) := by decide +kernel
theorem dX10_add_5 : decode cX10_add 5 = .ok (.iconst 1, 1) := by decide +kernel
theorem dX10_add_6 : decode cX10_add 6 = .ok (.iadd, 1) := by decide +kernel
theorem dX10_add_7 : decode cX10_add 7 = .ok (.putfield 76, 3) := by decide +kernel
theorem dX10_add_10 : decode cX10_add 10 = .ok (.new 11, 3) := by decide +kernel
theorem dX10_add_13 : decode cX10_add 13 = .ok (.dup, 1) := by decide +kernel
theorem dX10_add_14 : decode cX10_add 14 = .ok (.iload_n 1, 1) := by decide +kernel
theorem dX10_add_15 : decode cX10_add 15 = .ok (.iload_n 2, 1) := by decide +kernel
theorem dX10_add_16 : decode cX10_add 16 = .ok (.aload_n 0, 1) := by decide +kernel
theorem dX10_add_17 : decode cX10_add 17 = .ok (.getfield 76, 3) := by decide +kernel
theorem dX10_add_20 : decode cX10_add 20 = .ok (.aload_n 0, 1) := by decide +kernel
theorem dX10_add_21 : decode cX10_add 21 = .ok (.getfield 79, 3) := by decide +kernel
theorem dX10_add_24 : decode cX10_add 24 = .ok (.invokespecial 17, 3) := by decide +kernel
theorem dX10_add_27 : decode cX10_add 27 = .ok (.astore 6, 2) := by decide +kernel
theorem dX10_add_29 : decode cX10_add 29 = .ok (.aload_n 0, 1) := by decide +kernel
theorem dX10_add_30 : decode cX10_add 30 = .ok (.aload 6, 2) := by decide +kernel
theorem dX10_add_32 : decode cX10_add 32 = .ok (.putfield 79, 3) := by decide +kernel
theorem dX10_add_35 : decode cX10_add 35 = .ok (.aload 6, 2) := by decide +kernel
theorem dX10_add_37 : decode cX10_add 37 = .ok (.aload_n 3, 1) := by decide +kernel
theorem dX10_add_38 : decode cX10_add 38 = .ok (.putfield 24, 3) := by decide +kernel
theorem dX10_add_41 : decode cX10_add 41 = .ok (.aload 6, 2) := by decide +kernel
theorem dX10_add_43 : decode cX10_add 43 = .ok (.aload 4, 2) := by decide +kernel
theorem dX10_add_45 : decode cX10_add 45 = .ok (.putfield 27, 3) := by decide +kernel
theorem dX10_add_48 : decode cX10_add 48 = .ok (.aload 6, 2) := by decide +kernel
theorem dX10_add_50 : decode cX10_add 50 = .ok (.aload 5, 2) := by decide +kernel
theorem dX10_add_52 : decode cX10_add 52 = .ok (.putfield 30, 3) := by decide +kernel
theorem dX10_add_55 : decode cX10_add 55 = .ok (.iload_n 1, 1) := by decide +kernel
theorem dX10_add_56 : decode cX10_add 56 = .ok (.iload_n 2, 1) := by decide +kernel
theorem dX10_add_57 : decode cX10_add 57 = .ok (.aload_n 3, 1) := by decide +kernel
theorem dX10_add_58 : decode cX10_add 58 = .ok (.aload 4, 2) := by decide +kernel
theorem dX10_add_60 : decode cX10_add 60 = .ok (.aload 5, 2) := by decide +kernel
theorem dX10_add_62 : decode cX10_add 62 = .ok (.invokestatic 63, 3) := by decide +kernel
theorem dX10_add_65 : decode cX10_add 65 = .ok (.istore 7, 2) := by decide +kernel
theorem dX10_add_67 : decode cX10_add 67 = .ok (.aload 6, 2) := by decide +kernel
theorem dX10_add_69 : decode cX10_add 69 = .ok (.aload_n 0, 1) := by decide +kernel
theorem dX10_add_70 : decode cX10_add 70 = .ok (.getfield 13, 3) := by decide +kernel
theorem dX10_add_73 : decode cX10_add 73 = .ok (.iload 7, 2) := by decide +kernel
theorem dX10_add_75 : decode cX10_add 75 = .ok (.aaload, 1) := by decide +kernel
theorem dX10_add_76 : decode cX10_add 76 = .ok (.putfield 73, 3) := by decide +kernel
theorem dX10_add_79 : decode cX10_add 79 = .ok (.aload_n 0, 1) := by decide +kernel
theorem dX10_add_80 : decode cX10_add 80 = .ok (.getfield 13, 3) := by decide +kernel
theorem dX10_add_83 : decode cX10_add 83 = .ok (.iload 7, 2) := by decide +kernel
theorem dX10_add_85 : decode cX10_add 85 = .ok (.aload 6, 2) := by decide +kernel
theorem dX10_add_87 : decode cX10_add 87 = .ok (.aastore, 1) := by decide +kernel
theorem dX10_add_88 : decode cX10_add 88 = .ok (.aload_n 0, 1) := by decide +kernel
theorem dX10_add_89 : decode cX10_add 89 = .ok (.aload 6, 2) := by decide +kernel
theorem dX10_add_91 : decode cX10_add 91 = .ok (.invokevirtual 82, 3) := by decide +kernel
theorem dX10_add_94 : decode cX10_add 94 = .ok (.aload_n 0, 1) := by decide +kernel
theorem dX10_add_95 : decode cX10_add 95 = .ok (.iconst 0, 1) := by decide +kernel
theorem dX10_add_96 : decode cX10_add 96 = .ok (.putfield 85, 3) := by decide +kernel
theorem dX10_add_99 : decode cX10_add 99 = .ok (.aload 6, 2) := by decide +kernel
theorem dX10_add_101 : decode cX10_add 101 = .ok (.areturn, 1) := by decide +kernel
theorem cc_X10_add : Cond.code yX10_add cX10_add 8 (some (.object "PartHouse$Term")) ∈ rf_tb := rf_at 293 (by decide +kernel) (by decide +kernel)
/-- room for a new cell of N slots -/
def al {α : Type} (σ : cl_S) (N : Nat) (x : Option α) : Option α := if 1 ≤ σ.2.2.2.2.2.1 ∧ N ≤ σ.2.2.2.2.2.2 then x else none
/-- a new TERM -/
def cl_mkT (σ : cl_S) (kind number serial : Int32) (older : Option Nat) : cl_S :=
  let σ1 := cl_nw σ 25 0 16
  cl_wr (cl_w (cl_w (cl_w σ1 σ.2.2.2.2.1 0 kind) σ.2.2.2.2.1 1 number) σ.2.2.2.2.1 2 serial) σ.2.2.2.2.1 8 older
noncomputable def fc_X10_add (a : Nat) (x1 : Int32) (x2 : Int32) (x3 : Option Nat) (x4 : Option Nat) (x5 : Option Nat) (σ : cl_S) : Option (Option Nat × cl_S) :=
  vl (cl_w σ a 2 (σ.1 a 2 + (1:Int32))) (fun σ1 => al σ1 16 (vl (cl_mkT σ1 x1 x2 (σ1.1 a 2) (σ1.2.2.1 a 1)) (fun σ2 =>
    vl (cl_wr σ2 a 1 (some σ1.2.2.2.2.1)) (fun σ3 => vl (cl_wr σ3 σ1.2.2.2.2.1 3 x3) (fun σ4 => vl (cl_wr σ4 σ1.2.2.2.2.1 4 x4) (fun σ5 => vl (cl_wr σ5 σ1.2.2.2.2.1 5 x5) (fun σ6 =>
    bd2 (fc_X10_bucketOf x1 x2 x3 x4 x5 σ6) (fun r7 σ7 => ix r7 4096 (vl (cl_wr σ7 σ1.2.2.2.2.1 7 (σ7.2.2.1 32 r7.toNatClampNeg)) (fun σ8 => ix r7 4096 (vl (cl_wr σ8 32 r7.toNatClampNeg (some σ1.2.2.2.2.1)) (fun σ9 =>
    bd1 (fc_X10_noteUser a (some σ1.2.2.2.2.1) σ9) (fun σ10 => vl (cl_w σ10 a 8 (0:Int32)) (fun σ11 => some (some σ1.2.2.2.2.1, σ11)))))))))))))))
theorem kc_X10_add (l : Launch) (D : cl_D) (c0 : Nat) {r : Option Nat} {a : Nat} {x1 : Int32} {x2 : Int32} {x3 : Option Nat} {x4 : Option Nat} {x5 : Option Nat} {σ σ' : cl_S} (ha : (σ.2.2.2.1 a).1 = 26) (h : fc_X10_add a x1 x2 x3 x4 x5 σ = some (r, σ')) (f3 : cl_RT σ.2.2.2.1 x3 25) (f4 : cl_RT σ.2.2.2.1 x4 25) (f5 : cl_RT σ.2.2.2.1 x5 25) : cl_Met true l D c0 yX10_add cX10_add 8 (some (.object "PartHouse$Term")) 3 80 [.ref (c0 + a), .int x1, .int x2, cl_rf c0 x3, cl_rf c0 x4, cl_rf c0 x5] σ (some (cl_rf c0 r)) (fun T1 => cl_RT T1 r 25) σ' := by
  sorry

abbrev cX8_comeInMade : ByteArray := prog_10_method_8_code
def yX8_comeInMade : MethodName := ⟨RX8, "comeInMade", "(IILPartHouse$Term;LPartHouse$Term;LPartHouse$Term;)I"⟩
theorem dX8_comeInMade_0 : decode cX8_comeInMade 0 = .ok (.aload_n 0, 1) := by decide +kernel
theorem dX8_comeInMade_1 : decode cX8_comeInMade 1 = .ok (.getfield 9, 3) := by decide +kernel
theorem dX8_comeInMade_4 : decode cX8_comeInMade 4 = .ok (.iload_n 1, 1) := by decide +kernel
theorem dX8_comeInMade_5 : decode cX8_comeInMade 5 = .ok (.iload_n 2, 1) := by decide +kernel
theorem dX8_comeInMade_6 : decode cX8_comeInMade 6 = .ok (.aload_n 3, 1) := by decide +kernel
theorem dX8_comeInMade_7 : decode cX8_comeInMade 7 = .ok (.aload 4, 2) := by decide +kernel
theorem dX8_comeInMade_9 : decode cX8_comeInMade 9 = .ok (.aload 5, 2) := by decide +kernel
theorem dX8_comeInMade_11 : decode cX8_comeInMade 11 = .ok (.invokevirtual 67, 3) := by decide +kernel
theorem dX8_comeInMade_14 : decode cX8_comeInMade 14 = .ok (.astore 6, 2) := by decide +kernel
theorem dX8_comeInMade_16 : decode cX8_comeInMade 16 = .ok (.aload 6, 2) := by decide +kernel
theorem dX8_comeInMade_18 : decode cX8_comeInMade 18 = .ok (.aload_n 0, 1) := by decide +kernel
theorem dX8_comeInMade_19 : decode cX8_comeInMade 19 = .ok (.getfield 9, 3) := by decide +kernel
theorem dX8_comeInMade_22 : decode cX8_comeInMade 22 = .ok (.getfield 46, 3) := by decide +kernel
theorem dX8_comeInMade_25 : decode cX8_comeInMade 25 = .ok (.if_acmp .ne 29, 3) := by decide +kernel
theorem dX8_comeInMade_28 : decode cX8_comeInMade 28 = .ok (.aload_n 0, 1) := by decide +kernel
theorem dX8_comeInMade_29 : decode cX8_comeInMade 29 = .ok (.invokevirtual 56, 3) := by decide +kernel
theorem dX8_comeInMade_32 : decode cX8_comeInMade 32 = .ok (.ifCond .eq 6, 3) := by decide +kernel
theorem dX8_comeInMade_35 : decode cX8_comeInMade 35 = .ok (.bipush (-4), 2) := by decide +kernel
theorem dX8_comeInMade_37 : decode cX8_comeInMade 37 = .ok (.ireturn, 1) := by decide +kernel
theorem dX8_comeInMade_38 : decode cX8_comeInMade 38 = .ok (.aload_n 0, 1) := by decide +kernel
theorem dX8_comeInMade_39 : decode cX8_comeInMade 39 = .ok (.getfield 9, 3) := by decide +kernel
theorem dX8_comeInMade_42 : decode cX8_comeInMade 42 = .ok (.iload_n 1, 1) := by decide +kernel
theorem dX8_comeInMade_43 : decode cX8_comeInMade 43 = .ok (.iload_n 2, 1) := by decide +kernel
theorem dX8_comeInMade_44 : decode cX8_comeInMade 44 = .ok (.aload_n 3, 1) := by decide +kernel
theorem dX8_comeInMade_45 : decode cX8_comeInMade 45 = .ok (.aload 4, 2) := by decide +kernel
theorem dX8_comeInMade_47 : decode cX8_comeInMade 47 = .ok (.aload 5, 2) := by decide +kernel
theorem dX8_comeInMade_49 : decode cX8_comeInMade 49 = .ok (.invokevirtual 71, 3) := by decide +kernel
theorem dX8_comeInMade_52 : decode cX8_comeInMade 52 = .ok (.astore 6, 2) := by decide +kernel
theorem dX8_comeInMade_54 : decode cX8_comeInMade 54 = .ok (.aload_n 0, 1) := by decide +kernel
theorem dX8_comeInMade_55 : decode cX8_comeInMade 55 = .ok (.aload 6, 2) := by decide +kernel
theorem dX8_comeInMade_57 : decode cX8_comeInMade 57 = .ok (.invokevirtual 74, 3) := by decide +kernel
theorem dX8_comeInMade_60 : decode cX8_comeInMade 60 = .ok (.ireturn, 1) := by decide +kernel
theorem cc_X8_comeInMade : Cond.code yX8_comeInMade cX8_comeInMade 7 (some .int) ∈ rf_tb := rf_at 1239 (by decide +kernel) (by decide +kernel)
theorem cw_RX8_67 : cl_wV RX8 RX10 yX10_find cX10_find 7 (some (.object "PartHouse$Term")) 67 5 := ⟨⟨rf_at 1240 (by decide +kernel) (by decide +kernel), rf_at 307 (by decide +kernel) (by decide +kernel), rf_at 308 (by decide +kernel) (by decide +kernel), cc_X10_find, rf_at 9 (by decide +kernel) (by decide +kernel)⟩, ⟨by decide, by decide, by decide +kernel⟩⟩
theorem cw_RX8_71 : cl_wV RX8 RX10 yX10_add cX10_add 8 (some (.object "PartHouse$Term")) 71 5 := ⟨⟨rf_at 1241 (by decide +kernel) (by decide +kernel), rf_at 291 (by decide +kernel) (by decide +kernel), rf_at 292 (by decide +kernel) (by decide +kernel), cc_X10_add, rf_at 9 (by decide +kernel) (by decide +kernel)⟩, ⟨by decide, by decide, by decide +kernel⟩⟩
theorem cw_RX8_74 : cl_wV RX8 RX8 yX8_comeIn cX8_comeIn 3 (some .int) 74 1 := ⟨⟨rf_at 1242 (by decide +kernel) (by decide +kernel), rf_at 1214 (by decide +kernel) (by decide +kernel), rf_at 1215 (by decide +kernel) (by decide +kernel), cc_X8_comeIn, rf_at 11 (by decide +kernel) (by decide +kernel)⟩, ⟨by decide, by decide, by decide +kernel⟩⟩
noncomputable def bc_X8_comeInMade_54 (a : Nat) (x6 : (Option Nat)) (σ : cl_S) : Option (Int32 × cl_S) := bd2 (fc_X8_comeIn a x6 σ) (fun r_12 σ_11 => some (r_12, σ_11))
set_option maxHeartbeats 4000000 in
theorem wc_X8_comeInMade_54 (C : cl_C D p s m args meth c cX8_comeInMade 7 (some .int) RX8) {r : Int32} {a : Nat} {x6 : (Option Nat)} {σ0 σ σ' : cl_S} {T : Nat → Nat × Nat} {H : Heap} {locs : List Loc} {ls : Array Slot} {cells slots : Nat} (h : bc_X8_comeInMade_54 a x6 σ = some (r, σ')) (G : cl_G true D c0 ({ frames := 4, cells := σ0.2.2.2.2.2.1, slots := σ0.2.2.2.2.2.2, locals := 107 }) s σ0.2.2.2.1 T σ H locs cells slots) (ha : (T a).1 = 24) (f6 : cl_RT T x6 25) (hl : lv_has ls 7 [(0, .ref (c0 + a)), (6, cl_rf c0 x6)]) : W p l e ({ frames := 4, cells := σ0.2.2.2.2.2.1, slots := σ0.2.2.2.2.2.2, locals := 107 }) s m args below meth c H locs cells slots (MQ below (cl_Q true D c0 (some (.int r)) cl_no σ0 σ') args s (σ0.2.2.2.2.2.1 - σ'.2.2.2.2.2.1) (σ0.2.2.2.2.2.2 - σ'.2.2.2.2.2.2) (cl_A c0 σ0.2.2.2.1 s.heap.size)) (F0 m 54 ls []) := by
  unfold bc_X8_comeInMade_54 at h
  refine lv_aload_n C.1 C.2.1 dX8_comeInMade_54 rfl (lv_at hl 0 rfl) ?_
  refine cl_aload C.1 C.2.1 dX8_comeInMade_55 (lv_at hl 1 rfl) ?_
  obtain ⟨r_12, σ_11, hq, h_13⟩ := bd2_some h
  refine cl_callV (ci := 8) (rest := []) C G rfl ha cw_RX8_74 [cl_rf c0 x6] _ (kc_X8_comeIn l D c0 (by rw [G.1]; exact ha) hq (by rw [G.1]; exact f6)) (Nat.le_of_ble_eq_true rfl) (Nat.le_of_ble_eq_true rfl) rfl rfl hl.1 (Nat.le_of_ble_eq_true rfl) dX8_comeInMade_57 (fun T_14 H locs cells slots t_15 hu G_16 => ?_)
  have ha := hu.kind ha (by decide)
  have f6 := f6.up hu (by decide)
  refine W.eq (g2 := F0 m 60 ls [.int r_12]) rfl ?_
  exact cl_iret ⟨rfl, rfl⟩ rfl C G_16 h_13 dX8_comeInMade_60
noncomputable def bc_X8_comeInMade_0 (a : Nat) (x1 : Int32) (x2 : Int32) (x3 : (Option Nat)) (x4 : (Option Nat)) (x5 : (Option Nat)) (σ : cl_S) : Option (Int32 × cl_S) := bd2 (fc_X10_find 31 x1 x2 x3 x4 x5 σ) (fun r_3 σ_2 => (if r_3 = (some 33) then bd2 (fc_X8_isFull a σ_2) (fun r_18 σ_17 => (if r_18 = 0 then bd2 (fc_X10_add 31 x1 x2 x3 x4 x5 σ_17) (fun r_25 σ_24 => bc_X8_comeInMade_54 a r_25 σ_24) else some ((-4:Int32), σ_17))) else bc_X8_comeInMade_54 a r_3 σ_2))
set_option maxHeartbeats 4000000 in
theorem wc_X8_comeInMade_0 (C : cl_C D p s m args meth c cX8_comeInMade 7 (some .int) RX8) {r : Int32} {a : Nat} {x1 : Int32} {x2 : Int32} {x3 : (Option Nat)} {x4 : (Option Nat)} {x5 : (Option Nat)} {σ0 σ σ' : cl_S} {T : Nat → Nat × Nat} {H : Heap} {locs : List Loc} {ls : Array Slot} {cells slots : Nat} (h : bc_X8_comeInMade_0 a x1 x2 x3 x4 x5 σ = some (r, σ')) (G : cl_G true D c0 ({ frames := 4, cells := σ0.2.2.2.2.2.1, slots := σ0.2.2.2.2.2.2, locals := 107 }) s σ0.2.2.2.1 T σ H locs cells slots) (ha : (T a).1 = 24) (f3 : cl_RT T x3 25) (f4 : cl_RT T x4 25) (f5 : cl_RT T x5 25) (hl : lv_has ls 7 [(0, .ref (c0 + a)), (1, .int x1), (2, .int x2), (3, cl_rf c0 x3), (4, cl_rf c0 x4), (5, cl_rf c0 x5)]) : W p l e ({ frames := 4, cells := σ0.2.2.2.2.2.1, slots := σ0.2.2.2.2.2.2, locals := 107 }) s m args below meth c H locs cells slots (MQ below (cl_Q true D c0 (some (.int r)) cl_no σ0 σ') args s (σ0.2.2.2.2.2.1 - σ'.2.2.2.2.2.1) (σ0.2.2.2.2.2.2 - σ'.2.2.2.2.2.2) (cl_A c0 σ0.2.2.2.1 s.heap.size)) (F0 m 0 ls []) := by
  unfold bc_X8_comeInMade_0 at h
  refine lv_aload_n C.1 C.2.1 dX8_comeInMade_0 rfl (lv_at hl 0 rfl) ?_
  refine cg_8_9 C G ha dX8_comeInMade_1 (fun t_1 => ?_)
  have t_1 : (T 31).1 = 26 := by rw [t_1]
  refine lv_iload_n C.1 C.2.1 dX8_comeInMade_4 rfl (lv_at hl 1 rfl) ?_
  refine lv_iload_n C.1 C.2.1 dX8_comeInMade_5 rfl (lv_at hl 2 rfl) ?_
  refine cl_aload_n C.1 C.2.1 dX8_comeInMade_6 rfl (lv_at hl 3 rfl) ?_
  refine cl_aload C.1 C.2.1 dX8_comeInMade_7 (lv_at hl 4 rfl) ?_
  refine cl_aload C.1 C.2.1 dX8_comeInMade_9 (lv_at hl 5 rfl) ?_
  obtain ⟨r_3, σ_2, hq, h_4⟩ := bd2_some h
  refine cl_callV (ci := 10) (rest := []) C G rfl t_1 cw_RX8_67 [.int x1, .int x2, cl_rf c0 x3, cl_rf c0 x4, cl_rf c0 x5] _ (kc_X10_find l D c0 (by rw [G.1]; exact t_1) hq (by rw [G.1]; exact f3) (by rw [G.1]; exact f4) (by rw [G.1]; exact f5)) (Nat.le_of_ble_eq_true rfl) (Nat.le_of_ble_eq_true rfl) rfl rfl hl.1 (Nat.le_of_ble_eq_true rfl) dX8_comeInMade_11 (fun T_5 H locs cells slots t_6 hu G_7 => ?_)
  have ha := hu.kind ha (by decide)
  have f3 := f3.up hu (by decide)
  have f4 := f4.up hu (by decide)
  have f5 := f5.up hu (by decide)
  refine W.eq (g2 := F0 m 14 ls [cl_rf c0 r_3]) rfl ?_
  refine cl_astore (lv' := [(6, cl_rf c0 r_3), (0, .ref (c0 + a)), (1, .int x1), (2, .int x2), (3, cl_rf c0 x3), (4, cl_rf c0 x4), (5, cl_rf c0 x5)]) C.1 C.2.1 dX8_comeInMade_14 hl (by decide) (by first | rfl | (cases x3 <;> cases x4 <;> cases x5 <;> rfl)) (fun ls hl_8 => ?_)
  refine cl_aload C.1 C.2.1 dX8_comeInMade_16 (lv_at hl_8 0 rfl) ?_
  refine lv_aload_n C.1 C.2.1 dX8_comeInMade_18 rfl (lv_at hl_8 1 rfl) ?_
  refine cg_8_9 C G_7 ha dX8_comeInMade_19 (fun t_9 => ?_)
  have t_9 : (T_5 31).1 = 26 := by rw [t_9]
  refine cg_8_46 C G_7 t_9 dX8_comeInMade_22 (fun t_10 => ?_)
  have t_10 : (T_5 33).1 = 25 := by rw [t_10]
  refine cl_acmp_ne (rx := r_3) (ry := (some 33)) (tgt := 54) C.1 C.2.1 dX8_comeInMade_25 (by decide) (fun hc => ?_) (fun hc => ?_)
  · rw [if_neg hc] at h_4
    exact wc_X8_comeInMade_54 C h_4 G_7 ha t_6 (lv_sub hl_8 [1, 0] rfl)
  · rw [if_pos hc] at h_4
    refine lv_aload_n C.1 C.2.1 dX8_comeInMade_28 rfl (lv_at hl_8 1 rfl) ?_
    obtain ⟨r_18, σ_17, hq, h_19⟩ := bd2_some h_4
    refine cl_callV (ci := 8) (rest := []) C G_7 rfl ha cw_RX8_56 [] _ (kc_X8_isFull l D c0 (by rw [G_7.1]; exact ha) hq) (Nat.le_of_ble_eq_true rfl) (Nat.le_of_ble_eq_true rfl) rfl rfl hl_8.1 (Nat.le_of_ble_eq_true rfl) dX8_comeInMade_29 (fun T_20 H locs cells slots t_21 hu G_22 => ?_)
    have t_6 := t_6.up hu (by decide)
    have ha := hu.kind ha (by decide)
    have f3 := f3.up hu (by decide)
    have f4 := f4.up hu (by decide)
    have f5 := f5.up hu (by decide)
    refine W.eq (g2 := F0 m 32 ls [.int r_18]) rfl ?_
    refine lv_if_eq (tgt := 38) C.1 C.2.1 dX8_comeInMade_32 (by decide) (fun hc => ?_) (fun hc => ?_)
    · rw [if_pos hc] at h_19
      refine lv_aload_n C.1 C.2.1 dX8_comeInMade_38 rfl (lv_at hl_8 1 rfl) ?_
      refine cg_8_9 C G_22 ha dX8_comeInMade_39 (fun t_23 => ?_)
      have t_23 : (T_20 31).1 = 26 := by rw [t_23]
      refine lv_iload_n C.1 C.2.1 dX8_comeInMade_42 rfl (lv_at hl_8 2 rfl) ?_
      refine lv_iload_n C.1 C.2.1 dX8_comeInMade_43 rfl (lv_at hl_8 3 rfl) ?_
      refine cl_aload_n C.1 C.2.1 dX8_comeInMade_44 rfl (lv_at hl_8 4 rfl) ?_
      refine cl_aload C.1 C.2.1 dX8_comeInMade_45 (lv_at hl_8 5 rfl) ?_
      refine cl_aload C.1 C.2.1 dX8_comeInMade_47 (lv_at hl_8 6 rfl) ?_
      obtain ⟨r_25, σ_24, hq, h_26⟩ := bd2_some h_19
      refine cl_callV (ci := 10) (rest := []) C G_22 rfl t_23 cw_RX8_71 [.int x1, .int x2, cl_rf c0 x3, cl_rf c0 x4, cl_rf c0 x5] _ (kc_X10_add l D c0 (by rw [G_22.1]; exact t_23) hq (by rw [G_22.1]; exact f3) (by rw [G_22.1]; exact f4) (by rw [G_22.1]; exact f5)) (Nat.le_of_ble_eq_true rfl) (Nat.le_of_ble_eq_true rfl) rfl rfl hl_8.1 (Nat.le_of_ble_eq_true rfl) dX8_comeInMade_49 (fun T_27 H locs cells slots t_28 hu G_29 => ?_)
      have t_6 := t_6.up hu (by decide)
      have ha := hu.kind ha (by decide)
      have f3 := f3.up hu (by decide)
      have f4 := f4.up hu (by decide)
      have f5 := f5.up hu (by decide)
      refine W.eq (g2 := F0 m 52 ls [cl_rf c0 r_25]) rfl ?_
      refine cl_astore (lv' := [(6, cl_rf c0 r_25), (0, .ref (c0 + a)), (1, .int x1), (2, .int x2), (3, cl_rf c0 x3), (4, cl_rf c0 x4), (5, cl_rf c0 x5)]) C.1 C.2.1 dX8_comeInMade_52 hl_8 (by decide) (by first | rfl | (cases r_3 <;> cases x3 <;> cases x4 <;> cases x5 <;> rfl)) (fun ls hl_30 => ?_)
      exact wc_X8_comeInMade_54 C h_26 G_29 ha t_28 (lv_sub hl_30 [1, 0] rfl)
    · rw [if_neg hc] at h_19
      refine lv_bipush (v := (-4:Int32)) C.1 C.2.1 dX8_comeInMade_35 (by decide) ?_
      exact cl_iret ⟨rfl, rfl⟩ rfl C G_22 h_19 dX8_comeInMade_37
noncomputable def fc_X8_comeInMade (a : Nat) (x1 : Int32) (x2 : Int32) (x3 : (Option Nat)) (x4 : (Option Nat)) (x5 : (Option Nat)) (σ : cl_S) : Option (Int32 × cl_S) := bc_X8_comeInMade_0 a x1 x2 x3 x4 x5 σ
theorem kc_X8_comeInMade (l : Launch) (D : cl_D) (c0 : Nat) {r : Int32} {a : Nat} {x1 : Int32} {x2 : Int32} {x3 : (Option Nat)} {x4 : (Option Nat)} {x5 : (Option Nat)} {σ σ' : cl_S} (ha : (σ.2.2.2.1 a).1 = 24) (h : fc_X8_comeInMade a x1 x2 x3 x4 x5 σ = some (r, σ')) (f3 : cl_RT σ.2.2.2.1 x3 25) (f4 : cl_RT σ.2.2.2.1 x4 25) (f5 : cl_RT σ.2.2.2.1 x5 25) : cl_Met true l D c0 yX8_comeInMade cX8_comeInMade 7 (some .int) 4 107 [.ref (c0 + a), .int x1, .int x2, cl_rf c0 x3, cl_rf c0 x4, cl_rf c0 x5] σ (some (.int r)) cl_no σ' :=
  by cases x3 <;> cases x4 <;> cases x5 <;> exact cl_of (by decide) (Nat.le_of_ble_eq_true rfl) (fun p e s m args below meth c ls C hn G hl => wc_X8_comeInMade_0 C h G ha f3 f4 f5 hl)
abbrev cX10_parts : ByteArray := prog_12_method_2_code
def yX10_parts : MethodName := ⟨RX10, "parts", "(I)I"⟩
theorem dX10_parts_0 : decode cX10_parts 0 = .ok (.iload_n 0, 1) := by decide +kernel
theorem dX10_parts_1 : decode cX10_parts 1 = .ok (.tableswitch 49 3 9 #[45, 43, 45, 43, 45, 47, 45], 43) := by decide +kernel
theorem dX10_parts_44 : decode cX10_parts 44 = .ok (.iconst 1, 1) := by decide +kernel
theorem dX10_parts_45 : decode cX10_parts 45 = .ok (.ireturn, 1) := by decide +kernel
theorem dX10_parts_46 : decode cX10_parts 46 = .ok (.iconst 2, 1) := by decide +kernel
theorem dX10_parts_47 : decode cX10_parts 47 = .ok (.ireturn, 1) := by decide +kernel
theorem dX10_parts_48 : decode cX10_parts 48 = .ok (.iconst 3, 1) := by decide +kernel
theorem dX10_parts_49 : decode cX10_parts 49 = .ok (.ireturn, 1) := by decide +kernel
theorem dX10_parts_50 : decode cX10_parts 50 = .ok (.iconst 0, 1) := by decide +kernel
theorem dX10_parts_51 : decode cX10_parts 51 = .ok (.ireturn, 1) := by decide +kernel
theorem cc_X10_parts : Cond.code yX10_parts cX10_parts 1 (some .int) ∈ rf_tb := rf_at 1249 (by decide +kernel) (by decide +kernel)
noncomputable def bc_X10_parts_0 (x0 : Int32) (σ : cl_S) : Option (Int32 × cl_S) := (if x0 = (3:Int32) then some ((2:Int32), σ) else if x0 = (4:Int32) then some ((1:Int32), σ) else if x0 = (5:Int32) then some ((2:Int32), σ) else if x0 = (6:Int32) then some ((1:Int32), σ) else if x0 = (7:Int32) then some ((2:Int32), σ) else if x0 = (8:Int32) then some ((3:Int32), σ) else if x0 = (9:Int32) then some ((2:Int32), σ) else some ((0:Int32), σ))
set_option maxHeartbeats 4000000 in
theorem wc_X10_parts_0 (C : cl_C D p s m args meth c cX10_parts 1 (some .int) RX10) {r : Int32} {x0 : Int32} {σ0 σ σ' : cl_S} {T : Nat → Nat × Nat} {H : Heap} {locs : List Loc} {ls : Array Slot} {cells slots : Nat} (h : bc_X10_parts_0 x0 σ = some (r, σ')) (G : cl_G true D c0 ({ frames := 0, cells := σ0.2.2.2.2.2.1, slots := σ0.2.2.2.2.2.2, locals := 0 }) s σ0.2.2.2.1 T σ H locs cells slots) (hl : lv_has ls 1 [(0, .int x0)]) : W p l e ({ frames := 0, cells := σ0.2.2.2.2.2.1, slots := σ0.2.2.2.2.2.2, locals := 0 }) s m args below meth c H locs cells slots (MQ below (cl_Q true D c0 (some (.int r)) cl_no σ0 σ') args s (σ0.2.2.2.2.2.1 - σ'.2.2.2.2.2.1) (σ0.2.2.2.2.2.2 - σ'.2.2.2.2.2.2) (cl_A c0 σ0.2.2.2.1 s.heap.size)) (F0 m 0 ls []) := by
  unfold bc_X10_parts_0 at h
  refine lv_iload_n C.1 C.2.1 dX10_parts_0 rfl (lv_at hl 0 rfl) ?_
  by_cases hk3 : x0 = (3:Int32)
  · rw [if_pos hk3] at h
    refine lv_tableIn (tgt := 46) C.1 C.2.1 dX10_parts_1 (by rw [hk3]; decide) (by rw [hk3]; decide) (by rw [hk3]; rfl) (by decide) ?_
    refine lv_iconst (v := (2:Int32)) C.1 C.2.1 dX10_parts_46 (by decide) ?_
    exact cl_iret ⟨rfl, rfl⟩ rfl C G h dX10_parts_47
  rw [if_neg hk3] at h
  by_cases hk4 : x0 = (4:Int32)
  · rw [if_pos hk4] at h
    refine lv_tableIn (tgt := 44) C.1 C.2.1 dX10_parts_1 (by rw [hk4]; decide) (by rw [hk4]; decide) (by rw [hk4]; rfl) (by decide) ?_
    refine lv_iconst (v := (1:Int32)) C.1 C.2.1 dX10_parts_44 (by decide) ?_
    exact cl_iret ⟨rfl, rfl⟩ rfl C G h dX10_parts_45
  rw [if_neg hk4] at h
  by_cases hk5 : x0 = (5:Int32)
  · rw [if_pos hk5] at h
    refine lv_tableIn (tgt := 46) C.1 C.2.1 dX10_parts_1 (by rw [hk5]; decide) (by rw [hk5]; decide) (by rw [hk5]; rfl) (by decide) ?_
    refine lv_iconst (v := (2:Int32)) C.1 C.2.1 dX10_parts_46 (by decide) ?_
    exact cl_iret ⟨rfl, rfl⟩ rfl C G h dX10_parts_47
  rw [if_neg hk5] at h
  by_cases hk6 : x0 = (6:Int32)
  · rw [if_pos hk6] at h
    refine lv_tableIn (tgt := 44) C.1 C.2.1 dX10_parts_1 (by rw [hk6]; decide) (by rw [hk6]; decide) (by rw [hk6]; rfl) (by decide) ?_
    refine lv_iconst (v := (1:Int32)) C.1 C.2.1 dX10_parts_44 (by decide) ?_
    exact cl_iret ⟨rfl, rfl⟩ rfl C G h dX10_parts_45
  rw [if_neg hk6] at h
  by_cases hk7 : x0 = (7:Int32)
  · rw [if_pos hk7] at h
    refine lv_tableIn (tgt := 46) C.1 C.2.1 dX10_parts_1 (by rw [hk7]; decide) (by rw [hk7]; decide) (by rw [hk7]; rfl) (by decide) ?_
    refine lv_iconst (v := (2:Int32)) C.1 C.2.1 dX10_parts_46 (by decide) ?_
    exact cl_iret ⟨rfl, rfl⟩ rfl C G h dX10_parts_47
  rw [if_neg hk7] at h
  by_cases hk8 : x0 = (8:Int32)
  · rw [if_pos hk8] at h
    refine lv_tableIn (tgt := 48) C.1 C.2.1 dX10_parts_1 (by rw [hk8]; decide) (by rw [hk8]; decide) (by rw [hk8]; rfl) (by decide) ?_
    refine lv_iconst (v := (3:Int32)) C.1 C.2.1 dX10_parts_48 (by decide) ?_
    exact cl_iret ⟨rfl, rfl⟩ rfl C G h dX10_parts_49
  rw [if_neg hk8] at h
  by_cases hk9 : x0 = (9:Int32)
  · rw [if_pos hk9] at h
    refine lv_tableIn (tgt := 46) C.1 C.2.1 dX10_parts_1 (by rw [hk9]; decide) (by rw [hk9]; decide) (by rw [hk9]; rfl) (by decide) ?_
    refine lv_iconst (v := (2:Int32)) C.1 C.2.1 dX10_parts_46 (by decide) ?_
    exact cl_iret ⟨rfl, rfl⟩ rfl C G h dX10_parts_47
  rw [if_neg hk9] at h
  refine lv_tableOut (tgt := 50) C.1 C.2.1 dX10_parts_1 ?_ (by decide) ?_
  · rcases Int.lt_or_le x0.toInt 3 with q | q
    · exact Or.inl q
    · rcases Int.lt_or_le 9 x0.toInt with q2 | q2
      · exact Or.inr q2
      · exfalso
        have hd : x0.toInt = (3 : Int) ∨ x0.toInt = (4 : Int) ∨ x0.toInt = (5 : Int) ∨ x0.toInt = (6 : Int) ∨ x0.toInt = (7 : Int) ∨ x0.toInt = (8 : Int) ∨ x0.toInt = (9 : Int) := by omega
        rcases hd with e | e | e | e | e | e | e
        · exact hk3 (Int32.toInt_inj.mp (e.trans (by decide)))
        · exact hk4 (Int32.toInt_inj.mp (e.trans (by decide)))
        · exact hk5 (Int32.toInt_inj.mp (e.trans (by decide)))
        · exact hk6 (Int32.toInt_inj.mp (e.trans (by decide)))
        · exact hk7 (Int32.toInt_inj.mp (e.trans (by decide)))
        · exact hk8 (Int32.toInt_inj.mp (e.trans (by decide)))
        · exact hk9 (Int32.toInt_inj.mp (e.trans (by decide)))
  · refine lv_iconst (v := (0:Int32)) C.1 C.2.1 dX10_parts_50 (by decide) ?_
    exact cl_iret ⟨rfl, rfl⟩ rfl C G h dX10_parts_51
noncomputable def fc_X10_parts (x0 : Int32) (σ : cl_S) : Option (Int32 × cl_S) := bc_X10_parts_0 x0 σ
theorem kc_X10_parts (l : Launch) (D : cl_D) (c0 : Nat) {r : Int32} {x0 : Int32} {σ σ' : cl_S} (h : fc_X10_parts x0 σ = some (r, σ')) : cl_Met true l D c0 yX10_parts cX10_parts 1 (some .int) 0 0 [.int x0] σ (some (.int r)) cl_no σ' :=
  cl_of (by decide) (Nat.le_of_ble_eq_true rfl) (fun p e s m args below meth c ls C hn G hl => wc_X10_parts_0 C h G  hl)
abbrev cX5_makeOf : ByteArray := prog_7_method_20_code
def yX5_makeOf : MethodName := ⟨RX5, "makeOf", "(LPartHouse$Partition;I)I"⟩
theorem dX5_makeOf_0 : decode cX5_makeOf 0 = .ok (.iload_n 2, 1) := by decide +kernel
theorem dX5_makeOf_1 : decode cX5_makeOf 1 = .ok (.invokestatic 343, 3) := by decide +kernel
theorem dX5_makeOf_4 : decode cX5_makeOf 4 = .ok (.istore_n 3, 1) := by decide +kernel
theorem dX5_makeOf_5 : decode cX5_makeOf 5 = .ok (.iconst 1, 1) := by decide +kernel
theorem dX5_makeOf_6 : decode cX5_makeOf 6 = .ok (.istore 4, 2) := by decide +kernel
theorem dX5_makeOf_8 : decode cX5_makeOf 8 = .ok (.iload 4, 2) := by decide +kernel
theorem dX5_makeOf_10 : decode cX5_makeOf 10 = .ok (.iload_n 3, 1) := by decide +kernel
theorem dX5_makeOf_11 : decode cX5_makeOf 11 = .ok (.if_icmp .gt 32, 3) := by decide +kernel
theorem dX5_makeOf_14 : decode cX5_makeOf 14 = .ok (.aload_n 1, 1) := by decide +kernel
theorem dX5_makeOf_15 : decode cX5_makeOf 15 = .ok (.getfield 199, 3) := by decide +kernel
theorem dX5_makeOf_18 : decode cX5_makeOf 18 = .ok (.aload_n 1, 1) := by decide +kernel
theorem dX5_makeOf_19 : decode cX5_makeOf 19 = .ok (.getfield 121, 3) := by decide +kernel
theorem dX5_makeOf_22 : decode cX5_makeOf 22 = .ok (.getfield 193, 3) := by decide +kernel
theorem dX5_makeOf_25 : decode cX5_makeOf 25 = .ok (.iload 4, 2) := by decide +kernel
theorem dX5_makeOf_27 : decode cX5_makeOf 27 = .ok (.iaload, 1) := by decide +kernel
theorem dX5_makeOf_28 : decode cX5_makeOf 28 = .ok (.invokevirtual 335, 3) := by decide +kernel
theorem dX5_makeOf_31 : decode cX5_makeOf 31 = .ok (.ifCond .ne 6, 3) := by decide +kernel
theorem dX5_makeOf_34 : decode cX5_makeOf 34 = .ok (.bipush (-2), 2) := by decide +kernel
theorem dX5_makeOf_36 : decode cX5_makeOf 36 = .ok (.ireturn, 1) := by decide +kernel
theorem dX5_makeOf_37 : decode cX5_makeOf 37 = .ok (.iinc 4 1, 3) := by decide +kernel
theorem dX5_makeOf_40 : decode cX5_makeOf 40 = .ok (.goto (-32), 3) := by decide +kernel
theorem dX5_makeOf_43 : decode cX5_makeOf 43 = .ok (.aload_n 1, 1) := by decide +kernel
theorem dX5_makeOf_44 : decode cX5_makeOf 44 = .ok (.getfield 199, 3) := by decide +kernel
theorem dX5_makeOf_47 : decode cX5_makeOf 47 = .ok (.aload_n 1, 1) := by decide +kernel
theorem dX5_makeOf_48 : decode cX5_makeOf 48 = .ok (.getfield 121, 3) := by decide +kernel
theorem dX5_makeOf_51 : decode cX5_makeOf 51 = .ok (.getfield 193, 3) := by decide +kernel
theorem dX5_makeOf_54 : decode cX5_makeOf 54 = .ok (.iconst 1, 1) := by decide +kernel
theorem dX5_makeOf_55 : decode cX5_makeOf 55 = .ok (.iaload, 1) := by decide +kernel
theorem dX5_makeOf_56 : decode cX5_makeOf 56 = .ok (.invokevirtual 203, 3) := by decide +kernel
theorem dX5_makeOf_59 : decode cX5_makeOf 59 = .ok (.astore 4, 2) := by decide +kernel
theorem dX5_makeOf_61 : decode cX5_makeOf 61 = .ok (.iload_n 3, 1) := by decide +kernel
theorem dX5_makeOf_62 : decode cX5_makeOf 62 = .ok (.iconst 2, 1) := by decide +kernel
theorem dX5_makeOf_63 : decode cX5_makeOf 63 = .ok (.if_icmp .lt 22, 3) := by decide +kernel
theorem dX5_makeOf_66 : decode cX5_makeOf 66 = .ok (.aload_n 1, 1) := by decide +kernel
theorem dX5_makeOf_67 : decode cX5_makeOf 67 = .ok (.getfield 199, 3) := by decide +kernel
theorem dX5_makeOf_70 : decode cX5_makeOf 70 = .ok (.aload_n 1, 1) := by decide +kernel
theorem dX5_makeOf_71 : decode cX5_makeOf 71 = .ok (.getfield 121, 3) := by decide +kernel
theorem dX5_makeOf_74 : decode cX5_makeOf 74 = .ok (.getfield 193, 3) := by decide +kernel
theorem dX5_makeOf_77 : decode cX5_makeOf 77 = .ok (.iconst 2, 1) := by decide +kernel
theorem dX5_makeOf_78 : decode cX5_makeOf 78 = .ok (.iaload, 1) := by decide +kernel
theorem dX5_makeOf_79 : decode cX5_makeOf 79 = .ok (.invokevirtual 203, 3) := by decide +kernel
theorem dX5_makeOf_82 : decode cX5_makeOf 82 = .ok (.goto 10, 3) := by decide +kernel
theorem dX5_makeOf_85 : decode cX5_makeOf 85 = .ok (.aload_n 0, 1) := by decide +kernel
theorem dX5_makeOf_86 : decode cX5_makeOf 86 = .ok (.getfield 51, 3) := by decide +kernel
theorem dX5_makeOf_89 : decode cX5_makeOf 89 = .ok (.getfield 83, 3) := by decide +kernel
theorem dX5_makeOf_92 : decode cX5_makeOf 92 = .ok (.astore 5, 2) := by decide +kernel
theorem dX5_makeOf_94 : decode cX5_makeOf 94 = .ok (.iload_n 3, 1) := by decide +kernel
theorem dX5_makeOf_95 : decode cX5_makeOf 95 = .ok (.iconst 3, 1) := by decide +kernel
theorem dX5_makeOf_96 : decode cX5_makeOf 96 = .ok (.if_icmp .lt 22, 3) := by decide +kernel
theorem dX5_makeOf_99 : decode cX5_makeOf 99 = .ok (.aload_n 1, 1) := by decide +kernel
theorem dX5_makeOf_100 : decode cX5_makeOf 100 = .ok (.getfield 199, 3) := by decide +kernel
theorem dX5_makeOf_103 : decode cX5_makeOf 103 = .ok (.aload_n 1, 1) := by decide +kernel
theorem dX5_makeOf_104 : decode cX5_makeOf 104 = .ok (.getfield 121, 3) := by decide +kernel
theorem dX5_makeOf_107 : decode cX5_makeOf 107 = .ok (.getfield 193, 3) := by decide +kernel
theorem dX5_makeOf_110 : decode cX5_makeOf 110 = .ok (.iconst 3, 1) := by decide +kernel
theorem dX5_makeOf_111 : decode cX5_makeOf 111 = .ok (.iaload, 1) := by decide +kernel
theorem dX5_makeOf_112 : decode cX5_makeOf 112 = .ok (.invokevirtual 203, 3) := by decide +kernel
theorem dX5_makeOf_115 : decode cX5_makeOf 115 = .ok (.goto 10, 3) := by decide +kernel
theorem dX5_makeOf_118 : decode cX5_makeOf 118 = .ok (.aload_n 0, 1) := by decide +kernel
theorem dX5_makeOf_119 : decode cX5_makeOf 119 = .ok (.getfield 51, 3) := by decide +kernel
theorem dX5_makeOf_122 : decode cX5_makeOf 122 = .ok (.getfield 83, 3) := by decide +kernel
theorem dX5_makeOf_125 : decode cX5_makeOf 125 = .ok (.astore 6, 2) := by decide +kernel
theorem dX5_makeOf_127 : decode cX5_makeOf 127 = .ok (.aload_n 1, 1) := by decide +kernel
theorem dX5_makeOf_128 : decode cX5_makeOf 128 = .ok (.getfield 199, 3) := by decide +kernel
theorem dX5_makeOf_131 : decode cX5_makeOf 131 = .ok (.iload_n 2, 1) := by decide +kernel
theorem dX5_makeOf_132 : decode cX5_makeOf 132 = .ok (.iconst 0, 1) := by decide +kernel
theorem dX5_makeOf_133 : decode cX5_makeOf 133 = .ok (.aload 4, 2) := by decide +kernel
theorem dX5_makeOf_135 : decode cX5_makeOf 135 = .ok (.aload 5, 2) := by decide +kernel
theorem dX5_makeOf_137 : decode cX5_makeOf 137 = .ok (.aload 6, 2) := by decide +kernel
theorem dX5_makeOf_139 : decode cX5_makeOf 139 = .ok (.invokevirtual 247, 3) := by decide +kernel
theorem dX5_makeOf_142 : decode cX5_makeOf 142 = .ok (.ireturn, 1) := by decide +kernel
theorem cc_X5_makeOf : Cond.code yX5_makeOf cX5_makeOf 7 (some .int) ∈ rf_tb := rf_at 1246 (by decide +kernel) (by decide +kernel)
theorem cw_RX5_247 : cl_wV RX5 RX8 yX8_comeInMade cX8_comeInMade 7 (some .int) 247 5 := ⟨⟨rf_at 1236 (by decide +kernel) (by decide +kernel), rf_at 1237 (by decide +kernel) (by decide +kernel), rf_at 1238 (by decide +kernel) (by decide +kernel), cc_X8_comeInMade, rf_at 11 (by decide +kernel) (by decide +kernel)⟩, ⟨by decide, by decide, by decide +kernel⟩⟩
theorem cw_RX5_343 : cl_wS RX5 yX10_parts cX10_parts 1 (some .int) 343 1 := ⟨⟨rf_at 1247 (by decide +kernel) (by decide +kernel), rf_at 1248 (by decide +kernel) (by decide +kernel), cc_X10_parts, rf_at 9 (by decide +kernel) (by decide +kernel)⟩, ⟨by decide, by decide, by decide +kernel⟩⟩
noncomputable def lc_X5_makeOf_8 (a : Nat) (x1 : (Option Nat)) (x2 : Int32) (x3 : Int32) (x4 : Int32) (σ : cl_S) : Option ((Int32 × cl_S) ⊕ ((Int32 × cl_S) ⊕ (Int32 × cl_S))) := (if x3 < x4 then some (.inr (.inr (x4, σ))) else nn x1 (fun a_9 => ix x4 16 (bd2 (fc_X8_has (a_9 + 9) (σ.1 ((a_9 + 1) + 2) x4.toNatClampNeg) σ) (fun r_17 σ_16 => (if r_17 = 0 then some (.inr (.inl ((-2:Int32), σ_16))) else vl (x4 + (1:Int32)) (fun x4_22 => some (.inl (x4_22, σ_16))))))))
noncomputable def bc_X5_makeOf_125 (x1 : (Option Nat)) (x2 : Int32) (x4 : (Option Nat)) (x5 : (Option Nat)) (v0 : (Option Nat)) (σ : cl_S) : Option (Int32 × cl_S) := nn x1 (fun a_45 => bd2 (fc_X8_comeInMade (a_45 + 9) x2 (0:Int32) x4 x5 v0 σ) (fun r_50 σ_49 => some (r_50, σ_49)))
set_option maxHeartbeats 4000000 in
theorem wc_X5_makeOf_125 (C : cl_C D p s m args meth c cX5_makeOf 7 (some .int) RX5) {r : Int32} {x1 : (Option Nat)} {x2 : Int32} {x4 : (Option Nat)} {x5 : (Option Nat)} {v0 : (Option Nat)} {σ0 σ σ' : cl_S} {T : Nat → Nat × Nat} {H : Heap} {locs : List Loc} {ls : Array Slot} {cells slots : Nat} (h : bc_X5_makeOf_125 x1 x2 x4 x5 v0 σ = some (r, σ')) (G : cl_G true D c0 ({ frames := 5, cells := σ0.2.2.2.2.2.1, slots := σ0.2.2.2.2.2.2, locals := 133 }) s σ0.2.2.2.1 T σ H locs cells slots) (f1 : cl_RT T x1 22) (f4 : cl_RT T x4 25) (f5 : cl_RT T x5 25) (g0 : cl_RT T v0 25) (hl : lv_has ls 7 [(1, cl_rf c0 x1), (2, .int x2), (4, cl_rf c0 x4), (5, cl_rf c0 x5)]) : W p l e ({ frames := 5, cells := σ0.2.2.2.2.2.1, slots := σ0.2.2.2.2.2.2, locals := 133 }) s m args below meth c H locs cells slots (MQ below (cl_Q true D c0 (some (.int r)) cl_no σ0 σ') args s (σ0.2.2.2.2.2.1 - σ'.2.2.2.2.2.1) (σ0.2.2.2.2.2.2 - σ'.2.2.2.2.2.2) (cl_A c0 σ0.2.2.2.1 s.heap.size)) (F0 m 125 ls [cl_rf c0 v0]) := by
  unfold bc_X5_makeOf_125 at h
  refine cl_astore (lv' := [(6, cl_rf c0 v0), (1, cl_rf c0 x1), (2, .int x2), (4, cl_rf c0 x4), (5, cl_rf c0 x5)]) C.1 C.2.1 dX5_makeOf_125 hl (by decide) (by first | rfl | (cases x1 <;> cases x4 <;> cases x5 <;> rfl)) (fun ls hl_44 => ?_)
  refine cl_aload_n C.1 C.2.1 dX5_makeOf_127 rfl (lv_at hl_44 1 rfl) ?_
  obtain ⟨a_45, rfl, h_47⟩ := nn_some h
  have t_46 := f1 _ rfl
  refine cg_5_199 C G t_46 dX5_makeOf_128 (fun t_48 => ?_)
  have t_48 : (T (a_45 + 9)).1 = 24 := by rw [t_48]
  refine lv_iload_n C.1 C.2.1 dX5_makeOf_131 rfl (lv_at hl_44 2 rfl) ?_
  refine lv_iconst (v := (0:Int32)) C.1 C.2.1 dX5_makeOf_132 (by decide) ?_
  refine cl_aload C.1 C.2.1 dX5_makeOf_133 (lv_at hl_44 3 rfl) ?_
  refine cl_aload C.1 C.2.1 dX5_makeOf_135 (lv_at hl_44 4 rfl) ?_
  refine cl_aload C.1 C.2.1 dX5_makeOf_137 (lv_at hl_44 0 rfl) ?_
  obtain ⟨r_50, σ_49, hq, h_51⟩ := bd2_some h_47
  refine cl_callV (ci := 8) (rest := []) C G rfl t_48 cw_RX5_247 [.int x2, .int (0:Int32), cl_rf c0 x4, cl_rf c0 x5, cl_rf c0 v0] _ (kc_X8_comeInMade l D c0 (by rw [G.1]; exact t_48) hq (by rw [G.1]; exact f4) (by rw [G.1]; exact f5) (by rw [G.1]; exact g0)) (Nat.le_of_ble_eq_true rfl) (Nat.le_of_ble_eq_true rfl) rfl rfl hl_44.1 (Nat.le_of_ble_eq_true rfl) dX5_makeOf_139 (fun T_52 H locs cells slots t_53 hu G_54 => ?_)
  have g0 := g0.up hu (by decide)
  have t_46 := hu.kind t_46 (by decide)
  have f4 := f4.up hu (by decide)
  have f5 := f5.up hu (by decide)
  refine W.eq (g2 := F0 m 142 ls [.int r_50]) rfl ?_
  exact cl_iret ⟨rfl, rfl⟩ rfl C G_54 h_51 dX5_makeOf_142
noncomputable def bc_X5_makeOf_92 (a : Nat) (x1 : (Option Nat)) (x2 : Int32) (x3 : Int32) (x4 : (Option Nat)) (v0 : (Option Nat)) (σ : cl_S) : Option (Int32 × cl_S) := (if x3 < (3:Int32) then bc_X5_makeOf_125 x1 x2 x4 v0 (some 33) σ else nn x1 (fun a_55 => ix (3:Int32) 16 (bd2 (fc_X8_at (a_55 + 9) (σ.1 ((a_55 + 1) + 2) (3:Int32).toNatClampNeg) σ) (fun r_63 σ_62 => bc_X5_makeOf_125 (some a_55) x2 x4 v0 r_63 σ_62))))
set_option maxHeartbeats 4000000 in
theorem wc_X5_makeOf_92 (C : cl_C D p s m args meth c cX5_makeOf 7 (some .int) RX5) {r : Int32} {a : Nat} {x1 : (Option Nat)} {x2 : Int32} {x3 : Int32} {x4 : (Option Nat)} {v0 : (Option Nat)} {σ0 σ σ' : cl_S} {T : Nat → Nat × Nat} {H : Heap} {locs : List Loc} {ls : Array Slot} {cells slots : Nat} (h : bc_X5_makeOf_92 a x1 x2 x3 x4 v0 σ = some (r, σ')) (G : cl_G true D c0 ({ frames := 5, cells := σ0.2.2.2.2.2.1, slots := σ0.2.2.2.2.2.2, locals := 133 }) s σ0.2.2.2.1 T σ H locs cells slots) (ha : (T a).1 = 21) (f1 : cl_RT T x1 22) (f4 : cl_RT T x4 25) (g0 : cl_RT T v0 25) (hl : lv_has ls 7 [(0, .ref (c0 + a)), (1, cl_rf c0 x1), (2, .int x2), (3, .int x3), (4, cl_rf c0 x4)]) : W p l e ({ frames := 5, cells := σ0.2.2.2.2.2.1, slots := σ0.2.2.2.2.2.2, locals := 133 }) s m args below meth c H locs cells slots (MQ below (cl_Q true D c0 (some (.int r)) cl_no σ0 σ') args s (σ0.2.2.2.2.2.1 - σ'.2.2.2.2.2.1) (σ0.2.2.2.2.2.2 - σ'.2.2.2.2.2.2) (cl_A c0 σ0.2.2.2.1 s.heap.size)) (F0 m 92 ls [cl_rf c0 v0]) := by
  unfold bc_X5_makeOf_92 at h
  refine cl_astore (lv' := [(5, cl_rf c0 v0), (0, .ref (c0 + a)), (1, cl_rf c0 x1), (2, .int x2), (3, .int x3), (4, cl_rf c0 x4)]) C.1 C.2.1 dX5_makeOf_92 hl (by decide) (by first | rfl | (cases x1 <;> cases x4 <;> rfl)) (fun ls hl_41 => ?_)
  refine lv_iload_n C.1 C.2.1 dX5_makeOf_94 rfl (lv_at hl_41 4 rfl) ?_
  refine lv_iconst (v := (3:Int32)) C.1 C.2.1 dX5_makeOf_95 (by decide) ?_
  refine lv_icmp_lt (tgt := 118) C.1 C.2.1 dX5_makeOf_96 (by decide) (fun hc => ?_) (fun hc => ?_)
  · rw [if_pos hc] at h
    refine lv_aload_n C.1 C.2.1 dX5_makeOf_118 rfl (lv_at hl_41 1 rfl) ?_
    refine cg_5_51 C G ha dX5_makeOf_119 (fun t_42 => ?_)
    have t_42 : (T 31).1 = 26 := by rw [t_42]
    refine cg_5_83 C G t_42 dX5_makeOf_122 (fun t_43 => ?_)
    have t_43 : (T 33).1 = 25 := by rw [t_43]
    exact wc_X5_makeOf_125 C h G f1 f4 g0 (cl_RTs t_43) (lv_sub hl_41 [2, 3, 5, 0] rfl)
  · rw [if_neg hc] at h
    refine cl_aload_n C.1 C.2.1 dX5_makeOf_99 rfl (lv_at hl_41 2 rfl) ?_
    obtain ⟨a_55, rfl, h_57⟩ := nn_some h
    have t_56 := f1 _ rfl
    refine cg_5_199 C G t_56 dX5_makeOf_100 (fun t_58 => ?_)
    have t_58 : (T (a_55 + 9)).1 = 24 := by rw [t_58]
    refine lv_aload_n C.1 C.2.1 dX5_makeOf_103 rfl (lv_at hl_41 2 rfl) ?_
    refine cg_5_121 C G t_56 dX5_makeOf_104 (fun t_59 => ?_)
    have t_59 : (T (a_55 + 1)).1 = 18 := by rw [t_59]
    refine cg_5_193 C G t_59 dX5_makeOf_107 (fun t_60 => ?_)
    refine lv_iconst (v := (3:Int32)) C.1 C.2.1 dX5_makeOf_110 (by decide) ?_
    obtain ⟨hi, h_61⟩ := ix_some h_57
    refine cl_iald C G t_60 hi dX5_makeOf_111 ?_
    obtain ⟨r_63, σ_62, hq, h_64⟩ := bd2_some h_61
    refine cl_callV (ci := 8) (rest := []) C G rfl t_58 cw_RX5_203 [.int (σ.1 ((a_55 + 1) + 2) (3:Int32).toNatClampNeg)] _ (kc_X8_at l D c0 (by rw [G.1]; exact t_58) hq) (Nat.le_of_ble_eq_true rfl) (Nat.le_of_ble_eq_true rfl) rfl rfl hl_41.1 (Nat.le_of_ble_eq_true rfl) dX5_makeOf_112 (fun T_65 H locs cells slots t_66 hu G_67 => ?_)
    have g0 := g0.up hu (by decide)
    have ha := hu.kind ha (by decide)
    have t_56 := hu.kind t_56 (by decide)
    have f4 := f4.up hu (by decide)
    refine W.eq (g2 := F0 m 115 ls [cl_rf c0 r_63]) rfl ?_
    refine lv_goto (tgt := 125) C.1 C.2.1 dX5_makeOf_115 (by decide) ?_
    exact wc_X5_makeOf_125 C h_64 G_67 (cl_RTs t_56) f4 g0 t_66 (lv_sub hl_41 [2, 3, 5, 0] rfl)
noncomputable def ec_X5_makeOf_8 (a : Nat) (x1 : (Option Nat)) (x2 : Int32) (x3 : Int32) (x4 : Int32) (σ : cl_S) : Option (Int32 × cl_S) := nn x1 (fun a_25 => ix (1:Int32) 16 (bd2 (fc_X8_at (a_25 + 9) (σ.1 ((a_25 + 1) + 2) (1:Int32).toNatClampNeg) σ) (fun r_33 σ_32 => (if x3 < (2:Int32) then bc_X5_makeOf_92 a (some a_25) x2 x3 r_33 (some 33) σ_32 else ix (2:Int32) 16 (bd2 (fc_X8_at (a_25 + 9) (σ_32.1 ((a_25 + 1) + 2) (2:Int32).toNatClampNeg) σ_32) (fun r_73 σ_72 => bc_X5_makeOf_92 a (some a_25) x2 x3 r_33 r_73 σ_72))))))
noncomputable def bc_X5_makeOf_8 (a : Nat) (x1 : (Option Nat)) (x2 : Int32) (x3 : Int32) (x4 : Int32) (σ : cl_S) : Option (Int32 × cl_S) := (lp (fun z : (Int32 × cl_S) => lc_X5_makeOf_8 a x1 x2 x3 z.1 z.2) (x4, σ)).bind (fun y => Sum.elim (fun z => some z) (fun z => ec_X5_makeOf_8 a x1 x2 x3 z.1 z.2) y)
set_option maxHeartbeats 4000000 in
theorem wc_X5_makeOf_8 (C : cl_C D p s m args meth c cX5_makeOf 7 (some .int) RX5) {r : Int32} {a : Nat} {x1 : (Option Nat)} {x2 : Int32} {x3 : Int32} {x4 : Int32} {σ0 σ σ' : cl_S} {T : Nat → Nat × Nat} {H : Heap} {locs : List Loc} {ls : Array Slot} {cells slots : Nat} (h : bc_X5_makeOf_8 a x1 x2 x3 x4 σ = some (r, σ')) (G : cl_G true D c0 ({ frames := 5, cells := σ0.2.2.2.2.2.1, slots := σ0.2.2.2.2.2.2, locals := 133 }) s σ0.2.2.2.1 T σ H locs cells slots) (ha : (T a).1 = 21) (f1 : cl_RT T x1 22) (hl : lv_has ls 7 [(0, .ref (c0 + a)), (1, cl_rf c0 x1), (2, .int x2), (3, .int x3), (4, .int x4)]) : W p l e ({ frames := 5, cells := σ0.2.2.2.2.2.1, slots := σ0.2.2.2.2.2.2, locals := 133 }) s m args below meth c H locs cells slots (MQ below (cl_Q true D c0 (some (.int r)) cl_no σ0 σ') args s (σ0.2.2.2.2.2.1 - σ'.2.2.2.2.2.1) (σ0.2.2.2.2.2.2 - σ'.2.2.2.2.2.2) (cl_A c0 σ0.2.2.2.1 s.heap.size)) (F0 m 8 ls []) := by
  unfold bc_X5_makeOf_8 at h
  obtain ⟨y, hy, h⟩ := bd_some h
  have hE : (Sum.elim (fun z : Int32 × cl_S => z = (r, σ')) (fun z : (Int32 × cl_S) => ∀ (T : Nat → Nat × Nat) (H : Heap) (locs : List Loc) (ls : Array Slot) (cells slots : Nat), cl_G true D c0 ({ frames := 5, cells := σ0.2.2.2.2.2.1, slots := σ0.2.2.2.2.2.2, locals := 133 }) s σ0.2.2.2.1 T z.2 H locs cells slots → (T a).1 = 21 → cl_RT T x1 22 → lv_has ls 7 [(0, .ref (c0 + a)), (1, cl_rf c0 x1), (2, .int x2), (3, .int x3), (4, .int (z.1))] → W p l e ({ frames := 5, cells := σ0.2.2.2.2.2.1, slots := σ0.2.2.2.2.2.2, locals := 133 }) s m args below meth c H locs cells slots (MQ below (cl_Q true D c0 (some (.int r)) cl_no σ0 σ') args s (σ0.2.2.2.2.2.1 - σ'.2.2.2.2.2.1) (σ0.2.2.2.2.2.2 - σ'.2.2.2.2.2.2) (cl_A c0 σ0.2.2.2.1 s.heap.size)) (F0 m 43 ls []))) y := by
    clear hy G ha f1 hl
    cases y with
    | inl z =>
      exact Option.some.inj h
    | inr z =>
      intro T H locs ls cells slots G ha f1 hl
      have h := se_r h
      obtain ⟨x4, σ⟩ := z
      dsimp only at h G ha f1 hl
      unfold ec_X5_makeOf_8 at h
      refine cl_aload_n C.1 C.2.1 dX5_makeOf_43 rfl (lv_at hl 1 rfl) ?_
      obtain ⟨a_25, rfl, h_27⟩ := nn_some h
      have t_26 := f1 _ rfl
      refine cg_5_199 C G t_26 dX5_makeOf_44 (fun t_28 => ?_)
      have t_28 : (T (a_25 + 9)).1 = 24 := by rw [t_28]
      refine lv_aload_n C.1 C.2.1 dX5_makeOf_47 rfl (lv_at hl 1 rfl) ?_
      refine cg_5_121 C G t_26 dX5_makeOf_48 (fun t_29 => ?_)
      have t_29 : (T (a_25 + 1)).1 = 18 := by rw [t_29]
      refine cg_5_193 C G t_29 dX5_makeOf_51 (fun t_30 => ?_)
      refine lv_iconst (v := (1:Int32)) C.1 C.2.1 dX5_makeOf_54 (by decide) ?_
      obtain ⟨hi, h_31⟩ := ix_some h_27
      refine cl_iald C G t_30 hi dX5_makeOf_55 ?_
      obtain ⟨r_33, σ_32, hq, h_34⟩ := bd2_some h_31
      refine cl_callV (ci := 8) (rest := []) C G rfl t_28 cw_RX5_203 [.int (σ.1 ((a_25 + 1) + 2) (1:Int32).toNatClampNeg)] _ (kc_X8_at l D c0 (by rw [G.1]; exact t_28) hq) (Nat.le_of_ble_eq_true rfl) (Nat.le_of_ble_eq_true rfl) rfl rfl hl.1 (Nat.le_of_ble_eq_true rfl) dX5_makeOf_56 (fun T_35 H locs cells slots t_36 hu G_37 => ?_)
      have ha := hu.kind ha (by decide)
      have t_26 := hu.kind t_26 (by decide)
      refine W.eq (g2 := F0 m 59 ls [cl_rf c0 r_33]) rfl ?_
      refine cl_astore (lv' := [(4, cl_rf c0 r_33), (0, .ref (c0 + a)), (1, .ref (c0 + a_25)), (2, .int x2), (3, .int x3)]) C.1 C.2.1 dX5_makeOf_59 hl (by decide) rfl (fun ls hl_38 => ?_)
      refine lv_iload_n C.1 C.2.1 dX5_makeOf_61 rfl (lv_at hl_38 4 rfl) ?_
      refine lv_iconst (v := (2:Int32)) C.1 C.2.1 dX5_makeOf_62 (by decide) ?_
      refine lv_icmp_lt (tgt := 85) C.1 C.2.1 dX5_makeOf_63 (by decide) (fun hc => ?_) (fun hc => ?_)
      · rw [if_pos hc] at h_34
        refine lv_aload_n C.1 C.2.1 dX5_makeOf_85 rfl (lv_at hl_38 1 rfl) ?_
        refine cg_5_51 C G_37 ha dX5_makeOf_86 (fun t_39 => ?_)
        have t_39 : (T_35 31).1 = 26 := by rw [t_39]
        refine cg_5_83 C G_37 t_39 dX5_makeOf_89 (fun t_40 => ?_)
        have t_40 : (T_35 33).1 = 25 := by rw [t_40]
        exact wc_X5_makeOf_92 C h_34 G_37 ha (cl_RTs t_26) t_36 (cl_RTs t_40) (lv_sub hl_38 [1, 2, 3, 4, 0] rfl)
      · rw [if_neg hc] at h_34
        refine lv_aload_n C.1 C.2.1 dX5_makeOf_66 rfl (lv_at hl_38 2 rfl) ?_
        refine cg_5_199 C G_37 t_26 dX5_makeOf_67 (fun t_68 => ?_)
        have t_68 : (T_35 (a_25 + 9)).1 = 24 := by rw [t_68]
        refine lv_aload_n C.1 C.2.1 dX5_makeOf_70 rfl (lv_at hl_38 2 rfl) ?_
        refine cg_5_121 C G_37 t_26 dX5_makeOf_71 (fun t_69 => ?_)
        have t_69 : (T_35 (a_25 + 1)).1 = 18 := by rw [t_69]
        refine cg_5_193 C G_37 t_69 dX5_makeOf_74 (fun t_70 => ?_)
        refine lv_iconst (v := (2:Int32)) C.1 C.2.1 dX5_makeOf_77 (by decide) ?_
        obtain ⟨hi, h_71⟩ := ix_some h_34
        refine cl_iald C G_37 t_70 hi dX5_makeOf_78 ?_
        obtain ⟨r_73, σ_72, hq, h_74⟩ := bd2_some h_71
        refine cl_callV (ci := 8) (rest := []) C G_37 rfl t_68 cw_RX5_203 [.int (σ_32.1 ((a_25 + 1) + 2) (2:Int32).toNatClampNeg)] _ (kc_X8_at l D c0 (by rw [G_37.1]; exact t_68) hq) (Nat.le_of_ble_eq_true rfl) (Nat.le_of_ble_eq_true rfl) rfl rfl hl_38.1 (Nat.le_of_ble_eq_true rfl) dX5_makeOf_79 (fun T_75 H locs cells slots t_76 hu G_77 => ?_)
        have t_36 := t_36.up hu (by decide)
        have ha := hu.kind ha (by decide)
        have t_26 := hu.kind t_26 (by decide)
        refine W.eq (g2 := F0 m 82 ls [cl_rf c0 r_73]) rfl ?_
        refine lv_goto (tgt := 92) C.1 C.2.1 dX5_makeOf_82 (by decide) ?_
        exact wc_X5_makeOf_92 C h_74 G_77 ha (cl_RTs t_26) t_36 t_76 (lv_sub hl_38 [1, 2, 3, 4, 0] rfl)
  refine lp_recE (fun z : (Int32 × cl_S) => ∀ (T : Nat → Nat × Nat) (H : Heap) (locs : List Loc) (ls : Array Slot) (cells slots : Nat), cl_G true D c0 ({ frames := 5, cells := σ0.2.2.2.2.2.1, slots := σ0.2.2.2.2.2.2, locals := 133 }) s σ0.2.2.2.1 T z.2 H locs cells slots → (T a).1 = 21 → cl_RT T x1 22 → lv_has ls 7 [(0, .ref (c0 + a)), (1, cl_rf c0 x1), (2, .int x2), (3, .int x3), (4, .int (z.1))] → W p l e ({ frames := 5, cells := σ0.2.2.2.2.2.1, slots := σ0.2.2.2.2.2.2, locals := 133 }) s m args below meth c H locs cells slots (MQ below (cl_Q true D c0 (some (.int r)) cl_no σ0 σ') args s (σ0.2.2.2.2.2.1 - σ'.2.2.2.2.2.1) (σ0.2.2.2.2.2.2 - σ'.2.2.2.2.2.2) (cl_A c0 σ0.2.2.2.1 s.heap.size)) (F0 m 8 ls [])) (Sum.elim (fun z : Int32 × cl_S => z = (r, σ')) (fun z : (Int32 × cl_S) => ∀ (T : Nat → Nat × Nat) (H : Heap) (locs : List Loc) (ls : Array Slot) (cells slots : Nat), cl_G true D c0 ({ frames := 5, cells := σ0.2.2.2.2.2.1, slots := σ0.2.2.2.2.2.2, locals := 133 }) s σ0.2.2.2.1 T z.2 H locs cells slots → (T a).1 = 21 → cl_RT T x1 22 → lv_has ls 7 [(0, .ref (c0 + a)), (1, cl_rf c0 x1), (2, .int x2), (3, .int x3), (4, .int (z.1))] → W p l e ({ frames := 5, cells := σ0.2.2.2.2.2.1, slots := σ0.2.2.2.2.2.2, locals := 133 }) s m args below meth c H locs cells slots (MQ below (cl_Q true D c0 (some (.int r)) cl_no σ0 σ') args s (σ0.2.2.2.2.2.1 - σ'.2.2.2.2.2.1) (σ0.2.2.2.2.2.2 - σ'.2.2.2.2.2.2) (cl_A c0 σ0.2.2.2.1 s.heap.size)) (F0 m 43 ls []))) ?_ _ _ hy hE _ _ _ _ _ _ G ha f1 hl
  clear hE hy G ha f1 hl h
  intro z o h hP T H locs ls cells slots G ha f1 hl
  obtain ⟨x4, σ⟩ := z
  dsimp only at h G ha f1 hl
  unfold lc_X5_makeOf_8 at h
  refine lv_iload C.1 C.2.1 dX5_makeOf_8 (lv_at hl 4 rfl) ?_
  refine lv_iload_n C.1 C.2.1 dX5_makeOf_10 rfl (lv_at hl 3 rfl) ?_
  refine lv_icmp_gt (tgt := 43) C.1 C.2.1 dX5_makeOf_11 (by decide) (fun hc => ?_) (fun hc => ?_)
  · rw [if_pos hc] at h
    cases h
    exact hP _ _ _ _ _ _ G ha f1 (lv_sub hl [0, 1, 2, 3, 4] rfl)
  · rw [if_neg hc] at h
    refine cl_aload_n C.1 C.2.1 dX5_makeOf_14 rfl (lv_at hl 1 rfl) ?_
    obtain ⟨a_9, rfl, h_11⟩ := nn_some h
    have t_10 := f1 _ rfl
    refine cg_5_199 C G t_10 dX5_makeOf_15 (fun t_12 => ?_)
    have t_12 : (T (a_9 + 9)).1 = 24 := by rw [t_12]
    refine lv_aload_n C.1 C.2.1 dX5_makeOf_18 rfl (lv_at hl 1 rfl) ?_
    refine cg_5_121 C G t_10 dX5_makeOf_19 (fun t_13 => ?_)
    have t_13 : (T (a_9 + 1)).1 = 18 := by rw [t_13]
    refine cg_5_193 C G t_13 dX5_makeOf_22 (fun t_14 => ?_)
    refine lv_iload C.1 C.2.1 dX5_makeOf_25 (lv_at hl 4 rfl) ?_
    obtain ⟨hi, h_15⟩ := ix_some h_11
    refine cl_iald C G t_14 hi dX5_makeOf_27 ?_
    obtain ⟨r_17, σ_16, hq, h_18⟩ := bd2_some h_15
    refine cl_callV (ci := 8) (rest := []) C G rfl t_12 cw_RX5_335 [.int (σ.1 ((a_9 + 1) + 2) x4.toNatClampNeg)] _ (kc_X8_has l D c0 (by rw [G.1]; exact t_12) hq) (Nat.le_of_ble_eq_true rfl) (Nat.le_of_ble_eq_true rfl) rfl rfl hl.1 (Nat.le_of_ble_eq_true rfl) dX5_makeOf_28 (fun T_19 H locs cells slots t_20 hu G_21 => ?_)
    have ha := hu.kind ha (by decide)
    have t_10 := hu.kind t_10 (by decide)
    refine W.eq (g2 := F0 m 31 ls [.int r_17]) rfl ?_
    refine lv_if_ne (tgt := 37) C.1 C.2.1 dX5_makeOf_31 (by decide) (fun hc => ?_) (fun hc => ?_)
    · rw [if_neg hc] at h_18
      refine vl_ex h_18 (fun x4_22 ey h_23 => ?_)
      refine lv_iinc (v := x4_22) (lv' := [(4, .int x4_22), (0, .ref (c0 + a)), (1, .ref (c0 + a_9)), (2, .int x2), (3, .int x3)]) C.1 C.2.1 dX5_makeOf_37 hl (k := 4) rfl (by rw [ey]; rfl) (by decide) rfl (fun ls hl_24 => ?_)
      refine lv_goto (tgt := 8) C.1 C.2.1 dX5_makeOf_40 (by decide) ?_
      cases h_23
      exact hP _ _ _ _ _ _ G_21 ha (cl_RTs t_10) (lv_sub hl_24 [1, 2, 3, 4, 0] rfl)
    · rw [if_pos hc] at h_18
      refine lv_bipush (v := (-2:Int32)) C.1 C.2.1 dX5_makeOf_34 (by decide) ?_
      cases h_18
      have hP := congrArg some hP
      exact cl_iret ⟨rfl, rfl⟩ rfl C G_21 hP dX5_makeOf_36
noncomputable def bc_X5_makeOf_0 (a : Nat) (x1 : (Option Nat)) (x2 : Int32) (σ : cl_S) : Option (Int32 × cl_S) := bd2 (fc_X10_parts x2 σ) (fun r_2 σ_1 => bc_X5_makeOf_8 a x1 x2 r_2 (1:Int32) σ_1)
set_option maxHeartbeats 4000000 in
theorem wc_X5_makeOf_0 (C : cl_C D p s m args meth c cX5_makeOf 7 (some .int) RX5) {r : Int32} {a : Nat} {x1 : (Option Nat)} {x2 : Int32} {σ0 σ σ' : cl_S} {T : Nat → Nat × Nat} {H : Heap} {locs : List Loc} {ls : Array Slot} {cells slots : Nat} (h : bc_X5_makeOf_0 a x1 x2 σ = some (r, σ')) (G : cl_G true D c0 ({ frames := 5, cells := σ0.2.2.2.2.2.1, slots := σ0.2.2.2.2.2.2, locals := 133 }) s σ0.2.2.2.1 T σ H locs cells slots) (ha : (T a).1 = 21) (f1 : cl_RT T x1 22) (hl : lv_has ls 7 [(0, .ref (c0 + a)), (1, cl_rf c0 x1), (2, .int x2)]) : W p l e ({ frames := 5, cells := σ0.2.2.2.2.2.1, slots := σ0.2.2.2.2.2.2, locals := 133 }) s m args below meth c H locs cells slots (MQ below (cl_Q true D c0 (some (.int r)) cl_no σ0 σ') args s (σ0.2.2.2.2.2.1 - σ'.2.2.2.2.2.1) (σ0.2.2.2.2.2.2 - σ'.2.2.2.2.2.2) (cl_A c0 σ0.2.2.2.1 s.heap.size)) (F0 m 0 ls []) := by
  unfold bc_X5_makeOf_0 at h
  refine lv_iload_n C.1 C.2.1 dX5_makeOf_0 rfl (lv_at hl 2 rfl) ?_
  obtain ⟨r_2, σ_1, hq, h_3⟩ := bd2_some h
  refine cl_callS (rest := []) C G cw_RX5_343 [.int x2] _ (kc_X10_parts l D c0 hq) (Nat.le_of_ble_eq_true rfl) (Nat.le_of_ble_eq_true rfl) rfl rfl hl.1 (Nat.le_of_ble_eq_true rfl) dX5_makeOf_1 (fun T_4 H locs cells slots t_5 hu G_6 => ?_)
  have ha := hu.kind ha (by decide)
  have f1 := f1.up hu (by decide)
  refine W.eq (g2 := F0 m 4 ls [.int r_2]) rfl ?_
  refine lv_istore_n (lv' := [(3, .int r_2), (0, .ref (c0 + a)), (1, cl_rf c0 x1), (2, .int x2)]) C.1 C.2.1 dX5_makeOf_4 rfl hl (by decide) (by first | rfl | (cases x1 <;> rfl)) (fun ls hl_7 => ?_)
  refine lv_iconst (v := (1:Int32)) C.1 C.2.1 dX5_makeOf_5 (by decide) ?_
  refine lv_istore (lv' := [(4, .int (1:Int32)), (3, .int r_2), (0, .ref (c0 + a)), (1, cl_rf c0 x1), (2, .int x2)]) C.1 C.2.1 dX5_makeOf_6 hl_7 (by decide) (by first | rfl | (cases x1 <;> rfl)) (fun ls hl_8 => ?_)
  exact wc_X5_makeOf_8 C h_3 G_6 ha f1 (lv_sub hl_8 [2, 3, 4, 1, 0] rfl)
noncomputable def fc_X5_makeOf (a : Nat) (x1 : (Option Nat)) (x2 : Int32) (σ : cl_S) : Option (Int32 × cl_S) := bc_X5_makeOf_0 a x1 x2 σ
theorem kc_X5_makeOf (l : Launch) (D : cl_D) (c0 : Nat) {r : Int32} {a : Nat} {x1 : (Option Nat)} {x2 : Int32} {σ σ' : cl_S} (ha : (σ.2.2.2.1 a).1 = 21) (h : fc_X5_makeOf a x1 x2 σ = some (r, σ')) (f1 : cl_RT σ.2.2.2.1 x1 22) : cl_Met true l D c0 yX5_makeOf cX5_makeOf 7 (some .int) 5 133 [.ref (c0 + a), cl_rf c0 x1, .int x2] σ (some (.int r)) cl_no σ' :=
  by cases x1 <;> exact cl_of (by decide) (Nat.le_of_ble_eq_true rfl) (fun p e s m args below meth c ls C hn G hl => wc_X5_makeOf_0 C h G ha f1 hl)
abbrev cX10_newSecret : ByteArray := prog_12_method_9_code
def yX10_newSecret : MethodName := ⟨RX10, "newSecret", "()LPartHouse$Term;"⟩
theorem dX10_newSecret_0 : decode cX10_newSecret 0 = .ok (.aload_n 0, 1) := by decide +kernel
theorem dX10_newSecret_1 : decode cX10_newSecret 1 = .ok (.iconst 2, 1) := by decide +kernel
theorem dX10_newSecret_2 : decode cX10_newSecret 2 = .ok (.aload_n 0, 1) := by decide +kernel
theorem dX10_newSecret_3 : decode cX10_newSecret 3 = .ok (.getfield 108, 3) := by decide +kernel
theorem dX10_newSecret_6 : decode cX10_newSecret 6 = .ok (.aload_n 0, 1) := by decide +kernel
theorem dX10_newSecret_7 : decode cX10_newSecret 7 = .ok (.getfield 20, 3) := by decide +kernel
theorem dX10_newSecret_10 : decode cX10_newSecret 10 = .ok (.aload_n 0, 1) := by decide +kernel
theorem dX10_newSecret_11 : decode cX10_newSecret 11 = .ok (.getfield 20, 3) := by decide +kernel
theorem dX10_newSecret_14 : decode cX10_newSecret 14 = .ok (.aload_n 0, 1) := by decide +kernel
theorem dX10_newSecret_15 : decode cX10_newSecret 15 = .ok (.getfield 20, 3) := by decide +kernel
theorem dX10_newSecret_18 : decode cX10_newSecret 18 = .ok (.invokevirtual 105, 3) := by decide +kernel
theorem dX10_newSecret_21 : decode cX10_newSecret 21 = .ok (.astore_n 1, 1) := by decide +kernel
theorem dX10_newSecret_22 : decode cX10_newSecret 22 = .ok (.aload_n 0, 1) := by decide +kernel
theorem dX10_newSecret_23 : decode cX10_newSecret 23 = .ok (.dup, 1) := by decide +kernel
theorem dX10_newSecret_24 : decode cX10_newSecret 24 = .ok (.getfield 108, 3) := by decide +kernel
theorem dX10_newSecret_27 : decode cX10_newSecret 27 = .ok (.iconst 1, 1) := by decide +kernel
theorem dX10_newSecret_28 : decode cX10_newSecret 28 = .ok (.iadd, 1) := by decide +kernel
theorem dX10_newSecret_29 : decode cX10_newSecret 29 = .ok (.putfield 108, 3) := by decide +kernel
theorem dX10_newSecret_32 : decode cX10_newSecret 32 = .ok (.aload_n 1, 1) := by decide +kernel
theorem dX10_newSecret_33 : decode cX10_newSecret 33 = .ok (.areturn, 1) := by decide +kernel
theorem cc_X10_newSecret : Cond.code yX10_newSecret cX10_newSecret 2 (some (.object "PartHouse$Term")) ∈ rf_tb := rf_at 289 (by decide +kernel) (by decide +kernel)
theorem cw_RX10_105 : cl_wV RX10 RX10 yX10_add cX10_add 8 (some (.object "PartHouse$Term")) 105 5 := ⟨⟨rf_at 290 (by decide +kernel) (by decide +kernel), rf_at 291 (by decide +kernel) (by decide +kernel), rf_at 292 (by decide +kernel) (by decide +kernel), cc_X10_add, rf_at 9 (by decide +kernel) (by decide +kernel)⟩, ⟨by decide, by decide, by decide +kernel⟩⟩
noncomputable def bc_X10_newSecret_0 (a : Nat) (σ : cl_S) : Option ((Option Nat) × cl_S) := bd2 (fc_X10_add a (2:Int32) (σ.1 a 3) (some 33) (some 33) (some 33) σ) (fun r_5 σ_4 => vl (cl_w σ_4 a 3 ((σ_4.1 a 3) + (1:Int32))) (fun σ_11 => some (r_5, σ_11)))
set_option maxHeartbeats 4000000 in
theorem wc_X10_newSecret_0 (C : cl_C D p s m args meth c cX10_newSecret 2 (some (.object "PartHouse$Term")) RX10) {r : (Option Nat)} {a : Nat} {σ0 σ σ' : cl_S} {T : Nat → Nat × Nat} {H : Heap} {locs : List Loc} {ls : Array Slot} {cells slots : Nat} (h : bc_X10_newSecret_0 a σ = some (r, σ')) (G : cl_G true D c0 ({ frames := 4, cells := σ0.2.2.2.2.2.1, slots := σ0.2.2.2.2.2.2, locals := 107 }) s σ0.2.2.2.1 T σ H locs cells slots) (ha : (T a).1 = 26) (hl : lv_has ls 2 [(0, .ref (c0 + a))]) : W p l e ({ frames := 4, cells := σ0.2.2.2.2.2.1, slots := σ0.2.2.2.2.2.2, locals := 107 }) s m args below meth c H locs cells slots (MQ below (cl_Q true D c0 (some (cl_rf c0 r)) (fun T1 => cl_RT T1 r 25) σ0 σ') args s (σ0.2.2.2.2.2.1 - σ'.2.2.2.2.2.1) (σ0.2.2.2.2.2.2 - σ'.2.2.2.2.2.2) (cl_A c0 σ0.2.2.2.1 s.heap.size)) (F0 m 0 ls []) := by
  unfold bc_X10_newSecret_0 at h
  refine lv_aload_n C.1 C.2.1 dX10_newSecret_0 rfl (lv_at hl 0 rfl) ?_
  refine lv_iconst (v := (2:Int32)) C.1 C.2.1 dX10_newSecret_1 (by decide) ?_
  refine lv_aload_n C.1 C.2.1 dX10_newSecret_2 rfl (lv_at hl 0 rfl) ?_
  refine cg_10_108 C G ha dX10_newSecret_3 ?_
  refine lv_aload_n C.1 C.2.1 dX10_newSecret_6 rfl (lv_at hl 0 rfl) ?_
  refine cg_10_20 C G ha dX10_newSecret_7 (fun t_1 => ?_)
  have t_1 : (T 33).1 = 25 := by rw [t_1]
  refine lv_aload_n C.1 C.2.1 dX10_newSecret_10 rfl (lv_at hl 0 rfl) ?_
  refine cg_10_20 C G ha dX10_newSecret_11 (fun t_2 => ?_)
  have t_2 : (T 33).1 = 25 := by rw [t_2]
  refine lv_aload_n C.1 C.2.1 dX10_newSecret_14 rfl (lv_at hl 0 rfl) ?_
  refine cg_10_20 C G ha dX10_newSecret_15 (fun t_3 => ?_)
  have t_3 : (T 33).1 = 25 := by rw [t_3]
  obtain ⟨r_5, σ_4, hq, h_6⟩ := bd2_some h
  refine cl_callV (ci := 10) (rest := []) C G rfl ha cw_RX10_105 [.int (2:Int32), .int (σ.1 a 3), .ref (c0 + 33), .ref (c0 + 33), .ref (c0 + 33)] _ (kc_X10_add l D c0 (by rw [G.1]; exact ha) hq (by rw [G.1]; exact (cl_RTs t_1)) (by rw [G.1]; exact (cl_RTs t_2)) (by rw [G.1]; exact (cl_RTs t_3))) (Nat.le_of_ble_eq_true rfl) (Nat.le_of_ble_eq_true rfl) rfl rfl hl.1 (Nat.le_of_ble_eq_true rfl) dX10_newSecret_18 (fun T_7 H locs cells slots t_8 hu G_9 => ?_)
  have ha := hu.kind ha (by decide)
  refine W.eq (g2 := F0 m 21 ls [cl_rf c0 r_5]) rfl ?_
  refine cl_astore_n (lv' := [(1, cl_rf c0 r_5), (0, .ref (c0 + a))]) C.1 C.2.1 dX10_newSecret_21 rfl hl (by decide) rfl (fun ls hl_10 => ?_)
  refine lv_aload_n C.1 C.2.1 dX10_newSecret_22 rfl (lv_at hl_10 1 rfl) ?_
  refine lv_dup C.1 C.2.1 dX10_newSecret_23 rfl ?_
  refine cg_10_108 C G_9 ha dX10_newSecret_24 ?_
  refine lv_iconst (v := (1:Int32)) C.1 C.2.1 dX10_newSecret_27 (by decide) ?_
  refine lv_iadd C.1 C.2.1 dX10_newSecret_28 ?_
  refine cp_10_108 C G_9 ha dX10_newSecret_29 (fun H locs G_12 => ?_)
  refine cl_nm G_12 h_6 (fun σ_11 G_13 h_14 => ?_)
  refine cl_aload_n C.1 C.2.1 dX10_newSecret_32 rfl (lv_at hl_10 0 rfl) ?_
  exact cl_aret (v := r_5) ⟨rfl, rfl⟩ rfl C G_13 h_14 (by first | exact Or.inl ⟨_, rfl⟩ | exact Or.inr ⟨_, rfl⟩) t_8 dX10_newSecret_33
noncomputable def fc_X10_newSecret (a : Nat) (σ : cl_S) : Option ((Option Nat) × cl_S) := bc_X10_newSecret_0 a σ
theorem kc_X10_newSecret (l : Launch) (D : cl_D) (c0 : Nat) {r : (Option Nat)} {a : Nat} {σ σ' : cl_S} (ha : (σ.2.2.2.1 a).1 = 26) (h : fc_X10_newSecret a σ = some (r, σ')) : cl_Met true l D c0 yX10_newSecret cX10_newSecret 2 (some (.object "PartHouse$Term")) 4 107 [.ref (c0 + a)] σ (some (cl_rf c0 r)) (fun T1 => cl_RT T1 r 25) σ' :=
  cl_of (by decide) (Nat.le_of_ble_eq_true rfl) (fun p e s m args below meth c ls C hn G hl => wc_X10_newSecret_0 C h G ha hl)
abbrev cX6_askSecret : ByteArray := prog_8_method_9_code
def yX6_askSecret : MethodName := ⟨RX6, "askSecret", "()I"⟩
theorem dX6_askSecret_0 : decode cX6_askSecret 0 = .ok (.aload_n 0, 1) := by decide +kernel
theorem dX6_askSecret_1 : decode cX6_askSecret 1 = .ok (.getfield 50, 3) := by decide +kernel
theorem dX6_askSecret_4 : decode cX6_askSecret 4 = .ok (.invokevirtual 108, 3) := by decide +kernel
theorem dX6_askSecret_7 : decode cX6_askSecret 7 = .ok (.ifCond .ne 12, 3) := by decide +kernel
theorem dX6_askSecret_10 : decode cX6_askSecret 10 = .ok (.aload_n 0, 1) := by decide +kernel
theorem dX6_askSecret_11 : decode cX6_askSecret 11 = .ok (.getfield 88, 3) := by decide +kernel
theorem dX6_askSecret_14 : decode cX6_askSecret 14 = .ok (.bipush 100, 2) := by decide +kernel
theorem dX6_askSecret_16 : decode cX6_askSecret 16 = .ok (.if_icmp .lt 6, 3) := by decide +kernel
theorem dX6_askSecret_19 : decode cX6_askSecret 19 = .ok (.bipush (-4), 2) := by decide +kernel
theorem dX6_askSecret_21 : decode cX6_askSecret 21 = .ok (.ireturn, 1) := by decide +kernel
theorem dX6_askSecret_22 : decode cX6_askSecret 22 = .ok (.aload_n 0, 1) := by decide +kernel
theorem dX6_askSecret_23 : decode cX6_askSecret 23 = .ok (.getfield 88, 3) := by decide +kernel
theorem dX6_askSecret_26 : decode cX6_askSecret 26 = .ok (.aload_n 0, 1) := by decide +kernel
theorem dX6_askSecret_27 : decode cX6_askSecret 27 = .ok (.getfield 85, 3) := by decide +kernel
theorem dX6_askSecret_30 : decode cX6_askSecret 30 = .ok (.if_icmp .lt 29, 3) := by decide +kernel
theorem dX6_askSecret_33 : decode cX6_askSecret 33 = .ok (.aload_n 0, 1) := by decide +kernel
theorem dX6_askSecret_34 : decode cX6_askSecret 34 = .ok (.getfield 34, 3) := by decide +kernel
theorem dX6_askSecret_37 : decode cX6_askSecret 37 = .ok (.aload_n 0, 1) := by decide +kernel
theorem dX6_askSecret_38 : decode cX6_askSecret 38 = .ok (.getfield 88, 3) := by decide +kernel
theorem dX6_askSecret_41 : decode cX6_askSecret 41 = .ok (.aload_n 0, 1) := by decide +kernel
theorem dX6_askSecret_42 : decode cX6_askSecret 42 = .ok (.getfield 37, 3) := by decide +kernel
theorem dX6_askSecret_45 : decode cX6_askSecret 45 = .ok (.invokevirtual 112, 3) := by decide +kernel
theorem dX6_askSecret_48 : decode cX6_askSecret 48 = .ok (.aastore, 1) := by decide +kernel
theorem dX6_askSecret_49 : decode cX6_askSecret 49 = .ok (.aload_n 0, 1) := by decide +kernel
theorem dX6_askSecret_50 : decode cX6_askSecret 50 = .ok (.aload_n 0, 1) := by decide +kernel
theorem dX6_askSecret_51 : decode cX6_askSecret 51 = .ok (.getfield 88, 3) := by decide +kernel
theorem dX6_askSecret_54 : decode cX6_askSecret 54 = .ok (.iconst 1, 1) := by decide +kernel
theorem dX6_askSecret_55 : decode cX6_askSecret 55 = .ok (.iadd, 1) := by decide +kernel
theorem dX6_askSecret_56 : decode cX6_askSecret 56 = .ok (.putfield 85, 3) := by decide +kernel
theorem dX6_askSecret_59 : decode cX6_askSecret 59 = .ok (.aload_n 0, 1) := by decide +kernel
theorem dX6_askSecret_60 : decode cX6_askSecret 60 = .ok (.dup, 1) := by decide +kernel
theorem dX6_askSecret_61 : decode cX6_askSecret 61 = .ok (.getfield 88, 3) := by decide +kernel
theorem dX6_askSecret_64 : decode cX6_askSecret 64 = .ok (.iconst 1, 1) := by decide +kernel
theorem dX6_askSecret_65 : decode cX6_askSecret 65 = .ok (.iadd, 1) := by decide +kernel
theorem dX6_askSecret_66 : decode cX6_askSecret 66 = .ok (.putfield 88, 3) := by decide +kernel
theorem dX6_askSecret_69 : decode cX6_askSecret 69 = .ok (.aload_n 0, 1) := by decide +kernel
theorem dX6_askSecret_70 : decode cX6_askSecret 70 = .ok (.getfield 50, 3) := by decide +kernel
theorem dX6_askSecret_73 : decode cX6_askSecret 73 = .ok (.aload_n 0, 1) := by decide +kernel
theorem dX6_askSecret_74 : decode cX6_askSecret 74 = .ok (.getfield 34, 3) := by decide +kernel
theorem dX6_askSecret_77 : decode cX6_askSecret 77 = .ok (.aload_n 0, 1) := by decide +kernel
theorem dX6_askSecret_78 : decode cX6_askSecret 78 = .ok (.getfield 88, 3) := by decide +kernel
theorem dX6_askSecret_81 : decode cX6_askSecret 81 = .ok (.iconst 1, 1) := by decide +kernel
theorem dX6_askSecret_82 : decode cX6_askSecret 82 = .ok (.isub, 1) := by decide +kernel
theorem dX6_askSecret_83 : decode cX6_askSecret 83 = .ok (.aaload, 1) := by decide +kernel
theorem dX6_askSecret_84 : decode cX6_askSecret 84 = .ok (.invokevirtual 104, 3) := by decide +kernel
theorem dX6_askSecret_87 : decode cX6_askSecret 87 = .ok (.ireturn, 1) := by decide +kernel
theorem cc_X6_askSecret : Cond.code yX6_askSecret cX6_askSecret 1 (some .int) ∈ rf_tb := rf_at 1253 (by decide +kernel) (by decide +kernel)
theorem cw_RX6_108 : cl_wV RX6 RX8 yX8_isFull cX8_isFull 1 (some .boolean) 108 0 := ⟨⟨rf_at 1254 (by decide +kernel) (by decide +kernel), rf_at 1222 (by decide +kernel) (by decide +kernel), rf_at 1223 (by decide +kernel) (by decide +kernel), cc_X8_isFull, rf_at 11 (by decide +kernel) (by decide +kernel)⟩, ⟨by decide, by decide, by decide +kernel⟩⟩
theorem cw_RX6_112 : cl_wV RX6 RX10 yX10_newSecret cX10_newSecret 2 (some (.object "PartHouse$Term")) 112 0 := ⟨⟨rf_at 1255 (by decide +kernel) (by decide +kernel), rf_at 287 (by decide +kernel) (by decide +kernel), rf_at 288 (by decide +kernel) (by decide +kernel), cc_X10_newSecret, rf_at 9 (by decide +kernel) (by decide +kernel)⟩, ⟨by decide, by decide, by decide +kernel⟩⟩
noncomputable def bc_X6_askSecret_59 (a : Nat) (σ : cl_S) : Option (Int32 × cl_S) := vl (cl_w σ a 13 ((σ.1 a 13) + (1:Int32))) (fun σ_8 => ix ((σ_8.1 a 13) - (1:Int32)) 100 (vl (σ_8.2.2.1 (a + 8) ((σ_8.1 a 13) - (1:Int32)).toNatClampNeg) (fun r_16 => bd2 (fc_X8_comeIn (a + 9) r_16 σ_8) (fun r_20 σ_19 => some (r_20, σ_19)))))
set_option maxHeartbeats 4000000 in
theorem wc_X6_askSecret_59 (C : cl_C D p s m args meth c cX6_askSecret 1 (some .int) RX6) {r : Int32} {a : Nat} {σ0 σ σ' : cl_S} {T : Nat → Nat × Nat} {H : Heap} {locs : List Loc} {ls : Array Slot} {cells slots : Nat} (h : bc_X6_askSecret_59 a σ = some (r, σ')) (G : cl_G true D c0 ({ frames := 5, cells := σ0.2.2.2.2.2.1, slots := σ0.2.2.2.2.2.2, locals := 128 }) s σ0.2.2.2.1 T σ H locs cells slots) (ha : (T a).1 = 22) (hl : lv_has ls 1 [(0, .ref (c0 + a))]) : W p l e ({ frames := 5, cells := σ0.2.2.2.2.2.1, slots := σ0.2.2.2.2.2.2, locals := 128 }) s m args below meth c H locs cells slots (MQ below (cl_Q true D c0 (some (.int r)) cl_no σ0 σ') args s (σ0.2.2.2.2.2.1 - σ'.2.2.2.2.2.1) (σ0.2.2.2.2.2.2 - σ'.2.2.2.2.2.2) (cl_A c0 σ0.2.2.2.1 s.heap.size)) (F0 m 59 ls []) := by
  unfold bc_X6_askSecret_59 at h
  refine lv_aload_n C.1 C.2.1 dX6_askSecret_59 rfl (lv_at hl 0 rfl) ?_
  refine lv_dup C.1 C.2.1 dX6_askSecret_60 rfl ?_
  refine cg_6_88 C G ha dX6_askSecret_61 ?_
  refine lv_iconst (v := (1:Int32)) C.1 C.2.1 dX6_askSecret_64 (by decide) ?_
  refine lv_iadd C.1 C.2.1 dX6_askSecret_65 ?_
  refine cp_6_88 C G ha dX6_askSecret_66 (fun H locs G_9 => ?_)
  refine cl_nm G_9 h (fun σ_8 G_10 h_11 => ?_)
  refine lv_aload_n C.1 C.2.1 dX6_askSecret_69 rfl (lv_at hl 0 rfl) ?_
  refine cg_6_50 C G_10 ha dX6_askSecret_70 (fun t_12 => ?_)
  have t_12 : (T (a + 9)).1 = 24 := by rw [t_12]
  refine lv_aload_n C.1 C.2.1 dX6_askSecret_73 rfl (lv_at hl 0 rfl) ?_
  refine cg_6_34 C G_10 ha dX6_askSecret_74 (fun t_13 => ?_)
  refine lv_aload_n C.1 C.2.1 dX6_askSecret_77 rfl (lv_at hl 0 rfl) ?_
  refine cg_6_88 C G_10 ha dX6_askSecret_78 ?_
  refine lv_iconst (v := (1:Int32)) C.1 C.2.1 dX6_askSecret_81 (by decide) ?_
  refine lv_isub C.1 C.2.1 dX6_askSecret_82 ?_
  obtain ⟨hi, h_14⟩ := ix_some h_11
  refine cl_aald C G_10 t_13 (by decide) (by decide) rfl hi dX6_askSecret_83 (fun t_15 => ?_)
  refine vt_r (K := 25) t_15 h_14 (fun r_16 t_17 h_18 => ?_)
  obtain ⟨r_20, σ_19, hq, h_21⟩ := bd2_some h_18
  refine cl_callV (ci := 8) (rest := []) C G_10 rfl t_12 cw_RX6_104 [cl_rf c0 r_16] _ (kc_X8_comeIn l D c0 (by rw [G_10.1]; exact t_12) hq (by rw [G_10.1]; exact t_17)) (Nat.le_of_ble_eq_true rfl) (Nat.le_of_ble_eq_true rfl) rfl rfl hl.1 (Nat.le_of_ble_eq_true rfl) dX6_askSecret_84 (fun T_22 H locs cells slots t_23 hu G_24 => ?_)
  have ha := hu.kind ha (by decide)
  refine W.eq (g2 := F0 m 87 ls [.int r_20]) rfl ?_
  exact cl_iret ⟨rfl, rfl⟩ rfl C G_24 h_21 dX6_askSecret_87
noncomputable def bc_X6_askSecret_0 (a : Nat) (σ : cl_S) : Option (Int32 × cl_S) := bd2 (fc_X8_isFull (a + 9) σ) (fun r_3 σ_2 => (if r_3 = 0 then (if (σ_2.1 a 13) < (100:Int32) then (if (σ_2.1 a 13) < (σ_2.1 a 12) then bc_X6_askSecret_59 a σ_2 else bd2 (fc_X10_newSecret 31 σ_2) (fun r_28 σ_27 => ix (σ_2.1 a 13) 100 (vl (cl_wr σ_27 (a + 8) (σ_2.1 a 13).toNatClampNeg r_28) (fun σ_33 => vl (cl_w σ_33 a 12 ((σ_33.1 a 13) + (1:Int32))) (fun σ_38 => bc_X6_askSecret_59 a σ_38))))) else some ((-4:Int32), σ_2)) else some ((-4:Int32), σ_2)))
set_option maxHeartbeats 4000000 in
theorem wc_X6_askSecret_0 (C : cl_C D p s m args meth c cX6_askSecret 1 (some .int) RX6) {r : Int32} {a : Nat} {σ0 σ σ' : cl_S} {T : Nat → Nat × Nat} {H : Heap} {locs : List Loc} {ls : Array Slot} {cells slots : Nat} (h : bc_X6_askSecret_0 a σ = some (r, σ')) (G : cl_G true D c0 ({ frames := 5, cells := σ0.2.2.2.2.2.1, slots := σ0.2.2.2.2.2.2, locals := 128 }) s σ0.2.2.2.1 T σ H locs cells slots) (ha : (T a).1 = 22) (hl : lv_has ls 1 [(0, .ref (c0 + a))]) : W p l e ({ frames := 5, cells := σ0.2.2.2.2.2.1, slots := σ0.2.2.2.2.2.2, locals := 128 }) s m args below meth c H locs cells slots (MQ below (cl_Q true D c0 (some (.int r)) cl_no σ0 σ') args s (σ0.2.2.2.2.2.1 - σ'.2.2.2.2.2.1) (σ0.2.2.2.2.2.2 - σ'.2.2.2.2.2.2) (cl_A c0 σ0.2.2.2.1 s.heap.size)) (F0 m 0 ls []) := by
  unfold bc_X6_askSecret_0 at h
  refine lv_aload_n C.1 C.2.1 dX6_askSecret_0 rfl (lv_at hl 0 rfl) ?_
  refine cg_6_50 C G ha dX6_askSecret_1 (fun t_1 => ?_)
  have t_1 : (T (a + 9)).1 = 24 := by rw [t_1]
  obtain ⟨r_3, σ_2, hq, h_4⟩ := bd2_some h
  refine cl_callV (ci := 8) (rest := []) C G rfl t_1 cw_RX6_108 [] _ (kc_X8_isFull l D c0 (by rw [G.1]; exact t_1) hq) (Nat.le_of_ble_eq_true rfl) (Nat.le_of_ble_eq_true rfl) rfl rfl hl.1 (Nat.le_of_ble_eq_true rfl) dX6_askSecret_4 (fun T_5 H locs cells slots t_6 hu G_7 => ?_)
  have ha := hu.kind ha (by decide)
  refine W.eq (g2 := F0 m 7 ls [.int r_3]) rfl ?_
  refine lv_if_ne (tgt := 19) C.1 C.2.1 dX6_askSecret_7 (by decide) (fun hc => ?_) (fun hc => ?_)
  · rw [if_neg hc] at h_4
    refine lv_bipush (v := (-4:Int32)) C.1 C.2.1 dX6_askSecret_19 (by decide) ?_
    exact cl_iret ⟨rfl, rfl⟩ rfl C G_7 h_4 dX6_askSecret_21
  · rw [if_pos hc] at h_4
    refine lv_aload_n C.1 C.2.1 dX6_askSecret_10 rfl (lv_at hl 0 rfl) ?_
    refine cg_6_88 C G_7 ha dX6_askSecret_11 ?_
    refine lv_bipush (v := (100:Int32)) C.1 C.2.1 dX6_askSecret_14 (by decide) ?_
    refine lv_icmp_lt (tgt := 22) C.1 C.2.1 dX6_askSecret_16 (by decide) (fun hc => ?_) (fun hc => ?_)
    · rw [if_pos hc] at h_4
      refine lv_aload_n C.1 C.2.1 dX6_askSecret_22 rfl (lv_at hl 0 rfl) ?_
      refine cg_6_88 C G_7 ha dX6_askSecret_23 ?_
      refine lv_aload_n C.1 C.2.1 dX6_askSecret_26 rfl (lv_at hl 0 rfl) ?_
      refine cg_6_85 C G_7 ha dX6_askSecret_27 ?_
      refine lv_icmp_lt (tgt := 59) C.1 C.2.1 dX6_askSecret_30 (by decide) (fun hc => ?_) (fun hc => ?_)
      · rw [if_pos hc] at h_4
        exact wc_X6_askSecret_59 C h_4 G_7 ha (lv_sub hl [0] rfl)
      · rw [if_neg hc] at h_4
        refine lv_aload_n C.1 C.2.1 dX6_askSecret_33 rfl (lv_at hl 0 rfl) ?_
        refine cg_6_34 C G_7 ha dX6_askSecret_34 (fun t_25 => ?_)
        refine lv_aload_n C.1 C.2.1 dX6_askSecret_37 rfl (lv_at hl 0 rfl) ?_
        refine cg_6_88 C G_7 ha dX6_askSecret_38 ?_
        refine lv_aload_n C.1 C.2.1 dX6_askSecret_41 rfl (lv_at hl 0 rfl) ?_
        refine cg_6_37 C G_7 ha dX6_askSecret_42 (fun t_26 => ?_)
        have t_26 : (T_5 31).1 = 26 := by rw [t_26]
        obtain ⟨r_28, σ_27, hq, h_29⟩ := bd2_some h_4
        refine cl_callV (ci := 10) (rest := [.int (σ_2.1 a 13), .ref (c0 + (a + 8))]) C G_7 rfl t_26 cw_RX6_112 [] _ (kc_X10_newSecret l D c0 (by rw [G_7.1]; exact t_26) hq) (Nat.le_of_ble_eq_true rfl) (Nat.le_of_ble_eq_true rfl) rfl rfl hl.1 (Nat.le_of_ble_eq_true rfl) dX6_askSecret_45 (fun T_30 H locs cells slots t_31 hu G_32 => ?_)
        have ha := hu.kind ha (by decide)
        have t_25 := cl_uparr hu t_25 (by decide)
        refine W.eq (g2 := F0 m 48 ls [cl_rf c0 r_28, .int (σ_2.1 a 13), .ref (c0 + (a + 8))]) rfl ?_
        obtain ⟨hi, h_34⟩ := ix_some h_29
        refine cl_aast (ci := 9) (x := r_28) C G_32 rfl rfl rfl t_25 (by decide) (by decide) t_31 hi dX6_askSecret_48 (fun H locs G_35 => ?_)
        refine cl_nm G_35 h_34 (fun σ_33 G_36 h_37 => ?_)
        refine lv_aload_n C.1 C.2.1 dX6_askSecret_49 rfl (lv_at hl 0 rfl) ?_
        refine lv_aload_n C.1 C.2.1 dX6_askSecret_50 rfl (lv_at hl 0 rfl) ?_
        refine cg_6_88 C G_36 ha dX6_askSecret_51 ?_
        refine lv_iconst (v := (1:Int32)) C.1 C.2.1 dX6_askSecret_54 (by decide) ?_
        refine lv_iadd C.1 C.2.1 dX6_askSecret_55 ?_
        refine cp_6_85 C G_36 ha dX6_askSecret_56 (fun H locs G_39 => ?_)
        refine cl_nm G_39 h_37 (fun σ_38 G_40 h_41 => ?_)
        exact wc_X6_askSecret_59 C h_41 G_40 ha (lv_sub hl [0] rfl)
    · rw [if_neg hc] at h_4
      refine lv_bipush (v := (-4:Int32)) C.1 C.2.1 dX6_askSecret_19 (by decide) ?_
      exact cl_iret ⟨rfl, rfl⟩ rfl C G_7 h_4 dX6_askSecret_21
noncomputable def fc_X6_askSecret (a : Nat) (σ : cl_S) : Option (Int32 × cl_S) := bc_X6_askSecret_0 a σ
theorem kc_X6_askSecret (l : Launch) (D : cl_D) (c0 : Nat) {r : Int32} {a : Nat} {σ σ' : cl_S} (ha : (σ.2.2.2.1 a).1 = 22) (h : fc_X6_askSecret a σ = some (r, σ')) : cl_Met true l D c0 yX6_askSecret cX6_askSecret 1 (some .int) 5 128 [.ref (c0 + a)] σ (some (.int r)) cl_no σ' :=
  cl_of (by decide) (Nat.le_of_ble_eq_true rfl) (fun p e s m args below meth c ls C hn G hl => wc_X6_askSecret_0 C h G ha hl)
abbrev cX5_lookAtNumber : ByteArray := prog_7_method_21_code
def yX5_lookAtNumber : MethodName := ⟨RX5, "lookAtNumber", "(LPartHouse$Partition;LPartHouse$Term;)I"⟩
theorem dX5_lookAtNumber_0 : decode cX5_lookAtNumber 0 = .ok (.aload_n 2, 1) := by decide +kernel
theorem dX5_lookAtNumber_1 : decode cX5_lookAtNumber 1 = .ok (.getfield 257, 3) := by decide +kernel
theorem dX5_lookAtNumber_4 : decode cX5_lookAtNumber 4 = .ok (.ifCond .ne 7, 3) := by decide +kernel
theorem dX5_lookAtNumber_7 : decode cX5_lookAtNumber 7 = .ok (.iconst 1, 1) := by decide +kernel
theorem dX5_lookAtNumber_8 : decode cX5_lookAtNumber 8 = .ok (.goto 4, 3) := by decide +kernel
theorem dX5_lookAtNumber_11 : decode cX5_lookAtNumber 11 = .ok (.iconst 0, 1) := by decide +kernel
theorem dX5_lookAtNumber_12 : decode cX5_lookAtNumber 12 = .ok (.istore_n 3, 1) := by decide +kernel
theorem dX5_lookAtNumber_13 : decode cX5_lookAtNumber 13 = .ok (.aload_n 1, 1) := by decide +kernel
theorem dX5_lookAtNumber_14 : decode cX5_lookAtNumber 14 = .ok (.getfield 121, 3) := by decide +kernel
theorem dX5_lookAtNumber_17 : decode cX5_lookAtNumber 17 = .ok (.getfield 193, 3) := by decide +kernel
theorem dX5_lookAtNumber_20 : decode cX5_lookAtNumber 20 = .ok (.iconst 2, 1) := by decide +kernel
theorem dX5_lookAtNumber_21 : decode cX5_lookAtNumber 21 = .ok (.iload_n 3, 1) := by decide +kernel
theorem dX5_lookAtNumber_22 : decode cX5_lookAtNumber 22 = .ok (.ifCond .eq 7, 3) := by decide +kernel
theorem dX5_lookAtNumber_25 : decode cX5_lookAtNumber 25 = .ok (.iconst 1, 1) := by decide +kernel
theorem dX5_lookAtNumber_26 : decode cX5_lookAtNumber 26 = .ok (.goto 4, 3) := by decide +kernel
theorem dX5_lookAtNumber_29 : decode cX5_lookAtNumber 29 = .ok (.iconst 0, 1) := by decide +kernel
theorem dX5_lookAtNumber_30 : decode cX5_lookAtNumber 30 = .ok (.iastore, 1) := by decide +kernel
theorem dX5_lookAtNumber_31 : decode cX5_lookAtNumber 31 = .ok (.iload_n 3, 1) := by decide +kernel
theorem dX5_lookAtNumber_32 : decode cX5_lookAtNumber 32 = .ok (.ifCond .eq 10, 3) := by decide +kernel
theorem dX5_lookAtNumber_35 : decode cX5_lookAtNumber 35 = .ok (.aload_n 2, 1) := by decide +kernel
theorem dX5_lookAtNumber_36 : decode cX5_lookAtNumber 36 = .ok (.getfield 345, 3) := by decide +kernel
theorem dX5_lookAtNumber_39 : decode cX5_lookAtNumber 39 = .ok (.goto 4, 3) := by decide +kernel
theorem dX5_lookAtNumber_42 : decode cX5_lookAtNumber 42 = .ok (.iconst 0, 1) := by decide +kernel
theorem dX5_lookAtNumber_43 : decode cX5_lookAtNumber 43 = .ok (.ireturn, 1) := by decide +kernel
theorem cc_X5_lookAtNumber : Cond.code yX5_lookAtNumber cX5_lookAtNumber 4 (some .int) ∈ rf_tb := rf_at 1259 (by decide +kernel) (by decide +kernel)
noncomputable def bc_X5_lookAtNumber_30 (x2 : (Option Nat)) (x3 : Int32) (v0 : Nat) (w0 : Nat) (v1 : Int32) (v2 : Int32) (σ : cl_S) : Option (Int32 × cl_S) := ix v1 w0 (vl (cl_w σ v0 v1.toNatClampNeg v2) (fun σ_10 => (if x3 = 0 then some ((0:Int32), σ_10) else nn x2 (fun a_15 => some ((σ_10.1 a_15 1), σ_10)))))
set_option maxHeartbeats 4000000 in
theorem wc_X5_lookAtNumber_30 (C : cl_C D p s m args meth c cX5_lookAtNumber 4 (some .int) RX5) {r : Int32} {x2 : (Option Nat)} {x3 : Int32} {v0 : Nat} {w0 : Nat} {v1 : Int32} {v2 : Int32} {σ0 σ σ' : cl_S} {T : Nat → Nat × Nat} {H : Heap} {locs : List Loc} {ls : Array Slot} {cells slots : Nat} (h : bc_X5_lookAtNumber_30 x2 x3 v0 w0 v1 v2 σ = some (r, σ')) (G : cl_G true D c0 ({ frames := 0, cells := σ0.2.2.2.2.2.1, slots := σ0.2.2.2.2.2.2, locals := 0 }) s σ0.2.2.2.1 T σ H locs cells slots) (f2 : cl_RT T x2 25) (g0 : T v0 = (1, w0)) (hl : lv_has ls 4 [(2, cl_rf c0 x2), (3, .int x3)]) : W p l e ({ frames := 0, cells := σ0.2.2.2.2.2.1, slots := σ0.2.2.2.2.2.2, locals := 0 }) s m args below meth c H locs cells slots (MQ below (cl_Q true D c0 (some (.int r)) cl_no σ0 σ') args s (σ0.2.2.2.2.2.1 - σ'.2.2.2.2.2.1) (σ0.2.2.2.2.2.2 - σ'.2.2.2.2.2.2) (cl_A c0 σ0.2.2.2.1 s.heap.size)) (F0 m 30 ls [.int v2, .int v1, .ref (c0 + v0)]) := by
  unfold bc_X5_lookAtNumber_30 at h
  obtain ⟨hi, h_11⟩ := ix_some h
  refine cl_iast C G g0 hi dX5_lookAtNumber_30 (fun H locs G_12 => ?_)
  refine cl_nm G_12 h_11 (fun σ_10 G_13 h_14 => ?_)
  refine lv_iload_n C.1 C.2.1 dX5_lookAtNumber_31 rfl (lv_at hl 1 rfl) ?_
  refine lv_if_eq (tgt := 42) C.1 C.2.1 dX5_lookAtNumber_32 (by decide) (fun hc => ?_) (fun hc => ?_)
  · rw [if_pos hc] at h_14
    refine lv_iconst (v := (0:Int32)) C.1 C.2.1 dX5_lookAtNumber_42 (by decide) ?_
    exact cl_iret ⟨rfl, rfl⟩ rfl C G_13 h_14 dX5_lookAtNumber_43
  · rw [if_neg hc] at h_14
    refine cl_aload_n C.1 C.2.1 dX5_lookAtNumber_35 rfl (lv_at hl 0 rfl) ?_
    obtain ⟨a_15, rfl, h_17⟩ := nn_some h_14
    have t_16 := f2 _ rfl
    refine cg_5_345 C G_13 t_16 dX5_lookAtNumber_36 ?_
    refine lv_goto (tgt := 43) C.1 C.2.1 dX5_lookAtNumber_39 (by decide) ?_
    exact cl_iret ⟨rfl, rfl⟩ rfl C G_13 h_17 dX5_lookAtNumber_43
noncomputable def bc_X5_lookAtNumber_12 (x1 : (Option Nat)) (x2 : (Option Nat)) (v0 : Int32) (σ : cl_S) : Option (Int32 × cl_S) := nn x1 (fun a_5 => (if v0 = 0 then bc_X5_lookAtNumber_30 x2 v0 ((a_5 + 1) + 2) 16 (2:Int32) (0:Int32) σ else bc_X5_lookAtNumber_30 x2 v0 ((a_5 + 1) + 2) 16 (2:Int32) (1:Int32) σ))
set_option maxHeartbeats 4000000 in
theorem wc_X5_lookAtNumber_12 (C : cl_C D p s m args meth c cX5_lookAtNumber 4 (some .int) RX5) {r : Int32} {x1 : (Option Nat)} {x2 : (Option Nat)} {v0 : Int32} {σ0 σ σ' : cl_S} {T : Nat → Nat × Nat} {H : Heap} {locs : List Loc} {ls : Array Slot} {cells slots : Nat} (h : bc_X5_lookAtNumber_12 x1 x2 v0 σ = some (r, σ')) (G : cl_G true D c0 ({ frames := 0, cells := σ0.2.2.2.2.2.1, slots := σ0.2.2.2.2.2.2, locals := 0 }) s σ0.2.2.2.1 T σ H locs cells slots) (f1 : cl_RT T x1 22) (f2 : cl_RT T x2 25) (hl : lv_has ls 4 [(1, cl_rf c0 x1), (2, cl_rf c0 x2)]) : W p l e ({ frames := 0, cells := σ0.2.2.2.2.2.1, slots := σ0.2.2.2.2.2.2, locals := 0 }) s m args below meth c H locs cells slots (MQ below (cl_Q true D c0 (some (.int r)) cl_no σ0 σ') args s (σ0.2.2.2.2.2.1 - σ'.2.2.2.2.2.1) (σ0.2.2.2.2.2.2 - σ'.2.2.2.2.2.2) (cl_A c0 σ0.2.2.2.1 s.heap.size)) (F0 m 12 ls [.int v0]) := by
  unfold bc_X5_lookAtNumber_12 at h
  refine lv_istore_n (lv' := [(3, .int v0), (1, cl_rf c0 x1), (2, cl_rf c0 x2)]) C.1 C.2.1 dX5_lookAtNumber_12 rfl hl (by decide) (by first | rfl | (cases x1 <;> cases x2 <;> rfl)) (fun ls hl_4 => ?_)
  refine cl_aload_n C.1 C.2.1 dX5_lookAtNumber_13 rfl (lv_at hl_4 1 rfl) ?_
  obtain ⟨a_5, rfl, h_7⟩ := nn_some h
  have t_6 := f1 _ rfl
  refine cg_5_121 C G t_6 dX5_lookAtNumber_14 (fun t_8 => ?_)
  have t_8 : (T (a_5 + 1)).1 = 18 := by rw [t_8]
  refine cg_5_193 C G t_8 dX5_lookAtNumber_17 (fun t_9 => ?_)
  refine lv_iconst (v := (2:Int32)) C.1 C.2.1 dX5_lookAtNumber_20 (by decide) ?_
  refine lv_iload_n C.1 C.2.1 dX5_lookAtNumber_21 rfl (lv_at hl_4 0 rfl) ?_
  refine lv_if_eq (tgt := 29) C.1 C.2.1 dX5_lookAtNumber_22 (by decide) (fun hc => ?_) (fun hc => ?_)
  · rw [if_pos hc] at h_7
    refine lv_iconst (v := (0:Int32)) C.1 C.2.1 dX5_lookAtNumber_29 (by decide) ?_
    exact wc_X5_lookAtNumber_30 C h_7 G f2 t_9 (lv_sub hl_4 [2, 0] rfl)
  · rw [if_neg hc] at h_7
    refine lv_iconst (v := (1:Int32)) C.1 C.2.1 dX5_lookAtNumber_25 (by decide) ?_
    refine lv_goto (tgt := 30) C.1 C.2.1 dX5_lookAtNumber_26 (by decide) ?_
    exact wc_X5_lookAtNumber_30 C h_7 G f2 t_9 (lv_sub hl_4 [2, 0] rfl)
noncomputable def bc_X5_lookAtNumber_0 (a : Nat) (x1 : (Option Nat)) (x2 : (Option Nat)) (σ : cl_S) : Option (Int32 × cl_S) := nn x2 (fun a_1 => (if (σ.1 a_1 0) = 0 then bc_X5_lookAtNumber_12 x1 (some a_1) (1:Int32) σ else bc_X5_lookAtNumber_12 x1 (some a_1) (0:Int32) σ))
set_option maxHeartbeats 4000000 in
theorem wc_X5_lookAtNumber_0 (C : cl_C D p s m args meth c cX5_lookAtNumber 4 (some .int) RX5) {r : Int32} {a : Nat} {x1 : (Option Nat)} {x2 : (Option Nat)} {σ0 σ σ' : cl_S} {T : Nat → Nat × Nat} {H : Heap} {locs : List Loc} {ls : Array Slot} {cells slots : Nat} (h : bc_X5_lookAtNumber_0 a x1 x2 σ = some (r, σ')) (G : cl_G true D c0 ({ frames := 0, cells := σ0.2.2.2.2.2.1, slots := σ0.2.2.2.2.2.2, locals := 0 }) s σ0.2.2.2.1 T σ H locs cells slots) (ha : (T a).1 = 21) (f1 : cl_RT T x1 22) (f2 : cl_RT T x2 25) (hl : lv_has ls 4 [(0, .ref (c0 + a)), (1, cl_rf c0 x1), (2, cl_rf c0 x2)]) : W p l e ({ frames := 0, cells := σ0.2.2.2.2.2.1, slots := σ0.2.2.2.2.2.2, locals := 0 }) s m args below meth c H locs cells slots (MQ below (cl_Q true D c0 (some (.int r)) cl_no σ0 σ') args s (σ0.2.2.2.2.2.1 - σ'.2.2.2.2.2.1) (σ0.2.2.2.2.2.2 - σ'.2.2.2.2.2.2) (cl_A c0 σ0.2.2.2.1 s.heap.size)) (F0 m 0 ls []) := by
  unfold bc_X5_lookAtNumber_0 at h
  refine cl_aload_n C.1 C.2.1 dX5_lookAtNumber_0 rfl (lv_at hl 2 rfl) ?_
  obtain ⟨a_1, rfl, h_3⟩ := nn_some h
  have t_2 := f2 _ rfl
  refine cg_5_257 C G t_2 dX5_lookAtNumber_1 ?_
  refine lv_if_ne (tgt := 11) C.1 C.2.1 dX5_lookAtNumber_4 (by decide) (fun hc => ?_) (fun hc => ?_)
  · rw [if_neg hc] at h_3
    refine lv_iconst (v := (0:Int32)) C.1 C.2.1 dX5_lookAtNumber_11 (by decide) ?_
    exact wc_X5_lookAtNumber_12 C h_3 G f1 (cl_RTs t_2) (lv_sub hl [1, 2] rfl)
  · rw [if_pos hc] at h_3
    refine lv_iconst (v := (1:Int32)) C.1 C.2.1 dX5_lookAtNumber_7 (by decide) ?_
    refine lv_goto (tgt := 12) C.1 C.2.1 dX5_lookAtNumber_8 (by decide) ?_
    exact wc_X5_lookAtNumber_12 C h_3 G f1 (cl_RTs t_2) (lv_sub hl [1, 2] rfl)
noncomputable def fc_X5_lookAtNumber (a : Nat) (x1 : (Option Nat)) (x2 : (Option Nat)) (σ : cl_S) : Option (Int32 × cl_S) := bc_X5_lookAtNumber_0 a x1 x2 σ
theorem kc_X5_lookAtNumber (l : Launch) (D : cl_D) (c0 : Nat) {r : Int32} {a : Nat} {x1 : (Option Nat)} {x2 : (Option Nat)} {σ σ' : cl_S} (ha : (σ.2.2.2.1 a).1 = 21) (h : fc_X5_lookAtNumber a x1 x2 σ = some (r, σ')) (f1 : cl_RT σ.2.2.2.1 x1 22) (f2 : cl_RT σ.2.2.2.1 x2 25) : cl_Met true l D c0 yX5_lookAtNumber cX5_lookAtNumber 4 (some .int) 0 0 [.ref (c0 + a), cl_rf c0 x1, cl_rf c0 x2] σ (some (.int r)) cl_no σ' :=
  by cases x1 <;> cases x2 <;> exact cl_of (by decide) (Nat.le_of_ble_eq_true rfl) (fun p e s m args below meth c ls C hn G hl => wc_X5_lookAtNumber_0 C h G ha f1 f2 hl)
abbrev cX5_lookInto : ByteArray := prog_7_method_22_code
def yX5_lookInto : MethodName := ⟨RX5, "lookInto", "(LPartHouse$Partition;LPartHouse$Term;ILPartHouse$Term;)I"⟩
theorem dX5_lookInto_0 : decode cX5_lookInto 0 = .ok (.aload_n 2, 1) := by decide +kernel
theorem dX5_lookInto_1 : decode cX5_lookInto 1 = .ok (.aload_n 0, 1) := by decide +kernel
theorem dX5_lookInto_2 : decode cX5_lookInto 2 = .ok (.getfield 51, 3) := by decide +kernel
theorem dX5_lookInto_5 : decode cX5_lookInto 5 = .ok (.getfield 83, 3) := by decide +kernel
theorem dX5_lookInto_8 : decode cX5_lookInto 8 = .ok (.if_acmp .ne 6, 3) := by decide +kernel
theorem dX5_lookInto_11 : decode cX5_lookInto 11 = .ok (.bipush (-2), 2) := by decide +kernel
theorem dX5_lookInto_13 : decode cX5_lookInto 13 = .ok (.ireturn, 1) := by decide +kernel
theorem dX5_lookInto_14 : decode cX5_lookInto 14 = .ok (.aload_n 2, 1) := by decide +kernel
theorem dX5_lookInto_15 : decode cX5_lookInto 15 = .ok (.getfield 257, 3) := by decide +kernel
theorem dX5_lookInto_18 : decode cX5_lookInto 18 = .ok (.iload_n 3, 1) := by decide +kernel
theorem dX5_lookInto_19 : decode cX5_lookInto 19 = .ok (.if_icmp .ne 15, 3) := by decide +kernel
theorem dX5_lookInto_22 : decode cX5_lookInto 22 = .ok (.aload_n 1, 1) := by decide +kernel
theorem dX5_lookInto_23 : decode cX5_lookInto 23 = .ok (.getfield 199, 3) := by decide +kernel
theorem dX5_lookInto_26 : decode cX5_lookInto 26 = .ok (.aload 4, 2) := by decide +kernel
theorem dX5_lookInto_28 : decode cX5_lookInto 28 = .ok (.invokevirtual 282, 3) := by decide +kernel
theorem dX5_lookInto_31 : decode cX5_lookInto 31 = .ok (.goto 5, 3) := by decide +kernel
theorem dX5_lookInto_34 : decode cX5_lookInto 34 = .ok (.bipush (-3), 2) := by decide +kernel
theorem dX5_lookInto_36 : decode cX5_lookInto 36 = .ok (.ireturn, 1) := by decide +kernel
theorem cc_X5_lookInto : Cond.code yX5_lookInto cX5_lookInto 5 (some .int) ∈ rf_tb := rf_at 1263 (by decide +kernel) (by decide +kernel)
noncomputable def bc_X5_lookInto_0 (a : Nat) (x1 : (Option Nat)) (x2 : (Option Nat)) (x3 : Int32) (x4 : (Option Nat)) (σ : cl_S) : Option (Int32 × cl_S) := (if x2 = (some 33) then some ((-2:Int32), σ) else nn x2 (fun a_3 => (if (σ.1 a_3 0) = x3 then nn x1 (fun a_6 => bd2 (fc_X8_comeIn (a_6 + 9) x4 σ) (fun r_11 σ_10 => some (r_11, σ_10))) else some ((-3:Int32), σ))))
set_option maxHeartbeats 4000000 in
theorem wc_X5_lookInto_0 (C : cl_C D p s m args meth c cX5_lookInto 5 (some .int) RX5) {r : Int32} {a : Nat} {x1 : (Option Nat)} {x2 : (Option Nat)} {x3 : Int32} {x4 : (Option Nat)} {σ0 σ σ' : cl_S} {T : Nat → Nat × Nat} {H : Heap} {locs : List Loc} {ls : Array Slot} {cells slots : Nat} (h : bc_X5_lookInto_0 a x1 x2 x3 x4 σ = some (r, σ')) (G : cl_G true D c0 ({ frames := 2, cells := σ0.2.2.2.2.2.1, slots := σ0.2.2.2.2.2.2, locals := 45 }) s σ0.2.2.2.1 T σ H locs cells slots) (ha : (T a).1 = 21) (f1 : cl_RT T x1 22) (f2 : cl_RT T x2 25) (f4 : cl_RT T x4 25) (hl : lv_has ls 5 [(0, .ref (c0 + a)), (1, cl_rf c0 x1), (2, cl_rf c0 x2), (3, .int x3), (4, cl_rf c0 x4)]) : W p l e ({ frames := 2, cells := σ0.2.2.2.2.2.1, slots := σ0.2.2.2.2.2.2, locals := 45 }) s m args below meth c H locs cells slots (MQ below (cl_Q true D c0 (some (.int r)) cl_no σ0 σ') args s (σ0.2.2.2.2.2.1 - σ'.2.2.2.2.2.1) (σ0.2.2.2.2.2.2 - σ'.2.2.2.2.2.2) (cl_A c0 σ0.2.2.2.1 s.heap.size)) (F0 m 0 ls []) := by
  unfold bc_X5_lookInto_0 at h
  refine cl_aload_n C.1 C.2.1 dX5_lookInto_0 rfl (lv_at hl 2 rfl) ?_
  refine lv_aload_n C.1 C.2.1 dX5_lookInto_1 rfl (lv_at hl 0 rfl) ?_
  refine cg_5_51 C G ha dX5_lookInto_2 (fun t_1 => ?_)
  have t_1 : (T 31).1 = 26 := by rw [t_1]
  refine cg_5_83 C G t_1 dX5_lookInto_5 (fun t_2 => ?_)
  have t_2 : (T 33).1 = 25 := by rw [t_2]
  refine cl_acmp_ne (rx := x2) (ry := (some 33)) (tgt := 14) C.1 C.2.1 dX5_lookInto_8 (by decide) (fun hc => ?_) (fun hc => ?_)
  · rw [if_neg hc] at h
    refine cl_aload_n C.1 C.2.1 dX5_lookInto_14 rfl (lv_at hl 2 rfl) ?_
    obtain ⟨a_3, rfl, h_5⟩ := nn_some h
    have t_4 := f2 _ rfl
    refine cg_5_257 C G t_4 dX5_lookInto_15 ?_
    refine lv_iload_n C.1 C.2.1 dX5_lookInto_18 rfl (lv_at hl 3 rfl) ?_
    refine lv_icmp_ne (tgt := 34) C.1 C.2.1 dX5_lookInto_19 (by decide) (fun hc => ?_) (fun hc => ?_)
    · rw [if_neg hc] at h_5
      refine lv_bipush (v := (-3:Int32)) C.1 C.2.1 dX5_lookInto_34 (by decide) ?_
      exact cl_iret ⟨rfl, rfl⟩ rfl C G h_5 dX5_lookInto_36
    · rw [if_pos hc] at h_5
      refine cl_aload_n C.1 C.2.1 dX5_lookInto_22 rfl (lv_at hl 1 rfl) ?_
      obtain ⟨a_6, rfl, h_8⟩ := nn_some h_5
      have t_7 := f1 _ rfl
      refine cg_5_199 C G t_7 dX5_lookInto_23 (fun t_9 => ?_)
      have t_9 : (T (a_6 + 9)).1 = 24 := by rw [t_9]
      refine cl_aload C.1 C.2.1 dX5_lookInto_26 (lv_at hl 4 rfl) ?_
      obtain ⟨r_11, σ_10, hq, h_12⟩ := bd2_some h_8
      refine cl_callV (ci := 8) (rest := []) C G rfl t_9 cw_RX5_282 [cl_rf c0 x4] _ (kc_X8_comeIn l D c0 (by rw [G.1]; exact t_9) hq (by rw [G.1]; exact f4)) (Nat.le_of_ble_eq_true rfl) (Nat.le_of_ble_eq_true rfl) rfl rfl hl.1 (Nat.le_of_ble_eq_true rfl) dX5_lookInto_28 (fun T_13 H locs cells slots t_14 hu G_15 => ?_)
      have ha := hu.kind ha (by decide)
      have t_7 := hu.kind t_7 (by decide)
      have t_4 := hu.kind t_4 (by decide)
      have f4 := f4.up hu (by decide)
      refine W.eq (g2 := F0 m 31 ls [.int r_11]) rfl ?_
      refine lv_goto (tgt := 36) C.1 C.2.1 dX5_lookInto_31 (by decide) ?_
      exact cl_iret ⟨rfl, rfl⟩ rfl C G_15 h_12 dX5_lookInto_36
  · rw [if_pos hc] at h
    refine lv_bipush (v := (-2:Int32)) C.1 C.2.1 dX5_lookInto_11 (by decide) ?_
    exact cl_iret ⟨rfl, rfl⟩ rfl C G h dX5_lookInto_13
noncomputable def fc_X5_lookInto (a : Nat) (x1 : (Option Nat)) (x2 : (Option Nat)) (x3 : Int32) (x4 : (Option Nat)) (σ : cl_S) : Option (Int32 × cl_S) := bc_X5_lookInto_0 a x1 x2 x3 x4 σ
theorem kc_X5_lookInto (l : Launch) (D : cl_D) (c0 : Nat) {r : Int32} {a : Nat} {x1 : (Option Nat)} {x2 : (Option Nat)} {x3 : Int32} {x4 : (Option Nat)} {σ σ' : cl_S} (ha : (σ.2.2.2.1 a).1 = 21) (h : fc_X5_lookInto a x1 x2 x3 x4 σ = some (r, σ')) (f1 : cl_RT σ.2.2.2.1 x1 22) (f2 : cl_RT σ.2.2.2.1 x2 25) (f4 : cl_RT σ.2.2.2.1 x4 25) : cl_Met true l D c0 yX5_lookInto cX5_lookInto 5 (some .int) 2 45 [.ref (c0 + a), cl_rf c0 x1, cl_rf c0 x2, .int x3, cl_rf c0 x4] σ (some (.int r)) cl_no σ' :=
  by cases x1 <;> cases x2 <;> cases x4 <;> exact cl_of (by decide) (Nat.le_of_ble_eq_true rfl) (fun p e s m args below meth c ls C hn G hl => wc_X5_lookInto_0 C h G ha f1 f2 f4 hl)
abbrev cX5_checkSigned : ByteArray := prog_7_method_23_code
def yX5_checkSigned : MethodName := ⟨RX5, "checkSigned", "(LPartHouse$Partition;LPartHouse$Term;)I"⟩
theorem dX5_checkSigned_0 : decode cX5_checkSigned 0 = .ok (.aload_n 1, 1) := by decide +kernel
theorem dX5_checkSigned_1 : decode cX5_checkSigned 1 = .ok (.getfield 199, 3) := by decide +kernel
theorem dX5_checkSigned_4 : decode cX5_checkSigned 4 = .ok (.aload_n 1, 1) := by decide +kernel
theorem dX5_checkSigned_5 : decode cX5_checkSigned 5 = .ok (.getfield 121, 3) := by decide +kernel
theorem dX5_checkSigned_8 : decode cX5_checkSigned 8 = .ok (.getfield 193, 3) := by decide +kernel
theorem dX5_checkSigned_11 : decode cX5_checkSigned 11 = .ok (.iconst 2, 1) := by decide +kernel
theorem dX5_checkSigned_12 : decode cX5_checkSigned 12 = .ok (.iaload, 1) := by decide +kernel
theorem dX5_checkSigned_13 : decode cX5_checkSigned 13 = .ok (.invokevirtual 203, 3) := by decide +kernel
theorem dX5_checkSigned_16 : decode cX5_checkSigned 16 = .ok (.astore_n 3, 1) := by decide +kernel
theorem dX5_checkSigned_17 : decode cX5_checkSigned 17 = .ok (.aload_n 2, 1) := by decide +kernel
theorem dX5_checkSigned_18 : decode cX5_checkSigned 18 = .ok (.aload_n 0, 1) := by decide +kernel
theorem dX5_checkSigned_19 : decode cX5_checkSigned 19 = .ok (.getfield 51, 3) := by decide +kernel
theorem dX5_checkSigned_22 : decode cX5_checkSigned 22 = .ok (.getfield 83, 3) := by decide +kernel
theorem dX5_checkSigned_25 : decode cX5_checkSigned 25 = .ok (.if_acmp .eq 14, 3) := by decide +kernel
theorem dX5_checkSigned_28 : decode cX5_checkSigned 28 = .ok (.aload_n 3, 1) := by decide +kernel
theorem dX5_checkSigned_29 : decode cX5_checkSigned 29 = .ok (.aload_n 0, 1) := by decide +kernel
theorem dX5_checkSigned_30 : decode cX5_checkSigned 30 = .ok (.getfield 51, 3) := by decide +kernel
theorem dX5_checkSigned_33 : decode cX5_checkSigned 33 = .ok (.getfield 83, 3) := by decide +kernel
theorem dX5_checkSigned_36 : decode cX5_checkSigned 36 = .ok (.if_acmp .ne 6, 3) := by decide +kernel
theorem dX5_checkSigned_39 : decode cX5_checkSigned 39 = .ok (.bipush (-2), 2) := by decide +kernel
theorem dX5_checkSigned_41 : decode cX5_checkSigned 41 = .ok (.ireturn, 1) := by decide +kernel
theorem dX5_checkSigned_42 : decode cX5_checkSigned 42 = .ok (.aload_n 2, 1) := by decide +kernel
theorem dX5_checkSigned_43 : decode cX5_checkSigned 43 = .ok (.getfield 257, 3) := by decide +kernel
theorem dX5_checkSigned_46 : decode cX5_checkSigned 46 = .ok (.bipush 6, 2) := by decide +kernel
theorem dX5_checkSigned_48 : decode cX5_checkSigned 48 = .ok (.if_icmp .ne 27, 3) := by decide +kernel
theorem dX5_checkSigned_51 : decode cX5_checkSigned 51 = .ok (.aload_n 3, 1) := by decide +kernel
theorem dX5_checkSigned_52 : decode cX5_checkSigned 52 = .ok (.getfield 257, 3) := by decide +kernel
theorem dX5_checkSigned_55 : decode cX5_checkSigned 55 = .ok (.bipush 7, 2) := by decide +kernel
theorem dX5_checkSigned_57 : decode cX5_checkSigned 57 = .ok (.if_icmp .ne 18, 3) := by decide +kernel
theorem dX5_checkSigned_60 : decode cX5_checkSigned 60 = .ok (.aload_n 2, 1) := by decide +kernel
theorem dX5_checkSigned_61 : decode cX5_checkSigned 61 = .ok (.getfield 263, 3) := by decide +kernel
theorem dX5_checkSigned_64 : decode cX5_checkSigned 64 = .ok (.aload_n 3, 1) := by decide +kernel
theorem dX5_checkSigned_65 : decode cX5_checkSigned 65 = .ok (.getfield 263, 3) := by decide +kernel
theorem dX5_checkSigned_68 : decode cX5_checkSigned 68 = .ok (.if_acmp .ne 7, 3) := by decide +kernel
theorem dX5_checkSigned_71 : decode cX5_checkSigned 71 = .ok (.iconst 1, 1) := by decide +kernel
theorem dX5_checkSigned_72 : decode cX5_checkSigned 72 = .ok (.goto 4, 3) := by decide +kernel
theorem dX5_checkSigned_75 : decode cX5_checkSigned 75 = .ok (.iconst 0, 1) := by decide +kernel
theorem dX5_checkSigned_76 : decode cX5_checkSigned 76 = .ok (.ireturn, 1) := by decide +kernel
theorem cc_X5_checkSigned : Cond.code yX5_checkSigned cX5_checkSigned 4 (some .int) ∈ rf_tb := rf_at 1267 (by decide +kernel) (by decide +kernel)
noncomputable def bc_X5_checkSigned_0 (a : Nat) (x1 : (Option Nat)) (x2 : (Option Nat)) (σ : cl_S) : Option (Int32 × cl_S) := nn x1 (fun a_1 => ix (2:Int32) 16 (bd2 (fc_X8_at (a_1 + 9) (σ.1 ((a_1 + 1) + 2) (2:Int32).toNatClampNeg) σ) (fun r_9 σ_8 => (if x2 = (some 33) then some ((-2:Int32), σ_8) else (if r_9 = (some 33) then some ((-2:Int32), σ_8) else nn x2 (fun a_19 => (if (σ_8.1 a_19 0) = (6:Int32) then nn r_9 (fun a_22 => (if (σ_8.1 a_22 0) = (7:Int32) then vl (σ_8.2.2.1 a_19 3) (fun r_26 => vl (σ_8.2.2.1 a_22 3) (fun r_30 => (if r_26 = r_30 then some ((1:Int32), σ_8) else some ((0:Int32), σ_8)))) else some ((0:Int32), σ_8))) else some ((0:Int32), σ_8))))))))
set_option maxHeartbeats 4000000 in
theorem wc_X5_checkSigned_0 (C : cl_C D p s m args meth c cX5_checkSigned 4 (some .int) RX5) {r : Int32} {a : Nat} {x1 : (Option Nat)} {x2 : (Option Nat)} {σ0 σ σ' : cl_S} {T : Nat → Nat × Nat} {H : Heap} {locs : List Loc} {ls : Array Slot} {cells slots : Nat} (h : bc_X5_checkSigned_0 a x1 x2 σ = some (r, σ')) (G : cl_G true D c0 ({ frames := 2, cells := σ0.2.2.2.2.2.1, slots := σ0.2.2.2.2.2.2, locals := 42 }) s σ0.2.2.2.1 T σ H locs cells slots) (ha : (T a).1 = 21) (f1 : cl_RT T x1 22) (f2 : cl_RT T x2 25) (hl : lv_has ls 4 [(0, .ref (c0 + a)), (1, cl_rf c0 x1), (2, cl_rf c0 x2)]) : W p l e ({ frames := 2, cells := σ0.2.2.2.2.2.1, slots := σ0.2.2.2.2.2.2, locals := 42 }) s m args below meth c H locs cells slots (MQ below (cl_Q true D c0 (some (.int r)) cl_no σ0 σ') args s (σ0.2.2.2.2.2.1 - σ'.2.2.2.2.2.1) (σ0.2.2.2.2.2.2 - σ'.2.2.2.2.2.2) (cl_A c0 σ0.2.2.2.1 s.heap.size)) (F0 m 0 ls []) := by
  unfold bc_X5_checkSigned_0 at h
  refine cl_aload_n C.1 C.2.1 dX5_checkSigned_0 rfl (lv_at hl 1 rfl) ?_
  obtain ⟨a_1, rfl, h_3⟩ := nn_some h
  have t_2 := f1 _ rfl
  refine cg_5_199 C G t_2 dX5_checkSigned_1 (fun t_4 => ?_)
  have t_4 : (T (a_1 + 9)).1 = 24 := by rw [t_4]
  refine lv_aload_n C.1 C.2.1 dX5_checkSigned_4 rfl (lv_at hl 1 rfl) ?_
  refine cg_5_121 C G t_2 dX5_checkSigned_5 (fun t_5 => ?_)
  have t_5 : (T (a_1 + 1)).1 = 18 := by rw [t_5]
  refine cg_5_193 C G t_5 dX5_checkSigned_8 (fun t_6 => ?_)
  refine lv_iconst (v := (2:Int32)) C.1 C.2.1 dX5_checkSigned_11 (by decide) ?_
  obtain ⟨hi, h_7⟩ := ix_some h_3
  refine cl_iald C G t_6 hi dX5_checkSigned_12 ?_
  obtain ⟨r_9, σ_8, hq, h_10⟩ := bd2_some h_7
  refine cl_callV (ci := 8) (rest := []) C G rfl t_4 cw_RX5_203 [.int (σ.1 ((a_1 + 1) + 2) (2:Int32).toNatClampNeg)] _ (kc_X8_at l D c0 (by rw [G.1]; exact t_4) hq) (Nat.le_of_ble_eq_true rfl) (Nat.le_of_ble_eq_true rfl) rfl rfl hl.1 (Nat.le_of_ble_eq_true rfl) dX5_checkSigned_13 (fun T_11 H locs cells slots t_12 hu G_13 => ?_)
  have ha := hu.kind ha (by decide)
  have t_2 := hu.kind t_2 (by decide)
  have f2 := f2.up hu (by decide)
  refine W.eq (g2 := F0 m 16 ls [cl_rf c0 r_9]) rfl ?_
  refine cl_astore_n (lv' := [(3, cl_rf c0 r_9), (0, .ref (c0 + a)), (1, .ref (c0 + a_1)), (2, cl_rf c0 x2)]) C.1 C.2.1 dX5_checkSigned_16 rfl hl (by decide) (by first | rfl | (cases x2 <;> rfl)) (fun ls hl_14 => ?_)
  refine cl_aload_n C.1 C.2.1 dX5_checkSigned_17 rfl (lv_at hl_14 3 rfl) ?_
  refine lv_aload_n C.1 C.2.1 dX5_checkSigned_18 rfl (lv_at hl_14 1 rfl) ?_
  refine cg_5_51 C G_13 ha dX5_checkSigned_19 (fun t_15 => ?_)
  have t_15 : (T_11 31).1 = 26 := by rw [t_15]
  refine cg_5_83 C G_13 t_15 dX5_checkSigned_22 (fun t_16 => ?_)
  have t_16 : (T_11 33).1 = 25 := by rw [t_16]
  refine cl_acmp_eq (rx := x2) (ry := (some 33)) (tgt := 39) C.1 C.2.1 dX5_checkSigned_25 (by decide) (fun hc => ?_) (fun hc => ?_)
  · rw [if_pos hc] at h_10
    refine lv_bipush (v := (-2:Int32)) C.1 C.2.1 dX5_checkSigned_39 (by decide) ?_
    exact cl_iret ⟨rfl, rfl⟩ rfl C G_13 h_10 dX5_checkSigned_41
  · rw [if_neg hc] at h_10
    refine cl_aload_n C.1 C.2.1 dX5_checkSigned_28 rfl (lv_at hl_14 0 rfl) ?_
    refine lv_aload_n C.1 C.2.1 dX5_checkSigned_29 rfl (lv_at hl_14 1 rfl) ?_
    refine cg_5_51 C G_13 ha dX5_checkSigned_30 (fun t_17 => ?_)
    have t_17 : (T_11 31).1 = 26 := by rw [t_17]
    refine cg_5_83 C G_13 t_17 dX5_checkSigned_33 (fun t_18 => ?_)
    have t_18 : (T_11 33).1 = 25 := by rw [t_18]
    refine cl_acmp_ne (rx := r_9) (ry := (some 33)) (tgt := 42) C.1 C.2.1 dX5_checkSigned_36 (by decide) (fun hc => ?_) (fun hc => ?_)
    · rw [if_neg hc] at h_10
      refine cl_aload_n C.1 C.2.1 dX5_checkSigned_42 rfl (lv_at hl_14 3 rfl) ?_
      obtain ⟨a_19, rfl, h_21⟩ := nn_some h_10
      have t_20 := f2 _ rfl
      refine cg_5_257 C G_13 t_20 dX5_checkSigned_43 ?_
      refine lv_bipush (v := (6:Int32)) C.1 C.2.1 dX5_checkSigned_46 (by decide) ?_
      refine lv_icmp_ne (tgt := 75) C.1 C.2.1 dX5_checkSigned_48 (by decide) (fun hc => ?_) (fun hc => ?_)
      · rw [if_neg hc] at h_21
        refine lv_iconst (v := (0:Int32)) C.1 C.2.1 dX5_checkSigned_75 (by decide) ?_
        exact cl_iret ⟨rfl, rfl⟩ rfl C G_13 h_21 dX5_checkSigned_76
      · rw [if_pos hc] at h_21
        refine cl_aload_n C.1 C.2.1 dX5_checkSigned_51 rfl (lv_at hl_14 0 rfl) ?_
        obtain ⟨a_22, rfl, h_24⟩ := nn_some h_21
        have t_23 := t_12 _ rfl
        refine cg_5_257 C G_13 t_23 dX5_checkSigned_52 ?_
        refine lv_bipush (v := (7:Int32)) C.1 C.2.1 dX5_checkSigned_55 (by decide) ?_
        refine lv_icmp_ne (tgt := 75) C.1 C.2.1 dX5_checkSigned_57 (by decide) (fun hc => ?_) (fun hc => ?_)
        · rw [if_neg hc] at h_24
          refine lv_iconst (v := (0:Int32)) C.1 C.2.1 dX5_checkSigned_75 (by decide) ?_
          exact cl_iret ⟨rfl, rfl⟩ rfl C G_13 h_24 dX5_checkSigned_76
        · rw [if_pos hc] at h_24
          refine lv_aload_n C.1 C.2.1 dX5_checkSigned_60 rfl (lv_at hl_14 3 rfl) ?_
          refine cg_5_263 C G_13 t_20 dX5_checkSigned_61 (fun t_25 => ?_)
          refine vt_r (K := 25) t_25 h_24 (fun r_26 t_27 h_28 => ?_)
          refine lv_aload_n C.1 C.2.1 dX5_checkSigned_64 rfl (lv_at hl_14 0 rfl) ?_
          refine cg_5_263 C G_13 t_23 dX5_checkSigned_65 (fun t_29 => ?_)
          refine vt_r (K := 25) t_29 h_28 (fun r_30 t_31 h_32 => ?_)
          refine cl_acmp_ne (rx := r_26) (ry := r_30) (tgt := 75) C.1 C.2.1 dX5_checkSigned_68 (by decide) (fun hc => ?_) (fun hc => ?_)
          · rw [if_neg hc] at h_32
            refine lv_iconst (v := (0:Int32)) C.1 C.2.1 dX5_checkSigned_75 (by decide) ?_
            exact cl_iret ⟨rfl, rfl⟩ rfl C G_13 h_32 dX5_checkSigned_76
          · rw [if_pos hc] at h_32
            refine lv_iconst (v := (1:Int32)) C.1 C.2.1 dX5_checkSigned_71 (by decide) ?_
            refine lv_goto (tgt := 76) C.1 C.2.1 dX5_checkSigned_72 (by decide) ?_
            exact cl_iret ⟨rfl, rfl⟩ rfl C G_13 h_32 dX5_checkSigned_76
    · rw [if_pos hc] at h_10
      refine lv_bipush (v := (-2:Int32)) C.1 C.2.1 dX5_checkSigned_39 (by decide) ?_
      exact cl_iret ⟨rfl, rfl⟩ rfl C G_13 h_10 dX5_checkSigned_41
noncomputable def fc_X5_checkSigned (a : Nat) (x1 : (Option Nat)) (x2 : (Option Nat)) (σ : cl_S) : Option (Int32 × cl_S) := bc_X5_checkSigned_0 a x1 x2 σ
theorem kc_X5_checkSigned (l : Launch) (D : cl_D) (c0 : Nat) {r : Int32} {a : Nat} {x1 : (Option Nat)} {x2 : (Option Nat)} {σ σ' : cl_S} (ha : (σ.2.2.2.1 a).1 = 21) (h : fc_X5_checkSigned a x1 x2 σ = some (r, σ')) (f1 : cl_RT σ.2.2.2.1 x1 22) (f2 : cl_RT σ.2.2.2.1 x2 25) : cl_Met true l D c0 yX5_checkSigned cX5_checkSigned 4 (some .int) 2 42 [.ref (c0 + a), cl_rf c0 x1, cl_rf c0 x2] σ (some (.int r)) cl_no σ' :=
  by cases x1 <;> cases x2 <;> exact cl_of (by decide) (Nat.le_of_ble_eq_true rfl) (fun p e s m args below meth c ls C hn G hl => wc_X5_checkSigned_0 C h G ha f1 f2 hl)
end CQ8
