section CQ5
variable {p : Program} {l : Launch} {e : Env} {s : State} {m : MethodId} {args : Array Value} {below : List Frame} {meth : Method} {c : Code} {D : cl_D} {c0 : Nat}
abbrev cX2_reckon : ByteArray := prog_4_method_10_code
def yX2_reckon : MethodName := ⟨RX2, "reckon", "(III)V"⟩
theorem dX2_reckon_0 : decode cX2_reckon 0 = .ok (.aload_n 0, 1) := by decide +kernel
theorem dX2_reckon_1 : decode cX2_reckon 1 = .ok (.getfield 15, 3) := by decide +kernel
theorem dX2_reckon_4 : decode cX2_reckon 4 = .ok (.iload_n 1, 1) := by decide +kernel
theorem dX2_reckon_5 : decode cX2_reckon 5 = .ok (.bipush 18, 2) := by decide +kernel
theorem dX2_reckon_7 : decode cX2_reckon 7 = .ok (.iushr, 1) := by decide +kernel
theorem dX2_reckon_8 : decode cX2_reckon 8 = .ok (.bipush 15, 2) := by decide +kernel
theorem dX2_reckon_10 : decode cX2_reckon 10 = .ok (.iand, 1) := by decide +kernel
theorem dX2_reckon_11 : decode cX2_reckon 11 = .ok (.iaload, 1) := by decide +kernel
theorem dX2_reckon_12 : decode cX2_reckon 12 = .ok (.istore 4, 2) := by decide +kernel
theorem dX2_reckon_14 : decode cX2_reckon 14 = .ok (.iload_n 2, 1) := by decide +kernel
theorem dX2_reckon_15 : decode cX2_reckon 15 = .ok (.bipush 11, 2) := by decide +kernel
theorem dX2_reckon_17 : decode cX2_reckon 17 = .ok (.if_icmp .gt 18, 3) := by decide +kernel
theorem dX2_reckon_20 : decode cX2_reckon 20 = .ok (.aload_n 0, 1) := by decide +kernel
theorem dX2_reckon_21 : decode cX2_reckon 21 = .ok (.getfield 15, 3) := by decide +kernel
theorem dX2_reckon_24 : decode cX2_reckon 24 = .ok (.iload_n 1, 1) := by decide +kernel
theorem dX2_reckon_25 : decode cX2_reckon 25 = .ok (.bipush 14, 2) := by decide +kernel
theorem dX2_reckon_27 : decode cX2_reckon 27 = .ok (.iushr, 1) := by decide +kernel
theorem dX2_reckon_28 : decode cX2_reckon 28 = .ok (.bipush 15, 2) := by decide +kernel
theorem dX2_reckon_30 : decode cX2_reckon 30 = .ok (.iand, 1) := by decide +kernel
theorem dX2_reckon_31 : decode cX2_reckon 31 = .ok (.iaload, 1) := by decide +kernel
theorem dX2_reckon_32 : decode cX2_reckon 32 = .ok (.goto 4, 3) := by decide +kernel
theorem dX2_reckon_35 : decode cX2_reckon 35 = .ok (.iload_n 3, 1) := by decide +kernel
theorem dX2_reckon_36 : decode cX2_reckon 36 = .ok (.istore 5, 2) := by decide +kernel
theorem dX2_reckon_38 : decode cX2_reckon 38 = .ok (.aload_n 0, 1) := by decide +kernel
theorem dX2_reckon_39 : decode cX2_reckon 39 = .ok (.iload_n 1, 1) := by decide +kernel
theorem dX2_reckon_40 : decode cX2_reckon 40 = .ok (.bipush 22, 2) := by decide +kernel
theorem dX2_reckon_42 : decode cX2_reckon 42 = .ok (.iushr, 1) := by decide +kernel
theorem dX2_reckon_43 : decode cX2_reckon 43 = .ok (.bipush 15, 2) := by decide +kernel
theorem dX2_reckon_45 : decode cX2_reckon 45 = .ok (.iand, 1) := by decide +kernel
theorem dX2_reckon_46 : decode cX2_reckon 46 = .ok (.iload_n 2, 1) := by decide +kernel
theorem dX2_reckon_47 : decode cX2_reckon 47 = .ok (.bipush 21, 2) := by decide +kernel
theorem dX2_reckon_49 : decode cX2_reckon 49 = .ok (.if_icmp .ne 13, 3) := by decide +kernel
theorem dX2_reckon_52 : decode cX2_reckon 52 = .ok (.iload_n 1, 1) := by decide +kernel
theorem dX2_reckon_53 : decode cX2_reckon 53 = .ok (.ldc 81, 2) := by decide +kernel
theorem dX2_reckon_55 : decode cX2_reckon 55 = .ok (.iand, 1) := by decide +kernel
theorem dX2_reckon_56 : decode cX2_reckon 56 = .ok (.bipush 14, 2) := by decide +kernel
theorem dX2_reckon_58 : decode cX2_reckon 58 = .ok (.ishl, 1) := by decide +kernel
theorem dX2_reckon_59 : decode cX2_reckon 59 = .ok (.goto 11, 3) := by decide +kernel
theorem dX2_reckon_62 : decode cX2_reckon 62 = .ok (.iload_n 2, 1) := by decide +kernel
theorem dX2_reckon_63 : decode cX2_reckon 63 = .ok (.iload 4, 2) := by decide +kernel
theorem dX2_reckon_65 : decode cX2_reckon 65 = .ok (.iload 5, 2) := by decide +kernel
theorem dX2_reckon_67 : decode cX2_reckon 67 = .ok (.invokestatic 82, 3) := by decide +kernel
theorem dX2_reckon_70 : decode cX2_reckon 70 = .ok (.invokevirtual 86, 3) := by decide +kernel
theorem dX2_reckon_73 : decode cX2_reckon 73 = .ok (.aload_n 0, 1) := by decide +kernel
theorem dX2_reckon_74 : decode cX2_reckon 74 = .ok (.dup, 1) := by decide +kernel
theorem dX2_reckon_75 : decode cX2_reckon 75 = .ok (.getfield 28, 3) := by decide +kernel
theorem dX2_reckon_78 : decode cX2_reckon 78 = .ok (.iconst 4, 1) := by decide +kernel
theorem dX2_reckon_79 : decode cX2_reckon 79 = .ok (.iadd, 1) := by decide +kernel
theorem dX2_reckon_80 : decode cX2_reckon 80 = .ok (.putfield 28, 3) := by decide +kernel
theorem dX2_reckon_83 : decode cX2_reckon 83 = .ok (.return_, 1) := by decide +kernel
theorem cc_X2_reckon : Cond.code yX2_reckon cX2_reckon 6 none ∈ rf_tb := rf_at 1124 (by decide +kernel) (by decide +kernel)
theorem cw_RX2_82 : cl_wS RX2 yX2_result cX2_result 3 (some .int) 82 3 := ⟨⟨rf_at 1126 (by decide +kernel) (by decide +kernel), rf_at 1127 (by decide +kernel) (by decide +kernel), cc_X2_result, rf_at 16 (by decide +kernel) (by decide +kernel)⟩, ⟨by decide, by decide, by decide +kernel⟩⟩
theorem cw_RX2_86 : cl_wV RX2 RX2 yX2_write cX2_write 3 none 86 2 := ⟨⟨rf_at 1133 (by decide +kernel) (by decide +kernel), rf_at 1135 (by decide +kernel) (by decide +kernel), rf_sel (q := (yX2_write, 9)) 38 (by decide +kernel) (by decide +kernel), cc_X2_write, rf_at 16 (by decide +kernel) (by decide +kernel)⟩, ⟨by decide, by decide, by decide +kernel⟩⟩
theorem kc_RX2_81 : Cond.constant RX2 81 (262143 : Int32) ∈ rf_tb := rf_at 1125 (by decide +kernel) (by decide +kernel)
noncomputable def bc_X2_reckon_70 (a : Nat) (v0 : (Option Nat)) (v1 : Int32) (v2 : Int32) (σ : cl_S) : Option (cl_S) := nn v0 (fun a_13 => bd1 (fc_X2_write a_13 v1 v2 σ) (fun σ_16 => vl (cl_w σ_16 a 3 ((σ_16.1 a 3) + (4:Int32))) (fun σ_21 => some σ_21)))
set_option maxHeartbeats 4000000 in
theorem wc_X2_reckon_70 (C : cl_C D p s m args meth c cX2_reckon 6 none RX2) {a : Nat} {v0 : (Option Nat)} {v1 : Int32} {v2 : Int32} {σ0 σ σ' : cl_S} {T : Nat → Nat × Nat} {H : Heap} {locs : List Loc} {ls : Array Slot} {cells slots : Nat} (h : bc_X2_reckon_70 a v0 v1 v2 σ = some σ') (G : cl_G true D c0 ({ frames := 2, cells := σ0.2.2.2.2.2.1, slots := σ0.2.2.2.2.2.2, locals := 43 }) s σ0.2.2.2.1 T σ H locs cells slots) (ha : (T a).1 = 18) (g0 : cl_RT T v0 18) (hl : lv_has ls 6 [(0, .ref (c0 + a))]) : W p l e ({ frames := 2, cells := σ0.2.2.2.2.2.1, slots := σ0.2.2.2.2.2.2, locals := 43 }) s m args below meth c H locs cells slots (MQ below (cl_Q true D c0 none cl_no σ0 σ') args s (σ0.2.2.2.2.2.1 - σ'.2.2.2.2.2.1) (σ0.2.2.2.2.2.2 - σ'.2.2.2.2.2.2) (cl_A c0 σ0.2.2.2.1 s.heap.size)) (F0 m 70 ls [.int v2, .int v1, cl_rf c0 v0]) := by
  unfold bc_X2_reckon_70 at h
  obtain ⟨a_13, rfl, h_15⟩ := nn_some h
  have t_14 := g0 _ rfl
  obtain ⟨σ_16, hq, h_17⟩ := bd1_some h_15
  refine cl_callV (ci := 2) (rest := []) C G rfl t_14 cw_RX2_86 [.int v1, .int v2] _ (kc_X2_write l D c0 (by rw [G.1]; exact t_14) hq) (Nat.le_of_ble_eq_true rfl) (Nat.le_of_ble_eq_true rfl) rfl rfl hl.1 (Nat.le_of_ble_eq_true rfl) dX2_reckon_70 (fun T_18 H locs cells slots t_19 hu G_20 => ?_)
  have ha := hu.kind ha (by decide)
  refine W.eq (g2 := F0 m 73 ls []) rfl ?_
  refine lv_aload_n C.1 C.2.1 dX2_reckon_73 rfl (lv_at hl 0 rfl) ?_
  refine lv_dup C.1 C.2.1 dX2_reckon_74 rfl ?_
  refine cg_2_28 C G_20 ha dX2_reckon_75 ?_
  refine lv_iconst (v := (4:Int32)) C.1 C.2.1 dX2_reckon_78 (by decide) ?_
  refine lv_iadd C.1 C.2.1 dX2_reckon_79 ?_
  refine cp_2_28 C G_20 ha dX2_reckon_80 (fun H locs G_22 => ?_)
  refine cl_nm G_22 h_17 (fun σ_21 G_23 h_24 => ?_)
  exact cl_vret ⟨rfl, rfl⟩ rfl C G_23 h_24 dX2_reckon_83
noncomputable def bc_X2_reckon_36 (a : Nat) (x1 : Int32) (x2 : Int32) (x4 : Int32) (v0 : Int32) (σ : cl_S) : Option (cl_S) := (if x2 = (21:Int32) then bc_X2_reckon_70 a (some a) (((x1.toUInt32 >>> ((22:Int32).toUInt32 &&& Int32.toUInt32 31)).toInt32) &&& (15:Int32)) ((x1 &&& (262143:Int32)) <<< ((14:Int32) &&& 31)) σ else bd2 (fc_X2_result x2 x4 v0 σ) (fun r_8 σ_7 => bc_X2_reckon_70 a (some a) (((x1.toUInt32 >>> ((22:Int32).toUInt32 &&& Int32.toUInt32 31)).toInt32) &&& (15:Int32)) r_8 σ_7))
set_option maxHeartbeats 4000000 in
theorem wc_X2_reckon_36 (C : cl_C D p s m args meth c cX2_reckon 6 none RX2) {a : Nat} {x1 : Int32} {x2 : Int32} {x4 : Int32} {v0 : Int32} {σ0 σ σ' : cl_S} {T : Nat → Nat × Nat} {H : Heap} {locs : List Loc} {ls : Array Slot} {cells slots : Nat} (h : bc_X2_reckon_36 a x1 x2 x4 v0 σ = some σ') (G : cl_G true D c0 ({ frames := 2, cells := σ0.2.2.2.2.2.1, slots := σ0.2.2.2.2.2.2, locals := 43 }) s σ0.2.2.2.1 T σ H locs cells slots) (ha : (T a).1 = 18) (hl : lv_has ls 6 [(0, .ref (c0 + a)), (1, .int x1), (2, .int x2), (4, .int x4)]) : W p l e ({ frames := 2, cells := σ0.2.2.2.2.2.1, slots := σ0.2.2.2.2.2.2, locals := 43 }) s m args below meth c H locs cells slots (MQ below (cl_Q true D c0 none cl_no σ0 σ') args s (σ0.2.2.2.2.2.1 - σ'.2.2.2.2.2.1) (σ0.2.2.2.2.2.2 - σ'.2.2.2.2.2.2) (cl_A c0 σ0.2.2.2.1 s.heap.size)) (F0 m 36 ls [.int v0]) := by
  unfold bc_X2_reckon_36 at h
  refine lv_istore (lv' := [(5, .int v0), (0, .ref (c0 + a)), (1, .int x1), (2, .int x2), (4, .int x4)]) C.1 C.2.1 dX2_reckon_36 hl (by decide) rfl (fun ls hl_6 => ?_)
  refine lv_aload_n C.1 C.2.1 dX2_reckon_38 rfl (lv_at hl_6 1 rfl) ?_
  refine lv_iload_n C.1 C.2.1 dX2_reckon_39 rfl (lv_at hl_6 2 rfl) ?_
  refine lv_bipush (v := (22:Int32)) C.1 C.2.1 dX2_reckon_40 (by decide) ?_
  refine lv_iushr C.1 C.2.1 dX2_reckon_42 rfl ?_
  refine lv_bipush (v := (15:Int32)) C.1 C.2.1 dX2_reckon_43 (by decide) ?_
  refine lv_iand C.1 C.2.1 dX2_reckon_45 ?_
  refine lv_iload_n C.1 C.2.1 dX2_reckon_46 rfl (lv_at hl_6 3 rfl) ?_
  refine lv_bipush (v := (21:Int32)) C.1 C.2.1 dX2_reckon_47 (by decide) ?_
  refine lv_icmp_ne (tgt := 62) C.1 C.2.1 dX2_reckon_49 (by decide) (fun hc => ?_) (fun hc => ?_)
  · rw [if_neg hc] at h
    refine lv_iload_n C.1 C.2.1 dX2_reckon_62 rfl (lv_at hl_6 3 rfl) ?_
    refine lv_iload C.1 C.2.1 dX2_reckon_63 (lv_at hl_6 4 rfl) ?_
    refine lv_iload C.1 C.2.1 dX2_reckon_65 (lv_at hl_6 0 rfl) ?_
    obtain ⟨r_8, σ_7, hq, h_9⟩ := bd2_some h
    refine cl_callS (rest := [.int (((x1.toUInt32 >>> ((22:Int32).toUInt32 &&& Int32.toUInt32 31)).toInt32) &&& (15:Int32)), .ref (c0 + a)]) C G cw_RX2_82 [.int x2, .int x4, .int v0] _ (kc_X2_result l D c0 hq) (Nat.le_of_ble_eq_true rfl) (Nat.le_of_ble_eq_true rfl) rfl rfl hl_6.1 (Nat.le_of_ble_eq_true rfl) dX2_reckon_67 (fun T_10 H locs cells slots t_11 hu G_12 => ?_)
    have ha := hu.kind ha (by decide)
    refine W.eq (g2 := F0 m 70 ls [.int r_8, .int (((x1.toUInt32 >>> ((22:Int32).toUInt32 &&& Int32.toUInt32 31)).toInt32) &&& (15:Int32)), .ref (c0 + a)]) rfl ?_
    exact wc_X2_reckon_70 C h_9 G_12 ha (cl_RTs ha) (lv_sub hl_6 [1] rfl)
  · rw [if_pos hc] at h
    refine lv_iload_n C.1 C.2.1 dX2_reckon_52 rfl (lv_at hl_6 2 rfl) ?_
    refine lv_ldc (v := (262143:Int32)) C.1 C.2.1 C.2.2.2.1 (C.2.2.2.2.1 _ kc_RX2_81) dX2_reckon_53 ?_
    refine lv_iand C.1 C.2.1 dX2_reckon_55 ?_
    refine lv_bipush (v := (14:Int32)) C.1 C.2.1 dX2_reckon_56 (by decide) ?_
    refine lv_ishl C.1 C.2.1 dX2_reckon_58 ?_
    refine lv_goto (tgt := 70) C.1 C.2.1 dX2_reckon_59 (by decide) ?_
    exact wc_X2_reckon_70 C h G ha (cl_RTs ha) (lv_sub hl_6 [1] rfl)
noncomputable def bc_X2_reckon_0 (a : Nat) (x1 : Int32) (x2 : Int32) (x3 : Int32) (σ : cl_S) : Option (cl_S) := ix (((x1.toUInt32 >>> ((18:Int32).toUInt32 &&& Int32.toUInt32 31)).toInt32) &&& (15:Int32)) 16 (vl (σ.1 (a + 2) (((x1.toUInt32 >>> ((18:Int32).toUInt32 &&& Int32.toUInt32 31)).toInt32) &&& (15:Int32)).toNatClampNeg) (fun x4_3 => (if (11:Int32) < x2 then bc_X2_reckon_36 a x1 x2 x4_3 x3 σ else ix (((x1.toUInt32 >>> ((14:Int32).toUInt32 &&& Int32.toUInt32 31)).toInt32) &&& (15:Int32)) 16 (bc_X2_reckon_36 a x1 x2 x4_3 (σ.1 (a + 2) (((x1.toUInt32 >>> ((14:Int32).toUInt32 &&& Int32.toUInt32 31)).toInt32) &&& (15:Int32)).toNatClampNeg) σ))))
set_option maxHeartbeats 4000000 in
theorem wc_X2_reckon_0 (C : cl_C D p s m args meth c cX2_reckon 6 none RX2) {a : Nat} {x1 : Int32} {x2 : Int32} {x3 : Int32} {σ0 σ σ' : cl_S} {T : Nat → Nat × Nat} {H : Heap} {locs : List Loc} {ls : Array Slot} {cells slots : Nat} (h : bc_X2_reckon_0 a x1 x2 x3 σ = some σ') (G : cl_G true D c0 ({ frames := 2, cells := σ0.2.2.2.2.2.1, slots := σ0.2.2.2.2.2.2, locals := 43 }) s σ0.2.2.2.1 T σ H locs cells slots) (ha : (T a).1 = 18) (hl : lv_has ls 6 [(0, .ref (c0 + a)), (1, .int x1), (2, .int x2), (3, .int x3)]) : W p l e ({ frames := 2, cells := σ0.2.2.2.2.2.1, slots := σ0.2.2.2.2.2.2, locals := 43 }) s m args below meth c H locs cells slots (MQ below (cl_Q true D c0 none cl_no σ0 σ') args s (σ0.2.2.2.2.2.1 - σ'.2.2.2.2.2.1) (σ0.2.2.2.2.2.2 - σ'.2.2.2.2.2.2) (cl_A c0 σ0.2.2.2.1 s.heap.size)) (F0 m 0 ls []) := by
  unfold bc_X2_reckon_0 at h
  refine lv_aload_n C.1 C.2.1 dX2_reckon_0 rfl (lv_at hl 0 rfl) ?_
  refine cg_2_15 C G ha dX2_reckon_1 (fun t_1 => ?_)
  refine lv_iload_n C.1 C.2.1 dX2_reckon_4 rfl (lv_at hl 1 rfl) ?_
  refine lv_bipush (v := (18:Int32)) C.1 C.2.1 dX2_reckon_5 (by decide) ?_
  refine lv_iushr C.1 C.2.1 dX2_reckon_7 rfl ?_
  refine lv_bipush (v := (15:Int32)) C.1 C.2.1 dX2_reckon_8 (by decide) ?_
  refine lv_iand C.1 C.2.1 dX2_reckon_10 ?_
  obtain ⟨hi, h_2⟩ := ix_some h
  refine cl_iald C G t_1 hi dX2_reckon_11 ?_
  refine vt_i h_2 (fun x4_3 h_4 => ?_)
  refine lv_istore (lv' := [(4, .int x4_3), (0, .ref (c0 + a)), (1, .int x1), (2, .int x2), (3, .int x3)]) C.1 C.2.1 dX2_reckon_12 hl (by decide) rfl (fun ls hl_5 => ?_)
  refine lv_iload_n C.1 C.2.1 dX2_reckon_14 rfl (lv_at hl_5 3 rfl) ?_
  refine lv_bipush (v := (11:Int32)) C.1 C.2.1 dX2_reckon_15 (by decide) ?_
  refine lv_icmp_gt (tgt := 35) C.1 C.2.1 dX2_reckon_17 (by decide) (fun hc => ?_) (fun hc => ?_)
  · rw [if_pos hc] at h_4
    refine lv_iload_n C.1 C.2.1 dX2_reckon_35 rfl (lv_at hl_5 4 rfl) ?_
    exact wc_X2_reckon_36 C h_4 G ha (lv_sub hl_5 [1, 2, 3, 0] rfl)
  · rw [if_neg hc] at h_4
    refine lv_aload_n C.1 C.2.1 dX2_reckon_20 rfl (lv_at hl_5 1 rfl) ?_
    refine cg_2_15 C G ha dX2_reckon_21 (fun t_25 => ?_)
    refine lv_iload_n C.1 C.2.1 dX2_reckon_24 rfl (lv_at hl_5 2 rfl) ?_
    refine lv_bipush (v := (14:Int32)) C.1 C.2.1 dX2_reckon_25 (by decide) ?_
    refine lv_iushr C.1 C.2.1 dX2_reckon_27 rfl ?_
    refine lv_bipush (v := (15:Int32)) C.1 C.2.1 dX2_reckon_28 (by decide) ?_
    refine lv_iand C.1 C.2.1 dX2_reckon_30 ?_
    obtain ⟨hi, h_26⟩ := ix_some h_4
    refine cl_iald C G t_25 hi dX2_reckon_31 ?_
    refine lv_goto (tgt := 36) C.1 C.2.1 dX2_reckon_32 (by decide) ?_
    exact wc_X2_reckon_36 C h_26 G ha (lv_sub hl_5 [1, 2, 3, 0] rfl)
noncomputable def fc_X2_reckon (a : Nat) (x1 : Int32) (x2 : Int32) (x3 : Int32) (σ : cl_S) : Option (cl_S) := bc_X2_reckon_0 a x1 x2 x3 σ
theorem kc_X2_reckon (l : Launch) (D : cl_D) (c0 : Nat) {a : Nat} {x1 : Int32} {x2 : Int32} {x3 : Int32} {σ σ' : cl_S} (ha : (σ.2.2.2.1 a).1 = 18) (h : fc_X2_reckon a x1 x2 x3 σ = some σ') : cl_Met true l D c0 yX2_reckon cX2_reckon 6 none 2 43 [.ref (c0 + a), .int x1, .int x2, .int x3] σ none cl_no σ' :=
  cl_of (by decide) (Nat.le_of_ble_eq_true rfl) (fun p e s m args below meth c ls C hn G hl => wc_X2_reckon_0 C h G ha hl)
abbrev cX2_loaded : ByteArray := prog_4_method_15_code
def yX2_loaded : MethodName := ⟨RX2, "loaded", "(II)I"⟩
theorem dX2_loaded_0 : decode cX2_loaded 0 = .ok (.iload_n 0, 1) := by decide +kernel
theorem dX2_loaded_1 : decode cX2_loaded 1 = .ok (.tableswitch 44 22 25 #[31, 33, 36, 41], 31) := by decide +kernel
theorem dX2_loaded_32 : decode cX2_loaded 32 = .ok (.iload_n 1, 1) := by decide +kernel
theorem dX2_loaded_33 : decode cX2_loaded 33 = .ok (.ireturn, 1) := by decide +kernel
theorem dX2_loaded_34 : decode cX2_loaded 34 = .ok (.iload_n 1, 1) := by decide +kernel
theorem dX2_loaded_35 : decode cX2_loaded 35 = .ok (.i2s, 1) := by decide +kernel
theorem dX2_loaded_36 : decode cX2_loaded 36 = .ok (.ireturn, 1) := by decide +kernel
theorem dX2_loaded_37 : decode cX2_loaded 37 = .ok (.iload_n 1, 1) := by decide +kernel
theorem dX2_loaded_38 : decode cX2_loaded 38 = .ok (.ldc 104, 2) := by decide +kernel
theorem dX2_loaded_40 : decode cX2_loaded 40 = .ok (.iand, 1) := by decide +kernel
theorem dX2_loaded_41 : decode cX2_loaded 41 = .ok (.ireturn, 1) := by decide +kernel
theorem dX2_loaded_42 : decode cX2_loaded 42 = .ok (.iload_n 1, 1) := by decide +kernel
theorem dX2_loaded_43 : decode cX2_loaded 43 = .ok (.i2b, 1) := by decide +kernel
theorem dX2_loaded_44 : decode cX2_loaded 44 = .ok (.ireturn, 1) := by decide +kernel
theorem dX2_loaded_45 : decode cX2_loaded 45 = .ok (.iload_n 1, 1) := by decide +kernel
theorem dX2_loaded_46 : decode cX2_loaded 46 = .ok (.sipush 255, 3) := by decide +kernel
theorem dX2_loaded_49 : decode cX2_loaded 49 = .ok (.iand, 1) := by decide +kernel
theorem dX2_loaded_50 : decode cX2_loaded 50 = .ok (.ireturn, 1) := by decide +kernel
theorem cc_X2_loaded : Cond.code yX2_loaded cX2_loaded 2 (some .int) ∈ rf_tb := rf_at 1147 (by decide +kernel) (by decide +kernel)
theorem kc_RX2_104 : Cond.constant RX2 104 (65535 : Int32) ∈ rf_tb := rf_at 1144 (by decide +kernel) (by decide +kernel)
noncomputable def bc_X2_loaded_0 (x0 : Int32) (x1 : Int32) (σ : cl_S) : Option (Int32 × cl_S) := (if x0 = (22:Int32) then some (x1, σ) else if x0 = (23:Int32) then some (x1.toInt16.toInt32, σ) else if x0 = (24:Int32) then some ((x1 &&& (65535:Int32)), σ) else if x0 = (25:Int32) then some (x1.toInt8.toInt32, σ) else some ((x1 &&& (255:Int32)), σ))
set_option maxHeartbeats 4000000 in
theorem wc_X2_loaded_0 (C : cl_C D p s m args meth c cX2_loaded 2 (some .int) RX2) {r : Int32} {x0 : Int32} {x1 : Int32} {σ0 σ σ' : cl_S} {T : Nat → Nat × Nat} {H : Heap} {locs : List Loc} {ls : Array Slot} {cells slots : Nat} (h : bc_X2_loaded_0 x0 x1 σ = some (r, σ')) (G : cl_G true D c0 ({ frames := 0, cells := σ0.2.2.2.2.2.1, slots := σ0.2.2.2.2.2.2, locals := 0 }) s σ0.2.2.2.1 T σ H locs cells slots) (hl : lv_has ls 2 [(0, .int x0), (1, .int x1)]) : W p l e ({ frames := 0, cells := σ0.2.2.2.2.2.1, slots := σ0.2.2.2.2.2.2, locals := 0 }) s m args below meth c H locs cells slots (MQ below (cl_Q true D c0 (some (.int r)) cl_no σ0 σ') args s (σ0.2.2.2.2.2.1 - σ'.2.2.2.2.2.1) (σ0.2.2.2.2.2.2 - σ'.2.2.2.2.2.2) (cl_A c0 σ0.2.2.2.1 s.heap.size)) (F0 m 0 ls []) := by
  unfold bc_X2_loaded_0 at h
  refine lv_iload_n C.1 C.2.1 dX2_loaded_0 rfl (lv_at hl 0 rfl) ?_
  by_cases hk22 : x0 = (22:Int32)
  · rw [if_pos hk22] at h
    refine lv_tableIn (tgt := 32) C.1 C.2.1 dX2_loaded_1 (by rw [hk22]; decide) (by rw [hk22]; decide) (by rw [hk22]; rfl) (by decide) ?_
    refine lv_iload_n C.1 C.2.1 dX2_loaded_32 rfl (lv_at hl 1 rfl) ?_
    exact cl_iret ⟨rfl, rfl⟩ rfl C G h dX2_loaded_33
  rw [if_neg hk22] at h
  by_cases hk23 : x0 = (23:Int32)
  · rw [if_pos hk23] at h
    refine lv_tableIn (tgt := 34) C.1 C.2.1 dX2_loaded_1 (by rw [hk23]; decide) (by rw [hk23]; decide) (by rw [hk23]; rfl) (by decide) ?_
    refine lv_iload_n C.1 C.2.1 dX2_loaded_34 rfl (lv_at hl 1 rfl) ?_
    refine lv_i2s C.1 C.2.1 dX2_loaded_35 rfl ?_
    exact cl_iret ⟨rfl, rfl⟩ rfl C G h dX2_loaded_36
  rw [if_neg hk23] at h
  by_cases hk24 : x0 = (24:Int32)
  · rw [if_pos hk24] at h
    refine lv_tableIn (tgt := 37) C.1 C.2.1 dX2_loaded_1 (by rw [hk24]; decide) (by rw [hk24]; decide) (by rw [hk24]; rfl) (by decide) ?_
    refine lv_iload_n C.1 C.2.1 dX2_loaded_37 rfl (lv_at hl 1 rfl) ?_
    refine lv_ldc (v := (65535:Int32)) C.1 C.2.1 C.2.2.2.1 (C.2.2.2.2.1 _ kc_RX2_104) dX2_loaded_38 ?_
    refine lv_iand C.1 C.2.1 dX2_loaded_40 ?_
    exact cl_iret ⟨rfl, rfl⟩ rfl C G h dX2_loaded_41
  rw [if_neg hk24] at h
  by_cases hk25 : x0 = (25:Int32)
  · rw [if_pos hk25] at h
    refine lv_tableIn (tgt := 42) C.1 C.2.1 dX2_loaded_1 (by rw [hk25]; decide) (by rw [hk25]; decide) (by rw [hk25]; rfl) (by decide) ?_
    refine lv_iload_n C.1 C.2.1 dX2_loaded_42 rfl (lv_at hl 1 rfl) ?_
    refine lv_i2b C.1 C.2.1 dX2_loaded_43 rfl ?_
    exact cl_iret ⟨rfl, rfl⟩ rfl C G h dX2_loaded_44
  rw [if_neg hk25] at h
  refine lv_tableOut (tgt := 45) C.1 C.2.1 dX2_loaded_1 ?_ (by decide) ?_
  · rcases Int.lt_or_le x0.toInt 22 with q | q
    · exact Or.inl q
    · rcases Int.lt_or_le 25 x0.toInt with q2 | q2
      · exact Or.inr q2
      · exfalso
        have hd : x0.toInt = (22 : Int) ∨ x0.toInt = (23 : Int) ∨ x0.toInt = (24 : Int) ∨ x0.toInt = (25 : Int) := by omega
        rcases hd with e | e | e | e
        · exact hk22 (Int32.toInt_inj.mp (e.trans (by decide)))
        · exact hk23 (Int32.toInt_inj.mp (e.trans (by decide)))
        · exact hk24 (Int32.toInt_inj.mp (e.trans (by decide)))
        · exact hk25 (Int32.toInt_inj.mp (e.trans (by decide)))
  · refine lv_iload_n C.1 C.2.1 dX2_loaded_45 rfl (lv_at hl 1 rfl) ?_
    refine lv_sipush (v := (255:Int32)) C.1 C.2.1 dX2_loaded_46 (by decide) ?_
    refine lv_iand C.1 C.2.1 dX2_loaded_49 ?_
    exact cl_iret ⟨rfl, rfl⟩ rfl C G h dX2_loaded_50
noncomputable def fc_X2_loaded (x0 : Int32) (x1 : Int32) (σ : cl_S) : Option (Int32 × cl_S) := bc_X2_loaded_0 x0 x1 σ
theorem kc_X2_loaded (l : Launch) (D : cl_D) (c0 : Nat) {r : Int32} {x0 : Int32} {x1 : Int32} {σ σ' : cl_S} (h : fc_X2_loaded x0 x1 σ = some (r, σ')) : cl_Met true l D c0 yX2_loaded cX2_loaded 2 (some .int) 0 0 [.int x0, .int x1] σ (some (.int r)) cl_no σ' :=
  cl_of (by decide) (Nat.le_of_ble_eq_true rfl) (fun p e s m args below meth c ls C hn G hl => wc_X2_loaded_0 C h G  hl)
abbrev cX2_access : ByteArray := prog_4_method_14_code
def yX2_access : MethodName := ⟨RX2, "access", "(III)V"⟩
theorem dX2_access_0 : decode cX2_access 0 = .ok (.iload_n 3, 1) := by decide +kernel
theorem dX2_access_1 : decode cX2_access 1 = .ok (.iload_n 1, 1) := by decide +kernel
theorem dX2_access_2 : decode cX2_access 2 = .ok (.invokestatic 97, 3) := by decide +kernel
theorem dX2_access_5 : decode cX2_access 5 = .ok (.iconst 1, 1) := by decide +kernel
theorem dX2_access_6 : decode cX2_access 6 = .ok (.isub, 1) := by decide +kernel
theorem dX2_access_7 : decode cX2_access 7 = .ok (.iand, 1) := by decide +kernel
theorem dX2_access_8 : decode cX2_access 8 = .ok (.ifCond .eq 9, 3) := by decide +kernel
theorem dX2_access_11 : decode cX2_access 11 = .ok (.aload_n 0, 1) := by decide +kernel
theorem dX2_access_12 : decode cX2_access 12 = .ok (.iconst 3, 1) := by decide +kernel
theorem dX2_access_13 : decode cX2_access 13 = .ok (.invokevirtual 59, 3) := by decide +kernel
theorem dX2_access_16 : decode cX2_access 16 = .ok (.return_, 1) := by decide +kernel
theorem dX2_access_17 : decode cX2_access 17 = .ok (.iload_n 3, 1) := by decide +kernel
theorem dX2_access_18 : decode cX2_access 18 = .ok (.ifCond .lt 13, 3) := by decide +kernel
theorem dX2_access_21 : decode cX2_access 21 = .ok (.iload_n 3, 1) := by decide +kernel
theorem dX2_access_22 : decode cX2_access 22 = .ok (.iconst 4, 1) := by decide +kernel
theorem dX2_access_23 : decode cX2_access 23 = .ok (.aload_n 0, 1) := by decide +kernel
theorem dX2_access_24 : decode cX2_access 24 = .ok (.getfield 18, 3) := by decide +kernel
theorem dX2_access_27 : decode cX2_access 27 = .ok (.imul, 1) := by decide +kernel
theorem dX2_access_28 : decode cX2_access 28 = .ok (.if_icmp .lt 9, 3) := by decide +kernel
theorem dX2_access_31 : decode cX2_access 31 = .ok (.aload_n 0, 1) := by decide +kernel
theorem dX2_access_32 : decode cX2_access 32 = .ok (.iconst 2, 1) := by decide +kernel
theorem dX2_access_33 : decode cX2_access 33 = .ok (.invokevirtual 59, 3) := by decide +kernel
theorem dX2_access_36 : decode cX2_access 36 = .ok (.return_, 1) := by decide +kernel
theorem dX2_access_37 : decode cX2_access 37 = .ok (.iload_n 3, 1) := by decide +kernel
theorem dX2_access_38 : decode cX2_access 38 = .ok (.iconst 2, 1) := by decide +kernel
theorem dX2_access_39 : decode cX2_access 39 = .ok (.ishr, 1) := by decide +kernel
theorem dX2_access_40 : decode cX2_access 40 = .ok (.istore 4, 2) := by decide +kernel
theorem dX2_access_42 : decode cX2_access 42 = .ok (.bipush 8, 2) := by decide +kernel
theorem dX2_access_44 : decode cX2_access 44 = .ok (.iload_n 3, 1) := by decide +kernel
theorem dX2_access_45 : decode cX2_access 45 = .ok (.iconst 3, 1) := by decide +kernel
theorem dX2_access_46 : decode cX2_access 46 = .ok (.iand, 1) := by decide +kernel
theorem dX2_access_47 : decode cX2_access 47 = .ok (.imul, 1) := by decide +kernel
theorem dX2_access_48 : decode cX2_access 48 = .ok (.istore 5, 2) := by decide +kernel
theorem dX2_access_50 : decode cX2_access 50 = .ok (.iload_n 1, 1) := by decide +kernel
theorem dX2_access_51 : decode cX2_access 51 = .ok (.invokestatic 101, 3) := by decide +kernel
theorem dX2_access_54 : decode cX2_access 54 = .ok (.ifCond .eq 67, 3) := by decide +kernel
theorem dX2_access_57 : decode cX2_access 57 = .ok (.iload_n 1, 1) := by decide +kernel
theorem dX2_access_58 : decode cX2_access 58 = .ok (.bipush 27, 2) := by decide +kernel
theorem dX2_access_60 : decode cX2_access 60 = .ok (.if_icmp .ne 7, 3) := by decide +kernel
theorem dX2_access_63 : decode cX2_access 63 = .ok (.iconst (-1), 1) := by decide +kernel
theorem dX2_access_64 : decode cX2_access 64 = .ok (.goto 17, 3) := by decide +kernel
theorem dX2_access_67 : decode cX2_access 67 = .ok (.iload_n 1, 1) := by decide +kernel
theorem dX2_access_68 : decode cX2_access 68 = .ok (.bipush 28, 2) := by decide +kernel
theorem dX2_access_70 : decode cX2_access 70 = .ok (.if_icmp .ne 8, 3) := by decide +kernel
theorem dX2_access_73 : decode cX2_access 73 = .ok (.ldc 104, 2) := by decide +kernel
theorem dX2_access_75 : decode cX2_access 75 = .ok (.goto 6, 3) := by decide +kernel
theorem dX2_access_78 : decode cX2_access 78 = .ok (.sipush 255, 3) := by decide +kernel
theorem dX2_access_81 : decode cX2_access 81 = .ok (.iload 5, 2) := by decide +kernel
theorem dX2_access_83 : decode cX2_access 83 = .ok (.ishl, 1) := by decide +kernel
theorem dX2_access_84 : decode cX2_access 84 = .ok (.istore 6, 2) := by decide +kernel
theorem dX2_access_86 : decode cX2_access 86 = .ok (.aload_n 0, 1) := by decide +kernel
theorem dX2_access_87 : decode cX2_access 87 = .ok (.getfield 9, 3) := by decide +kernel
theorem dX2_access_90 : decode cX2_access 90 = .ok (.iload 4, 2) := by decide +kernel
theorem dX2_access_92 : decode cX2_access 92 = .ok (.aload_n 0, 1) := by decide +kernel
theorem dX2_access_93 : decode cX2_access 93 = .ok (.getfield 9, 3) := by decide +kernel
theorem dX2_access_96 : decode cX2_access 96 = .ok (.iload 4, 2) := by decide +kernel
theorem dX2_access_98 : decode cX2_access 98 = .ok (.iaload, 1) := by decide +kernel
theorem dX2_access_99 : decode cX2_access 99 = .ok (.iload 6, 2) := by decide +kernel
theorem dX2_access_101 : decode cX2_access 101 = .ok (.iconst (-1), 1) := by decide +kernel
theorem dX2_access_102 : decode cX2_access 102 = .ok (.ixor, 1) := by decide +kernel
theorem dX2_access_103 : decode cX2_access 103 = .ok (.iand, 1) := by decide +kernel
theorem dX2_access_104 : decode cX2_access 104 = .ok (.aload_n 0, 1) := by decide +kernel
theorem dX2_access_105 : decode cX2_access 105 = .ok (.getfield 15, 3) := by decide +kernel
theorem dX2_access_108 : decode cX2_access 108 = .ok (.iload_n 2, 1) := by decide +kernel
theorem dX2_access_109 : decode cX2_access 109 = .ok (.iaload, 1) := by decide +kernel
theorem dX2_access_110 : decode cX2_access 110 = .ok (.iload 5, 2) := by decide +kernel
theorem dX2_access_112 : decode cX2_access 112 = .ok (.ishl, 1) := by decide +kernel
theorem dX2_access_113 : decode cX2_access 113 = .ok (.iload 6, 2) := by decide +kernel
theorem dX2_access_115 : decode cX2_access 115 = .ok (.iand, 1) := by decide +kernel
theorem dX2_access_116 : decode cX2_access 116 = .ok (.ior, 1) := by decide +kernel
theorem dX2_access_117 : decode cX2_access 117 = .ok (.iastore, 1) := by decide +kernel
theorem dX2_access_118 : decode cX2_access 118 = .ok (.goto 22, 3) := by decide +kernel
theorem dX2_access_121 : decode cX2_access 121 = .ok (.aload_n 0, 1) := by decide +kernel
theorem dX2_access_122 : decode cX2_access 122 = .ok (.iload_n 2, 1) := by decide +kernel
theorem dX2_access_123 : decode cX2_access 123 = .ok (.iload_n 1, 1) := by decide +kernel
theorem dX2_access_124 : decode cX2_access 124 = .ok (.aload_n 0, 1) := by decide +kernel
theorem dX2_access_125 : decode cX2_access 125 = .ok (.getfield 9, 3) := by decide +kernel
theorem dX2_access_128 : decode cX2_access 128 = .ok (.iload 4, 2) := by decide +kernel
theorem dX2_access_130 : decode cX2_access 130 = .ok (.iaload, 1) := by decide +kernel
theorem dX2_access_131 : decode cX2_access 131 = .ok (.iload 5, 2) := by decide +kernel
theorem dX2_access_133 : decode cX2_access 133 = .ok (.iushr, 1) := by decide +kernel
theorem dX2_access_134 : decode cX2_access 134 = .ok (.invokestatic 105, 3) := by decide +kernel
theorem dX2_access_137 : decode cX2_access 137 = .ok (.invokevirtual 86, 3) := by decide +kernel
theorem dX2_access_140 : decode cX2_access 140 = .ok (.aload_n 0, 1) := by decide +kernel
theorem dX2_access_141 : decode cX2_access 141 = .ok (.dup, 1) := by decide +kernel
theorem dX2_access_142 : decode cX2_access 142 = .ok (.getfield 28, 3) := by decide +kernel
theorem dX2_access_145 : decode cX2_access 145 = .ok (.iconst 4, 1) := by decide +kernel
theorem dX2_access_146 : decode cX2_access 146 = .ok (.iadd, 1) := by decide +kernel
theorem dX2_access_147 : decode cX2_access 147 = .ok (.putfield 28, 3) := by decide +kernel
theorem dX2_access_150 : decode cX2_access 150 = .ok (.return_, 1) := by decide +kernel
theorem cc_X2_access : Cond.code yX2_access cX2_access 7 none ∈ rf_tb := rf_at 1141 (by decide +kernel) (by decide +kernel)
theorem cw_RX2_59 : cl_wV RX2 RX2 yX2_trap cX2_trap 2 none 59 1 := ⟨⟨rf_at 1117 (by decide +kernel) (by decide +kernel), rf_at 1119 (by decide +kernel) (by decide +kernel), rf_sel (q := (yX2_trap, 9)) 36 (by decide +kernel) (by decide +kernel), cc_X2_trap, rf_at 16 (by decide +kernel) (by decide +kernel)⟩, ⟨by decide, by decide, by decide +kernel⟩⟩
theorem cw_RX2_97 : cl_wS RX2 yX2_width cX2_width 1 (some .int) 97 1 := ⟨⟨rf_at 1142 (by decide +kernel) (by decide +kernel), rf_at 1000 (by decide +kernel) (by decide +kernel), cc_X2_width, rf_at 16 (by decide +kernel) (by decide +kernel)⟩, ⟨by decide, by decide, by decide +kernel⟩⟩
theorem cw_RX2_101 : cl_wS RX2 yX2_isStore cX2_isStore 1 (some .boolean) 101 1 := ⟨⟨rf_at 1143 (by decide +kernel) (by decide +kernel), rf_at 1003 (by decide +kernel) (by decide +kernel), cc_X2_isStore, rf_at 16 (by decide +kernel) (by decide +kernel)⟩, ⟨by decide, by decide, by decide +kernel⟩⟩
theorem cw_RX2_105 : cl_wS RX2 yX2_loaded cX2_loaded 2 (some .int) 105 2 := ⟨⟨rf_at 1145 (by decide +kernel) (by decide +kernel), rf_at 1146 (by decide +kernel) (by decide +kernel), cc_X2_loaded, rf_at 16 (by decide +kernel) (by decide +kernel)⟩, ⟨by decide, by decide, by decide +kernel⟩⟩
noncomputable def bc_X2_access_31 (a : Nat) (σ : cl_S) : Option (cl_S) := bd1 (fc_X2_trap a (2:Int32) σ) (fun σ_7 => some σ_7)
set_option maxHeartbeats 4000000 in
theorem wc_X2_access_31 (C : cl_C D p s m args meth c cX2_access 7 none RX2) {a : Nat} {σ0 σ σ' : cl_S} {T : Nat → Nat × Nat} {H : Heap} {locs : List Loc} {ls : Array Slot} {cells slots : Nat} (h : bc_X2_access_31 a σ = some σ') (G : cl_G true D c0 ({ frames := 1, cells := σ0.2.2.2.2.2.1, slots := σ0.2.2.2.2.2.2, locals := 22 }) s σ0.2.2.2.1 T σ H locs cells slots) (ha : (T a).1 = 18) (hl : lv_has ls 7 [(0, .ref (c0 + a))]) : W p l e ({ frames := 1, cells := σ0.2.2.2.2.2.1, slots := σ0.2.2.2.2.2.2, locals := 22 }) s m args below meth c H locs cells slots (MQ below (cl_Q true D c0 none cl_no σ0 σ') args s (σ0.2.2.2.2.2.1 - σ'.2.2.2.2.2.1) (σ0.2.2.2.2.2.2 - σ'.2.2.2.2.2.2) (cl_A c0 σ0.2.2.2.1 s.heap.size)) (F0 m 31 ls []) := by
  unfold bc_X2_access_31 at h
  refine lv_aload_n C.1 C.2.1 dX2_access_31 rfl (lv_at hl 0 rfl) ?_
  refine lv_iconst (v := (2:Int32)) C.1 C.2.1 dX2_access_32 (by decide) ?_
  obtain ⟨σ_7, hq, h_8⟩ := bd1_some h
  refine cl_callV (ci := 2) (rest := []) C G rfl ha cw_RX2_59 [.int (2:Int32)] _ (kc_X2_trap l D c0 (by rw [G.1]; exact ha) hq) (Nat.le_of_ble_eq_true rfl) (Nat.le_of_ble_eq_true rfl) rfl rfl hl.1 (Nat.le_of_ble_eq_true rfl) dX2_access_33 (fun T_9 H locs cells slots t_10 hu G_11 => ?_)
  have ha := hu.kind ha (by decide)
  refine W.eq (g2 := F0 m 36 ls []) rfl ?_
  exact cl_vret ⟨rfl, rfl⟩ rfl C G_11 h_8 dX2_access_36
noncomputable def bc_X2_access_140 (a : Nat) (σ : cl_S) : Option (cl_S) := vl (cl_w σ a 3 ((σ.1 a 3) + (4:Int32))) (fun σ_37 => some σ_37)
set_option maxHeartbeats 4000000 in
theorem wc_X2_access_140 (C : cl_C D p s m args meth c cX2_access 7 none RX2) {a : Nat} {σ0 σ σ' : cl_S} {T : Nat → Nat × Nat} {H : Heap} {locs : List Loc} {ls : Array Slot} {cells slots : Nat} (h : bc_X2_access_140 a σ = some σ') (G : cl_G true D c0 ({ frames := 1, cells := σ0.2.2.2.2.2.1, slots := σ0.2.2.2.2.2.2, locals := 22 }) s σ0.2.2.2.1 T σ H locs cells slots) (ha : (T a).1 = 18) (hl : lv_has ls 7 [(0, .ref (c0 + a))]) : W p l e ({ frames := 1, cells := σ0.2.2.2.2.2.1, slots := σ0.2.2.2.2.2.2, locals := 22 }) s m args below meth c H locs cells slots (MQ below (cl_Q true D c0 none cl_no σ0 σ') args s (σ0.2.2.2.2.2.1 - σ'.2.2.2.2.2.1) (σ0.2.2.2.2.2.2 - σ'.2.2.2.2.2.2) (cl_A c0 σ0.2.2.2.1 s.heap.size)) (F0 m 140 ls []) := by
  unfold bc_X2_access_140 at h
  refine lv_aload_n C.1 C.2.1 dX2_access_140 rfl (lv_at hl 0 rfl) ?_
  refine lv_dup C.1 C.2.1 dX2_access_141 rfl ?_
  refine cg_2_28 C G ha dX2_access_142 ?_
  refine lv_iconst (v := (4:Int32)) C.1 C.2.1 dX2_access_145 (by decide) ?_
  refine lv_iadd C.1 C.2.1 dX2_access_146 ?_
  refine cp_2_28 C G ha dX2_access_147 (fun H locs G_38 => ?_)
  refine cl_nm G_38 h (fun σ_37 G_39 h_40 => ?_)
  exact cl_vret ⟨rfl, rfl⟩ rfl C G_39 h_40 dX2_access_150
noncomputable def bc_X2_access_81 (a : Nat) (x2 : Int32) (x4 : Int32) (x5 : Int32) (v0 : Int32) (σ : cl_S) : Option (cl_S) := vl (v0 <<< (x5 &&& 31)) (fun x6_41 => ix x4 2048 (ix x2 16 (ix x4 2048 (vl (cl_w σ (a + 1) x4.toNatClampNeg (((σ.1 (a + 1) x4.toNatClampNeg) &&& (x6_41 ^^^ (-1:Int32))) ||| (((σ.1 (a + 2) x2.toNatClampNeg) <<< (x5 &&& 31)) &&& x6_41))) (fun σ_49 => bc_X2_access_140 a σ_49)))))
set_option maxHeartbeats 4000000 in
theorem wc_X2_access_81 (C : cl_C D p s m args meth c cX2_access 7 none RX2) {a : Nat} {x2 : Int32} {x4 : Int32} {x5 : Int32} {v0 : Int32} {σ0 σ σ' : cl_S} {T : Nat → Nat × Nat} {H : Heap} {locs : List Loc} {ls : Array Slot} {cells slots : Nat} (h : bc_X2_access_81 a x2 x4 x5 v0 σ = some σ') (G : cl_G true D c0 ({ frames := 1, cells := σ0.2.2.2.2.2.1, slots := σ0.2.2.2.2.2.2, locals := 22 }) s σ0.2.2.2.1 T σ H locs cells slots) (ha : (T a).1 = 18) (hl : lv_has ls 7 [(0, .ref (c0 + a)), (2, .int x2), (4, .int x4), (5, .int x5)]) : W p l e ({ frames := 1, cells := σ0.2.2.2.2.2.1, slots := σ0.2.2.2.2.2.2, locals := 22 }) s m args below meth c H locs cells slots (MQ below (cl_Q true D c0 none cl_no σ0 σ') args s (σ0.2.2.2.2.2.1 - σ'.2.2.2.2.2.1) (σ0.2.2.2.2.2.2 - σ'.2.2.2.2.2.2) (cl_A c0 σ0.2.2.2.1 s.heap.size)) (F0 m 81 ls [.int v0]) := by
  unfold bc_X2_access_81 at h
  refine lv_iload C.1 C.2.1 dX2_access_81 (lv_at hl 3 rfl) ?_
  refine lv_ishl C.1 C.2.1 dX2_access_83 ?_
  refine vt_i h (fun x6_41 h_42 => ?_)
  refine lv_istore (lv' := [(6, .int x6_41), (0, .ref (c0 + a)), (2, .int x2), (4, .int x4), (5, .int x5)]) C.1 C.2.1 dX2_access_84 hl (by decide) rfl (fun ls hl_43 => ?_)
  refine lv_aload_n C.1 C.2.1 dX2_access_86 rfl (lv_at hl_43 1 rfl) ?_
  refine cg_2_9 C G ha dX2_access_87 (fun t_44 => ?_)
  refine lv_iload C.1 C.2.1 dX2_access_90 (lv_at hl_43 3 rfl) ?_
  refine lv_aload_n C.1 C.2.1 dX2_access_92 rfl (lv_at hl_43 1 rfl) ?_
  refine cg_2_9 C G ha dX2_access_93 (fun t_45 => ?_)
  refine lv_iload C.1 C.2.1 dX2_access_96 (lv_at hl_43 3 rfl) ?_
  obtain ⟨hi, h_46⟩ := ix_some h_42
  refine cl_iald C G t_45 hi dX2_access_98 ?_
  refine lv_iload C.1 C.2.1 dX2_access_99 (lv_at hl_43 0 rfl) ?_
  refine lv_iconst (v := (-1:Int32)) C.1 C.2.1 dX2_access_101 (by decide) ?_
  refine lv_ixor C.1 C.2.1 dX2_access_102 ?_
  refine lv_iand C.1 C.2.1 dX2_access_103 ?_
  refine lv_aload_n C.1 C.2.1 dX2_access_104 rfl (lv_at hl_43 1 rfl) ?_
  refine cg_2_15 C G ha dX2_access_105 (fun t_47 => ?_)
  refine lv_iload_n C.1 C.2.1 dX2_access_108 rfl (lv_at hl_43 2 rfl) ?_
  obtain ⟨hi, h_48⟩ := ix_some h_46
  refine cl_iald C G t_47 hi dX2_access_109 ?_
  refine lv_iload C.1 C.2.1 dX2_access_110 (lv_at hl_43 4 rfl) ?_
  refine lv_ishl C.1 C.2.1 dX2_access_112 ?_
  refine lv_iload C.1 C.2.1 dX2_access_113 (lv_at hl_43 0 rfl) ?_
  refine lv_iand C.1 C.2.1 dX2_access_115 ?_
  refine lv_ior C.1 C.2.1 dX2_access_116 ?_
  obtain ⟨hi, h_50⟩ := ix_some h_48
  refine cl_iast C G t_44 hi dX2_access_117 (fun H locs G_51 => ?_)
  refine cl_nm G_51 h_50 (fun σ_49 G_52 h_53 => ?_)
  refine lv_goto (tgt := 140) C.1 C.2.1 dX2_access_118 (by decide) ?_
  exact wc_X2_access_140 C h_53 G_52 ha (lv_sub hl_43 [1] rfl)
noncomputable def bc_X2_access_0 (a : Nat) (x1 : Int32) (x2 : Int32) (x3 : Int32) (σ : cl_S) : Option (cl_S) := bd2 (fc_X2_width x1 σ) (fun r_2 σ_1 => (if (x3 &&& (r_2 - (1:Int32))) = 0 then (if x3 < 0 then bc_X2_access_31 a σ_1 else (if x3 < ((4:Int32) * (σ_1.1 a 2)) then vl (x3 >>> ((2:Int32) &&& 31)) (fun x4_12 => vl ((8:Int32) * (x3 &&& (3:Int32))) (fun x5_15 => bd2 (fc_X2_isStore x1 σ_1) (fun r_19 σ_18 => (if r_19 = 0 then ix x4_12 2048 (bd2 (fc_X2_loaded x1 (((σ_18.1 (a + 1) x4_12.toNatClampNeg).toUInt32 >>> (x5_15.toUInt32 &&& Int32.toUInt32 31)).toInt32) σ_18) (fun r_27 σ_26 => bd1 (fc_X2_write a x2 r_27 σ_26) (fun σ_32 => bc_X2_access_140 a σ_32))) else (if x1 = (27:Int32) then bc_X2_access_81 a x2 x4_12 x5_15 (-1:Int32) σ_18 else (if x1 = (28:Int32) then bc_X2_access_81 a x2 x4_12 x5_15 (65535:Int32) σ_18 else bc_X2_access_81 a x2 x4_12 x5_15 (255:Int32) σ_18)))))) else bc_X2_access_31 a σ_1)) else bd1 (fc_X2_trap a (3:Int32) σ_1) (fun σ_54 => some σ_54)))
set_option maxHeartbeats 4000000 in
theorem wc_X2_access_0 (C : cl_C D p s m args meth c cX2_access 7 none RX2) {a : Nat} {x1 : Int32} {x2 : Int32} {x3 : Int32} {σ0 σ σ' : cl_S} {T : Nat → Nat × Nat} {H : Heap} {locs : List Loc} {ls : Array Slot} {cells slots : Nat} (h : bc_X2_access_0 a x1 x2 x3 σ = some σ') (G : cl_G true D c0 ({ frames := 1, cells := σ0.2.2.2.2.2.1, slots := σ0.2.2.2.2.2.2, locals := 22 }) s σ0.2.2.2.1 T σ H locs cells slots) (ha : (T a).1 = 18) (hl : lv_has ls 7 [(0, .ref (c0 + a)), (1, .int x1), (2, .int x2), (3, .int x3)]) : W p l e ({ frames := 1, cells := σ0.2.2.2.2.2.1, slots := σ0.2.2.2.2.2.2, locals := 22 }) s m args below meth c H locs cells slots (MQ below (cl_Q true D c0 none cl_no σ0 σ') args s (σ0.2.2.2.2.2.1 - σ'.2.2.2.2.2.1) (σ0.2.2.2.2.2.2 - σ'.2.2.2.2.2.2) (cl_A c0 σ0.2.2.2.1 s.heap.size)) (F0 m 0 ls []) := by
  unfold bc_X2_access_0 at h
  refine lv_iload_n C.1 C.2.1 dX2_access_0 rfl (lv_at hl 3 rfl) ?_
  refine lv_iload_n C.1 C.2.1 dX2_access_1 rfl (lv_at hl 1 rfl) ?_
  obtain ⟨r_2, σ_1, hq, h_3⟩ := bd2_some h
  refine cl_callS (rest := [.int x3]) C G cw_RX2_97 [.int x1] _ (kc_X2_width l D c0 hq) (Nat.le_of_ble_eq_true rfl) (Nat.le_of_ble_eq_true rfl) rfl rfl hl.1 (Nat.le_of_ble_eq_true rfl) dX2_access_2 (fun T_4 H locs cells slots t_5 hu G_6 => ?_)
  have ha := hu.kind ha (by decide)
  refine W.eq (g2 := F0 m 5 ls [.int r_2, .int x3]) rfl ?_
  refine lv_iconst (v := (1:Int32)) C.1 C.2.1 dX2_access_5 (by decide) ?_
  refine lv_isub C.1 C.2.1 dX2_access_6 ?_
  refine lv_iand C.1 C.2.1 dX2_access_7 ?_
  refine lv_if_eq (tgt := 17) C.1 C.2.1 dX2_access_8 (by decide) (fun hc => ?_) (fun hc => ?_)
  · rw [if_pos hc] at h_3
    refine lv_iload_n C.1 C.2.1 dX2_access_17 rfl (lv_at hl 3 rfl) ?_
    refine lv_if_lt (tgt := 31) C.1 C.2.1 dX2_access_18 (by decide) (fun hc => ?_) (fun hc => ?_)
    · rw [if_pos hc] at h_3
      exact wc_X2_access_31 C h_3 G_6 ha (lv_sub hl [0] rfl)
    · rw [if_neg hc] at h_3
      refine lv_iload_n C.1 C.2.1 dX2_access_21 rfl (lv_at hl 3 rfl) ?_
      refine lv_iconst (v := (4:Int32)) C.1 C.2.1 dX2_access_22 (by decide) ?_
      refine lv_aload_n C.1 C.2.1 dX2_access_23 rfl (lv_at hl 0 rfl) ?_
      refine cg_2_18 C G_6 ha dX2_access_24 ?_
      refine lv_imul C.1 C.2.1 dX2_access_27 ?_
      refine lv_icmp_lt (tgt := 37) C.1 C.2.1 dX2_access_28 (by decide) (fun hc => ?_) (fun hc => ?_)
      · rw [if_pos hc] at h_3
        refine lv_iload_n C.1 C.2.1 dX2_access_37 rfl (lv_at hl 3 rfl) ?_
        refine lv_iconst (v := (2:Int32)) C.1 C.2.1 dX2_access_38 (by decide) ?_
        refine lv_ishr C.1 C.2.1 dX2_access_39 ?_
        refine vt_i h_3 (fun x4_12 h_13 => ?_)
        refine lv_istore (lv' := [(4, .int x4_12), (0, .ref (c0 + a)), (1, .int x1), (2, .int x2), (3, .int x3)]) C.1 C.2.1 dX2_access_40 hl (by decide) rfl (fun ls hl_14 => ?_)
        refine lv_bipush (v := (8:Int32)) C.1 C.2.1 dX2_access_42 (by decide) ?_
        refine lv_iload_n C.1 C.2.1 dX2_access_44 rfl (lv_at hl_14 4 rfl) ?_
        refine lv_iconst (v := (3:Int32)) C.1 C.2.1 dX2_access_45 (by decide) ?_
        refine lv_iand C.1 C.2.1 dX2_access_46 ?_
        refine lv_imul C.1 C.2.1 dX2_access_47 ?_
        refine vt_i h_13 (fun x5_15 h_16 => ?_)
        refine lv_istore (lv' := [(5, .int x5_15), (4, .int x4_12), (0, .ref (c0 + a)), (1, .int x1), (2, .int x2), (3, .int x3)]) C.1 C.2.1 dX2_access_48 hl_14 (by decide) rfl (fun ls hl_17 => ?_)
        refine lv_iload_n C.1 C.2.1 dX2_access_50 rfl (lv_at hl_17 3 rfl) ?_
        obtain ⟨r_19, σ_18, hq, h_20⟩ := bd2_some h_16
        refine cl_callS (rest := []) C G_6 cw_RX2_101 [.int x1] _ (kc_X2_isStore l D c0 hq) (Nat.le_of_ble_eq_true rfl) (Nat.le_of_ble_eq_true rfl) rfl rfl hl_17.1 (Nat.le_of_ble_eq_true rfl) dX2_access_51 (fun T_21 H locs cells slots t_22 hu G_23 => ?_)
        have ha := hu.kind ha (by decide)
        refine W.eq (g2 := F0 m 54 ls [.int r_19]) rfl ?_
        refine lv_if_eq (tgt := 121) C.1 C.2.1 dX2_access_54 (by decide) (fun hc => ?_) (fun hc => ?_)
        · rw [if_pos hc] at h_20
          refine lv_aload_n C.1 C.2.1 dX2_access_121 rfl (lv_at hl_17 2 rfl) ?_
          refine lv_iload_n C.1 C.2.1 dX2_access_122 rfl (lv_at hl_17 4 rfl) ?_
          refine lv_iload_n C.1 C.2.1 dX2_access_123 rfl (lv_at hl_17 3 rfl) ?_
          refine lv_aload_n C.1 C.2.1 dX2_access_124 rfl (lv_at hl_17 2 rfl) ?_
          refine cg_2_9 C G_23 ha dX2_access_125 (fun t_24 => ?_)
          refine lv_iload C.1 C.2.1 dX2_access_128 (lv_at hl_17 1 rfl) ?_
          obtain ⟨hi, h_25⟩ := ix_some h_20
          refine cl_iald C G_23 t_24 hi dX2_access_130 ?_
          refine lv_iload C.1 C.2.1 dX2_access_131 (lv_at hl_17 0 rfl) ?_
          refine lv_iushr C.1 C.2.1 dX2_access_133 rfl ?_
          obtain ⟨r_27, σ_26, hq, h_28⟩ := bd2_some h_25
          refine cl_callS (rest := [.int x2, .ref (c0 + a)]) C G_23 cw_RX2_105 [.int x1, .int (((σ_18.1 (a + 1) x4_12.toNatClampNeg).toUInt32 >>> (x5_15.toUInt32 &&& Int32.toUInt32 31)).toInt32)] _ (kc_X2_loaded l D c0 hq) (Nat.le_of_ble_eq_true rfl) (Nat.le_of_ble_eq_true rfl) rfl rfl hl_17.1 (Nat.le_of_ble_eq_true rfl) dX2_access_134 (fun T_29 H locs cells slots t_30 hu G_31 => ?_)
          have ha := hu.kind ha (by decide)
          refine W.eq (g2 := F0 m 137 ls [.int r_27, .int x2, .ref (c0 + a)]) rfl ?_
          obtain ⟨σ_32, hq, h_33⟩ := bd1_some h_28
          refine cl_callV (ci := 2) (rest := []) C G_31 rfl ha cw_RX2_86 [.int x2, .int r_27] _ (kc_X2_write l D c0 (by rw [G_31.1]; exact ha) hq) (Nat.le_of_ble_eq_true rfl) (Nat.le_of_ble_eq_true rfl) rfl rfl hl_17.1 (Nat.le_of_ble_eq_true rfl) dX2_access_137 (fun T_34 H locs cells slots t_35 hu G_36 => ?_)
          have ha := hu.kind ha (by decide)
          refine W.eq (g2 := F0 m 140 ls []) rfl ?_
          exact wc_X2_access_140 C h_33 G_36 ha (lv_sub hl_17 [2] rfl)
        · rw [if_neg hc] at h_20
          refine lv_iload_n C.1 C.2.1 dX2_access_57 rfl (lv_at hl_17 3 rfl) ?_
          refine lv_bipush (v := (27:Int32)) C.1 C.2.1 dX2_access_58 (by decide) ?_
          refine lv_icmp_ne (tgt := 67) C.1 C.2.1 dX2_access_60 (by decide) (fun hc => ?_) (fun hc => ?_)
          · rw [if_neg hc] at h_20
            refine lv_iload_n C.1 C.2.1 dX2_access_67 rfl (lv_at hl_17 3 rfl) ?_
            refine lv_bipush (v := (28:Int32)) C.1 C.2.1 dX2_access_68 (by decide) ?_
            refine lv_icmp_ne (tgt := 78) C.1 C.2.1 dX2_access_70 (by decide) (fun hc => ?_) (fun hc => ?_)
            · rw [if_neg hc] at h_20
              refine lv_sipush (v := (255:Int32)) C.1 C.2.1 dX2_access_78 (by decide) ?_
              exact wc_X2_access_81 C h_20 G_23 ha (lv_sub hl_17 [2, 4, 1, 0] rfl)
            · rw [if_pos hc] at h_20
              refine lv_ldc (v := (65535:Int32)) C.1 C.2.1 C.2.2.2.1 (C.2.2.2.2.1 _ kc_RX2_104) dX2_access_73 ?_
              refine lv_goto (tgt := 81) C.1 C.2.1 dX2_access_75 (by decide) ?_
              exact wc_X2_access_81 C h_20 G_23 ha (lv_sub hl_17 [2, 4, 1, 0] rfl)
          · rw [if_pos hc] at h_20
            refine lv_iconst (v := (-1:Int32)) C.1 C.2.1 dX2_access_63 (by decide) ?_
            refine lv_goto (tgt := 81) C.1 C.2.1 dX2_access_64 (by decide) ?_
            exact wc_X2_access_81 C h_20 G_23 ha (lv_sub hl_17 [2, 4, 1, 0] rfl)
      · rw [if_neg hc] at h_3
        exact wc_X2_access_31 C h_3 G_6 ha (lv_sub hl [0] rfl)
  · rw [if_neg hc] at h_3
    refine lv_aload_n C.1 C.2.1 dX2_access_11 rfl (lv_at hl 0 rfl) ?_
    refine lv_iconst (v := (3:Int32)) C.1 C.2.1 dX2_access_12 (by decide) ?_
    obtain ⟨σ_54, hq, h_55⟩ := bd1_some h_3
    refine cl_callV (ci := 2) (rest := []) C G_6 rfl ha cw_RX2_59 [.int (3:Int32)] _ (kc_X2_trap l D c0 (by rw [G_6.1]; exact ha) hq) (Nat.le_of_ble_eq_true rfl) (Nat.le_of_ble_eq_true rfl) rfl rfl hl.1 (Nat.le_of_ble_eq_true rfl) dX2_access_13 (fun T_56 H locs cells slots t_57 hu G_58 => ?_)
    have ha := hu.kind ha (by decide)
    refine W.eq (g2 := F0 m 16 ls []) rfl ?_
    exact cl_vret ⟨rfl, rfl⟩ rfl C G_58 h_55 dX2_access_16
noncomputable def fc_X2_access (a : Nat) (x1 : Int32) (x2 : Int32) (x3 : Int32) (σ : cl_S) : Option (cl_S) := bc_X2_access_0 a x1 x2 x3 σ
theorem kc_X2_access (l : Launch) (D : cl_D) (c0 : Nat) {a : Nat} {x1 : Int32} {x2 : Int32} {x3 : Int32} {σ σ' : cl_S} (ha : (σ.2.2.2.1 a).1 = 18) (h : fc_X2_access a x1 x2 x3 σ = some σ') : cl_Met true l D c0 yX2_access cX2_access 7 none 1 22 [.ref (c0 + a), .int x1, .int x2, .int x3] σ none cl_no σ' :=
  cl_of (by decide) (Nat.le_of_ble_eq_true rfl) (fun p e s m args below meth c ls C hn G hl => wc_X2_access_0 C h G ha hl)
abbrev cX2_compare : ByteArray := prog_4_method_13_code
def yX2_compare : MethodName := ⟨RX2, "compare", "(III)Z"⟩
theorem dX2_compare_0 : decode cX2_compare 0 = .ok (.iload_n 0, 1) := by decide +kernel
theorem dX2_compare_1 : decode cX2_compare 1 = .ok (.tableswitch 85 30 34 #[35, 46, 57, 68, 79], 35) := by decide +kernel
theorem dX2_compare_36 : decode cX2_compare 36 = .ok (.iload_n 1, 1) := by decide +kernel
theorem dX2_compare_37 : decode cX2_compare 37 = .ok (.iload_n 2, 1) := by decide +kernel
theorem dX2_compare_38 : decode cX2_compare 38 = .ok (.if_icmp .ne 7, 3) := by decide +kernel
theorem dX2_compare_41 : decode cX2_compare 41 = .ok (.iconst 1, 1) := by decide +kernel
theorem dX2_compare_42 : decode cX2_compare 42 = .ok (.goto 4, 3) := by decide +kernel
theorem dX2_compare_45 : decode cX2_compare 45 = .ok (.iconst 0, 1) := by decide +kernel
theorem dX2_compare_46 : decode cX2_compare 46 = .ok (.ireturn, 1) := by decide +kernel
theorem dX2_compare_47 : decode cX2_compare 47 = .ok (.iload_n 1, 1) := by decide +kernel
theorem dX2_compare_48 : decode cX2_compare 48 = .ok (.iload_n 2, 1) := by decide +kernel
theorem dX2_compare_49 : decode cX2_compare 49 = .ok (.if_icmp .eq 7, 3) := by decide +kernel
theorem dX2_compare_52 : decode cX2_compare 52 = .ok (.iconst 1, 1) := by decide +kernel
theorem dX2_compare_53 : decode cX2_compare 53 = .ok (.goto 4, 3) := by decide +kernel
theorem dX2_compare_56 : decode cX2_compare 56 = .ok (.iconst 0, 1) := by decide +kernel
theorem dX2_compare_57 : decode cX2_compare 57 = .ok (.ireturn, 1) := by decide +kernel
theorem dX2_compare_58 : decode cX2_compare 58 = .ok (.iload_n 1, 1) := by decide +kernel
theorem dX2_compare_59 : decode cX2_compare 59 = .ok (.iload_n 2, 1) := by decide +kernel
theorem dX2_compare_60 : decode cX2_compare 60 = .ok (.if_icmp .ge 7, 3) := by decide +kernel
theorem dX2_compare_63 : decode cX2_compare 63 = .ok (.iconst 1, 1) := by decide +kernel
theorem dX2_compare_64 : decode cX2_compare 64 = .ok (.goto 4, 3) := by decide +kernel
theorem dX2_compare_67 : decode cX2_compare 67 = .ok (.iconst 0, 1) := by decide +kernel
theorem dX2_compare_68 : decode cX2_compare 68 = .ok (.ireturn, 1) := by decide +kernel
theorem dX2_compare_69 : decode cX2_compare 69 = .ok (.iload_n 1, 1) := by decide +kernel
theorem dX2_compare_70 : decode cX2_compare 70 = .ok (.iload_n 2, 1) := by decide +kernel
theorem dX2_compare_71 : decode cX2_compare 71 = .ok (.if_icmp .lt 7, 3) := by decide +kernel
theorem dX2_compare_74 : decode cX2_compare 74 = .ok (.iconst 1, 1) := by decide +kernel
theorem dX2_compare_75 : decode cX2_compare 75 = .ok (.goto 4, 3) := by decide +kernel
theorem dX2_compare_78 : decode cX2_compare 78 = .ok (.iconst 0, 1) := by decide +kernel
theorem dX2_compare_79 : decode cX2_compare 79 = .ok (.ireturn, 1) := by decide +kernel
theorem dX2_compare_80 : decode cX2_compare 80 = .ok (.iload_n 1, 1) := by decide +kernel
theorem dX2_compare_81 : decode cX2_compare 81 = .ok (.iload_n 2, 1) := by decide +kernel
theorem dX2_compare_82 : decode cX2_compare 82 = .ok (.invokestatic 90, 3) := by decide +kernel
theorem dX2_compare_85 : decode cX2_compare 85 = .ok (.ireturn, 1) := by decide +kernel
theorem dX2_compare_86 : decode cX2_compare 86 = .ok (.iload_n 1, 1) := by decide +kernel
theorem dX2_compare_87 : decode cX2_compare 87 = .ok (.iload_n 2, 1) := by decide +kernel
theorem dX2_compare_88 : decode cX2_compare 88 = .ok (.invokestatic 90, 3) := by decide +kernel
theorem dX2_compare_91 : decode cX2_compare 91 = .ok (.ifCond .ne 7, 3) := by decide +kernel
theorem dX2_compare_94 : decode cX2_compare 94 = .ok (.iconst 1, 1) := by decide +kernel
theorem dX2_compare_95 : decode cX2_compare 95 = .ok (.goto 4, 3) := by decide +kernel
theorem dX2_compare_98 : decode cX2_compare 98 = .ok (.iconst 0, 1) := by decide +kernel
theorem dX2_compare_99 : decode cX2_compare 99 = .ok (.ireturn, 1) := by decide +kernel
theorem cc_X2_compare : Cond.code yX2_compare cX2_compare 3 (some .boolean) ∈ rf_tb := rf_at 1150 (by decide +kernel) (by decide +kernel)
noncomputable def bc_X2_compare_0 (x0 : Int32) (x1 : Int32) (x2 : Int32) (σ : cl_S) : Option (Int32 × cl_S) := (if x0 = (30:Int32) then (if x1 = x2 then some ((1:Int32), σ) else some ((0:Int32), σ)) else if x0 = (31:Int32) then (if x1 = x2 then some ((0:Int32), σ) else some ((1:Int32), σ)) else if x0 = (32:Int32) then (if x2 ≤ x1 then some ((0:Int32), σ) else some ((1:Int32), σ)) else if x0 = (33:Int32) then (if x1 < x2 then some ((0:Int32), σ) else some ((1:Int32), σ)) else if x0 = (34:Int32) then bd2 (fc_X2_isBelow x1 x2 σ) (fun r_2 σ_1 => nb r_2 (some (r_2, σ_1))) else bd2 (fc_X2_isBelow x1 x2 σ) (fun r_9 σ_8 => (if r_9 = 0 then some ((1:Int32), σ_8) else some ((0:Int32), σ_8))))
set_option maxHeartbeats 4000000 in
theorem wc_X2_compare_0 (C : cl_C D p s m args meth c cX2_compare 3 (some .boolean) RX2) {r : Int32} {x0 : Int32} {x1 : Int32} {x2 : Int32} {σ0 σ σ' : cl_S} {T : Nat → Nat × Nat} {H : Heap} {locs : List Loc} {ls : Array Slot} {cells slots : Nat} (h : bc_X2_compare_0 x0 x1 x2 σ = some (r, σ')) (G : cl_G true D c0 ({ frames := 1, cells := σ0.2.2.2.2.2.1, slots := σ0.2.2.2.2.2.2, locals := 21 }) s σ0.2.2.2.1 T σ H locs cells slots) (hl : lv_has ls 3 [(0, .int x0), (1, .int x1), (2, .int x2)]) : W p l e ({ frames := 1, cells := σ0.2.2.2.2.2.1, slots := σ0.2.2.2.2.2.2, locals := 21 }) s m args below meth c H locs cells slots (MQ below (cl_Q true D c0 (some (.int r)) cl_no σ0 σ') args s (σ0.2.2.2.2.2.1 - σ'.2.2.2.2.2.1) (σ0.2.2.2.2.2.2 - σ'.2.2.2.2.2.2) (cl_A c0 σ0.2.2.2.1 s.heap.size)) (F0 m 0 ls []) := by
  unfold bc_X2_compare_0 at h
  refine lv_iload_n C.1 C.2.1 dX2_compare_0 rfl (lv_at hl 0 rfl) ?_
  by_cases hk30 : x0 = (30:Int32)
  · rw [if_pos hk30] at h
    refine lv_tableIn (tgt := 36) C.1 C.2.1 dX2_compare_1 (by rw [hk30]; decide) (by rw [hk30]; decide) (by rw [hk30]; rfl) (by decide) ?_
    refine lv_iload_n C.1 C.2.1 dX2_compare_36 rfl (lv_at hl 1 rfl) ?_
    refine lv_iload_n C.1 C.2.1 dX2_compare_37 rfl (lv_at hl 2 rfl) ?_
    refine lv_icmp_ne (tgt := 45) C.1 C.2.1 dX2_compare_38 (by decide) (fun hc => ?_) (fun hc => ?_)
    · rw [if_neg hc] at h
      refine lv_iconst (v := (0:Int32)) C.1 C.2.1 dX2_compare_45 (by decide) ?_
      exact cl_zret ⟨rfl, rfl⟩ rfl C G h rfl dX2_compare_46
    · rw [if_pos hc] at h
      refine lv_iconst (v := (1:Int32)) C.1 C.2.1 dX2_compare_41 (by decide) ?_
      refine lv_goto (tgt := 46) C.1 C.2.1 dX2_compare_42 (by decide) ?_
      exact cl_zret ⟨rfl, rfl⟩ rfl C G h rfl dX2_compare_46
  rw [if_neg hk30] at h
  by_cases hk31 : x0 = (31:Int32)
  · rw [if_pos hk31] at h
    refine lv_tableIn (tgt := 47) C.1 C.2.1 dX2_compare_1 (by rw [hk31]; decide) (by rw [hk31]; decide) (by rw [hk31]; rfl) (by decide) ?_
    refine lv_iload_n C.1 C.2.1 dX2_compare_47 rfl (lv_at hl 1 rfl) ?_
    refine lv_iload_n C.1 C.2.1 dX2_compare_48 rfl (lv_at hl 2 rfl) ?_
    refine lv_icmp_eq (tgt := 56) C.1 C.2.1 dX2_compare_49 (by decide) (fun hc => ?_) (fun hc => ?_)
    · rw [if_pos hc] at h
      refine lv_iconst (v := (0:Int32)) C.1 C.2.1 dX2_compare_56 (by decide) ?_
      exact cl_zret ⟨rfl, rfl⟩ rfl C G h rfl dX2_compare_57
    · rw [if_neg hc] at h
      refine lv_iconst (v := (1:Int32)) C.1 C.2.1 dX2_compare_52 (by decide) ?_
      refine lv_goto (tgt := 57) C.1 C.2.1 dX2_compare_53 (by decide) ?_
      exact cl_zret ⟨rfl, rfl⟩ rfl C G h rfl dX2_compare_57
  rw [if_neg hk31] at h
  by_cases hk32 : x0 = (32:Int32)
  · rw [if_pos hk32] at h
    refine lv_tableIn (tgt := 58) C.1 C.2.1 dX2_compare_1 (by rw [hk32]; decide) (by rw [hk32]; decide) (by rw [hk32]; rfl) (by decide) ?_
    refine lv_iload_n C.1 C.2.1 dX2_compare_58 rfl (lv_at hl 1 rfl) ?_
    refine lv_iload_n C.1 C.2.1 dX2_compare_59 rfl (lv_at hl 2 rfl) ?_
    refine lv_icmp_ge (tgt := 67) C.1 C.2.1 dX2_compare_60 (by decide) (fun hc => ?_) (fun hc => ?_)
    · rw [if_pos hc] at h
      refine lv_iconst (v := (0:Int32)) C.1 C.2.1 dX2_compare_67 (by decide) ?_
      exact cl_zret ⟨rfl, rfl⟩ rfl C G h rfl dX2_compare_68
    · rw [if_neg hc] at h
      refine lv_iconst (v := (1:Int32)) C.1 C.2.1 dX2_compare_63 (by decide) ?_
      refine lv_goto (tgt := 68) C.1 C.2.1 dX2_compare_64 (by decide) ?_
      exact cl_zret ⟨rfl, rfl⟩ rfl C G h rfl dX2_compare_68
  rw [if_neg hk32] at h
  by_cases hk33 : x0 = (33:Int32)
  · rw [if_pos hk33] at h
    refine lv_tableIn (tgt := 69) C.1 C.2.1 dX2_compare_1 (by rw [hk33]; decide) (by rw [hk33]; decide) (by rw [hk33]; rfl) (by decide) ?_
    refine lv_iload_n C.1 C.2.1 dX2_compare_69 rfl (lv_at hl 1 rfl) ?_
    refine lv_iload_n C.1 C.2.1 dX2_compare_70 rfl (lv_at hl 2 rfl) ?_
    refine lv_icmp_lt (tgt := 78) C.1 C.2.1 dX2_compare_71 (by decide) (fun hc => ?_) (fun hc => ?_)
    · rw [if_pos hc] at h
      refine lv_iconst (v := (0:Int32)) C.1 C.2.1 dX2_compare_78 (by decide) ?_
      exact cl_zret ⟨rfl, rfl⟩ rfl C G h rfl dX2_compare_79
    · rw [if_neg hc] at h
      refine lv_iconst (v := (1:Int32)) C.1 C.2.1 dX2_compare_74 (by decide) ?_
      refine lv_goto (tgt := 79) C.1 C.2.1 dX2_compare_75 (by decide) ?_
      exact cl_zret ⟨rfl, rfl⟩ rfl C G h rfl dX2_compare_79
  rw [if_neg hk33] at h
  by_cases hk34 : x0 = (34:Int32)
  · rw [if_pos hk34] at h
    refine lv_tableIn (tgt := 80) C.1 C.2.1 dX2_compare_1 (by rw [hk34]; decide) (by rw [hk34]; decide) (by rw [hk34]; rfl) (by decide) ?_
    refine lv_iload_n C.1 C.2.1 dX2_compare_80 rfl (lv_at hl 1 rfl) ?_
    refine lv_iload_n C.1 C.2.1 dX2_compare_81 rfl (lv_at hl 2 rfl) ?_
    obtain ⟨r_2, σ_1, hq, h_3⟩ := bd2_some h
    refine cl_callS (rest := []) C G cw_RX2_90 [.int x1, .int x2] _ (kc_X2_isBelow l D c0 hq) (Nat.le_of_ble_eq_true rfl) (Nat.le_of_ble_eq_true rfl) rfl rfl hl.1 (Nat.le_of_ble_eq_true rfl) dX2_compare_82 (fun T_4 H locs cells slots t_5 hu G_6 => ?_)
    refine W.eq (g2 := F0 m 85 ls [.int r_2]) rfl ?_
    obtain ⟨hnb, h_7⟩ := nb_some h_3
    exact cl_zret ⟨rfl, rfl⟩ rfl C G_6 h_7 hnb dX2_compare_85
  rw [if_neg hk34] at h
  refine lv_tableOut (tgt := 86) C.1 C.2.1 dX2_compare_1 ?_ (by decide) ?_
  · rcases Int.lt_or_le x0.toInt 30 with q | q
    · exact Or.inl q
    · rcases Int.lt_or_le 34 x0.toInt with q2 | q2
      · exact Or.inr q2
      · exfalso
        have hd : x0.toInt = (30 : Int) ∨ x0.toInt = (31 : Int) ∨ x0.toInt = (32 : Int) ∨ x0.toInt = (33 : Int) ∨ x0.toInt = (34 : Int) := by omega
        rcases hd with e | e | e | e | e
        · exact hk30 (Int32.toInt_inj.mp (e.trans (by decide)))
        · exact hk31 (Int32.toInt_inj.mp (e.trans (by decide)))
        · exact hk32 (Int32.toInt_inj.mp (e.trans (by decide)))
        · exact hk33 (Int32.toInt_inj.mp (e.trans (by decide)))
        · exact hk34 (Int32.toInt_inj.mp (e.trans (by decide)))
  · refine lv_iload_n C.1 C.2.1 dX2_compare_86 rfl (lv_at hl 1 rfl) ?_
    refine lv_iload_n C.1 C.2.1 dX2_compare_87 rfl (lv_at hl 2 rfl) ?_
    obtain ⟨r_9, σ_8, hq, h_10⟩ := bd2_some h
    refine cl_callS (rest := []) C G cw_RX2_90 [.int x1, .int x2] _ (kc_X2_isBelow l D c0 hq) (Nat.le_of_ble_eq_true rfl) (Nat.le_of_ble_eq_true rfl) rfl rfl hl.1 (Nat.le_of_ble_eq_true rfl) dX2_compare_88 (fun T_11 H locs cells slots t_12 hu G_13 => ?_)
    refine W.eq (g2 := F0 m 91 ls [.int r_9]) rfl ?_
    refine lv_if_ne (tgt := 98) C.1 C.2.1 dX2_compare_91 (by decide) (fun hc => ?_) (fun hc => ?_)
    · rw [if_neg hc] at h_10
      refine lv_iconst (v := (0:Int32)) C.1 C.2.1 dX2_compare_98 (by decide) ?_
      exact cl_zret ⟨rfl, rfl⟩ rfl C G_13 h_10 rfl dX2_compare_99
    · rw [if_pos hc] at h_10
      refine lv_iconst (v := (1:Int32)) C.1 C.2.1 dX2_compare_94 (by decide) ?_
      refine lv_goto (tgt := 99) C.1 C.2.1 dX2_compare_95 (by decide) ?_
      exact cl_zret ⟨rfl, rfl⟩ rfl C G_13 h_10 rfl dX2_compare_99
noncomputable def fc_X2_compare (x0 : Int32) (x1 : Int32) (x2 : Int32) (σ : cl_S) : Option (Int32 × cl_S) := bc_X2_compare_0 x0 x1 x2 σ
theorem kc_X2_compare (l : Launch) (D : cl_D) (c0 : Nat) {r : Int32} {x0 : Int32} {x1 : Int32} {x2 : Int32} {σ σ' : cl_S} (h : fc_X2_compare x0 x1 x2 σ = some (r, σ')) : cl_Met true l D c0 yX2_compare cX2_compare 3 (some .boolean) 1 21 [.int x0, .int x1, .int x2] σ (some (.int r)) cl_no σ' :=
  cl_of (by decide) (Nat.le_of_ble_eq_true rfl) (fun p e s m args below meth c ls C hn G hl => wc_X2_compare_0 C h G  hl)
abbrev cX2_leap : ByteArray := prog_4_method_16_code
def yX2_leap : MethodName := ⟨RX2, "leap", "(III)V"⟩
theorem dX2_leap_0 : decode cX2_leap 0 = .ok (.aload_n 0, 1) := by decide +kernel
theorem dX2_leap_1 : decode cX2_leap 1 = .ok (.getfield 28, 3) := by decide +kernel
theorem dX2_leap_4 : decode cX2_leap 4 = .ok (.istore 4, 2) := by decide +kernel
theorem dX2_leap_6 : decode cX2_leap 6 = .ok (.iload_n 2, 1) := by decide +kernel
theorem dX2_leap_7 : decode cX2_leap 7 = .ok (.bipush 36, 2) := by decide +kernel
theorem dX2_leap_9 : decode cX2_leap 9 = .ok (.if_icmp .ne 33, 3) := by decide +kernel
theorem dX2_leap_12 : decode cX2_leap 12 = .ok (.aload_n 0, 1) := by decide +kernel
theorem dX2_leap_13 : decode cX2_leap 13 = .ok (.dup, 1) := by decide +kernel
theorem dX2_leap_14 : decode cX2_leap 14 = .ok (.getfield 28, 3) := by decide +kernel
theorem dX2_leap_17 : decode cX2_leap 17 = .ok (.iconst 4, 1) := by decide +kernel
theorem dX2_leap_18 : decode cX2_leap 18 = .ok (.iload_n 3, 1) := by decide +kernel
theorem dX2_leap_19 : decode cX2_leap 19 = .ok (.imul, 1) := by decide +kernel
theorem dX2_leap_20 : decode cX2_leap 20 = .ok (.iadd, 1) := by decide +kernel
theorem dX2_leap_21 : decode cX2_leap 21 = .ok (.putfield 28, 3) := by decide +kernel
theorem dX2_leap_24 : decode cX2_leap 24 = .ok (.aload_n 0, 1) := by decide +kernel
theorem dX2_leap_25 : decode cX2_leap 25 = .ok (.iload_n 1, 1) := by decide +kernel
theorem dX2_leap_26 : decode cX2_leap 26 = .ok (.bipush 22, 2) := by decide +kernel
theorem dX2_leap_28 : decode cX2_leap 28 = .ok (.iushr, 1) := by decide +kernel
theorem dX2_leap_29 : decode cX2_leap 29 = .ok (.bipush 15, 2) := by decide +kernel
theorem dX2_leap_31 : decode cX2_leap 31 = .ok (.iand, 1) := by decide +kernel
theorem dX2_leap_32 : decode cX2_leap 32 = .ok (.iload 4, 2) := by decide +kernel
theorem dX2_leap_34 : decode cX2_leap 34 = .ok (.iconst 4, 1) := by decide +kernel
theorem dX2_leap_35 : decode cX2_leap 35 = .ok (.iadd, 1) := by decide +kernel
theorem dX2_leap_36 : decode cX2_leap 36 = .ok (.invokevirtual 86, 3) := by decide +kernel
theorem dX2_leap_39 : decode cX2_leap 39 = .ok (.goto 81, 3) := by decide +kernel
theorem dX2_leap_42 : decode cX2_leap 42 = .ok (.iload_n 2, 1) := by decide +kernel
theorem dX2_leap_43 : decode cX2_leap 43 = .ok (.bipush 37, 2) := by decide +kernel
theorem dX2_leap_45 : decode cX2_leap 45 = .ok (.if_icmp .ne 39, 3) := by decide +kernel
theorem dX2_leap_48 : decode cX2_leap 48 = .ok (.aload_n 0, 1) := by decide +kernel
theorem dX2_leap_49 : decode cX2_leap 49 = .ok (.aload_n 0, 1) := by decide +kernel
theorem dX2_leap_50 : decode cX2_leap 50 = .ok (.getfield 15, 3) := by decide +kernel
theorem dX2_leap_53 : decode cX2_leap 53 = .ok (.iload_n 1, 1) := by decide +kernel
theorem dX2_leap_54 : decode cX2_leap 54 = .ok (.bipush 18, 2) := by decide +kernel
theorem dX2_leap_56 : decode cX2_leap 56 = .ok (.iushr, 1) := by decide +kernel
theorem dX2_leap_57 : decode cX2_leap 57 = .ok (.bipush 15, 2) := by decide +kernel
theorem dX2_leap_59 : decode cX2_leap 59 = .ok (.iand, 1) := by decide +kernel
theorem dX2_leap_60 : decode cX2_leap 60 = .ok (.iaload, 1) := by decide +kernel
theorem dX2_leap_61 : decode cX2_leap 61 = .ok (.iload_n 3, 1) := by decide +kernel
theorem dX2_leap_62 : decode cX2_leap 62 = .ok (.iadd, 1) := by decide +kernel
theorem dX2_leap_63 : decode cX2_leap 63 = .ok (.putfield 28, 3) := by decide +kernel
theorem dX2_leap_66 : decode cX2_leap 66 = .ok (.aload_n 0, 1) := by decide +kernel
theorem dX2_leap_67 : decode cX2_leap 67 = .ok (.iload_n 1, 1) := by decide +kernel
theorem dX2_leap_68 : decode cX2_leap 68 = .ok (.bipush 22, 2) := by decide +kernel
theorem dX2_leap_70 : decode cX2_leap 70 = .ok (.iushr, 1) := by decide +kernel
theorem dX2_leap_71 : decode cX2_leap 71 = .ok (.bipush 15, 2) := by decide +kernel
theorem dX2_leap_73 : decode cX2_leap 73 = .ok (.iand, 1) := by decide +kernel
theorem dX2_leap_74 : decode cX2_leap 74 = .ok (.iload 4, 2) := by decide +kernel
theorem dX2_leap_76 : decode cX2_leap 76 = .ok (.iconst 4, 1) := by decide +kernel
theorem dX2_leap_77 : decode cX2_leap 77 = .ok (.iadd, 1) := by decide +kernel
theorem dX2_leap_78 : decode cX2_leap 78 = .ok (.invokevirtual 86, 3) := by decide +kernel
theorem dX2_leap_81 : decode cX2_leap 81 = .ok (.goto 39, 3) := by decide +kernel
theorem dX2_leap_84 : decode cX2_leap 84 = .ok (.iload_n 2, 1) := by decide +kernel
theorem dX2_leap_85 : decode cX2_leap 85 = .ok (.bipush 39, 2) := by decide +kernel
theorem dX2_leap_87 : decode cX2_leap 87 = .ok (.if_icmp .ne 28, 3) := by decide +kernel
theorem dX2_leap_90 : decode cX2_leap 90 = .ok (.aload_n 0, 1) := by decide +kernel
theorem dX2_leap_91 : decode cX2_leap 91 = .ok (.getfield 44, 3) := by decide +kernel
theorem dX2_leap_94 : decode cX2_leap 94 = .ok (.ifCond .eq 21, 3) := by decide +kernel
theorem dX2_leap_97 : decode cX2_leap 97 = .ok (.aload_n 0, 1) := by decide +kernel
theorem dX2_leap_98 : decode cX2_leap 98 = .ok (.aload_n 0, 1) := by decide +kernel
theorem dX2_leap_99 : decode cX2_leap 99 = .ok (.getfield 37, 3) := by decide +kernel
theorem dX2_leap_102 : decode cX2_leap 102 = .ok (.iconst 4, 1) := by decide +kernel
theorem dX2_leap_103 : decode cX2_leap 103 = .ok (.iadd, 1) := by decide +kernel
theorem dX2_leap_104 : decode cX2_leap 104 = .ok (.putfield 28, 3) := by decide +kernel
theorem dX2_leap_107 : decode cX2_leap 107 = .ok (.aload_n 0, 1) := by decide +kernel
theorem dX2_leap_108 : decode cX2_leap 108 = .ok (.iconst 0, 1) := by decide +kernel
theorem dX2_leap_109 : decode cX2_leap 109 = .ok (.putfield 44, 3) := by decide +kernel
theorem dX2_leap_112 : decode cX2_leap 112 = .ok (.goto 8, 3) := by decide +kernel
theorem dX2_leap_115 : decode cX2_leap 115 = .ok (.aload_n 0, 1) := by decide +kernel
theorem dX2_leap_116 : decode cX2_leap 116 = .ok (.iconst 1, 1) := by decide +kernel
theorem dX2_leap_117 : decode cX2_leap 117 = .ok (.invokevirtual 59, 3) := by decide +kernel
theorem dX2_leap_120 : decode cX2_leap 120 = .ok (.return_, 1) := by decide +kernel
theorem cc_X2_leap : Cond.code yX2_leap cX2_leap 5 none ∈ rf_tb := rf_at 1154 (by decide +kernel) (by decide +kernel)
noncomputable def bc_X2_leap_115 (a : Nat) (σ : cl_S) : Option (cl_S) := bd1 (fc_X2_trap a (1:Int32) σ) (fun σ_4 => some σ_4)
set_option maxHeartbeats 4000000 in
theorem wc_X2_leap_115 (C : cl_C D p s m args meth c cX2_leap 5 none RX2) {a : Nat} {σ0 σ σ' : cl_S} {T : Nat → Nat × Nat} {H : Heap} {locs : List Loc} {ls : Array Slot} {cells slots : Nat} (h : bc_X2_leap_115 a σ = some σ') (G : cl_G true D c0 ({ frames := 1, cells := σ0.2.2.2.2.2.1, slots := σ0.2.2.2.2.2.2, locals := 22 }) s σ0.2.2.2.1 T σ H locs cells slots) (ha : (T a).1 = 18) (hl : lv_has ls 5 [(0, .ref (c0 + a))]) : W p l e ({ frames := 1, cells := σ0.2.2.2.2.2.1, slots := σ0.2.2.2.2.2.2, locals := 22 }) s m args below meth c H locs cells slots (MQ below (cl_Q true D c0 none cl_no σ0 σ') args s (σ0.2.2.2.2.2.1 - σ'.2.2.2.2.2.1) (σ0.2.2.2.2.2.2 - σ'.2.2.2.2.2.2) (cl_A c0 σ0.2.2.2.1 s.heap.size)) (F0 m 115 ls []) := by
  unfold bc_X2_leap_115 at h
  refine lv_aload_n C.1 C.2.1 dX2_leap_115 rfl (lv_at hl 0 rfl) ?_
  refine lv_iconst (v := (1:Int32)) C.1 C.2.1 dX2_leap_116 (by decide) ?_
  obtain ⟨σ_4, hq, h_5⟩ := bd1_some h
  refine cl_callV (ci := 2) (rest := []) C G rfl ha cw_RX2_59 [.int (1:Int32)] _ (kc_X2_trap l D c0 (by rw [G.1]; exact ha) hq) (Nat.le_of_ble_eq_true rfl) (Nat.le_of_ble_eq_true rfl) rfl rfl hl.1 (Nat.le_of_ble_eq_true rfl) dX2_leap_117 (fun T_6 H locs cells slots t_7 hu G_8 => ?_)
  have ha := hu.kind ha (by decide)
  refine W.eq (g2 := F0 m 120 ls []) rfl ?_
  exact cl_vret ⟨rfl, rfl⟩ rfl C G_8 h_5 dX2_leap_120
noncomputable def bc_X2_leap_0 (a : Nat) (x1 : Int32) (x2 : Int32) (x3 : Int32) (σ : cl_S) : Option (cl_S) := vl (σ.1 a 3) (fun x4_1 => (if x2 = (36:Int32) then vl (cl_w σ a 3 ((σ.1 a 3) + ((4:Int32) * x3))) (fun σ_28 => bd1 (fc_X2_write a (((x1.toUInt32 >>> ((22:Int32).toUInt32 &&& Int32.toUInt32 31)).toInt32) &&& (15:Int32)) (x4_1 + (4:Int32)) σ_28) (fun σ_32 => some σ_32)) else (if x2 = (37:Int32) then ix (((x1.toUInt32 >>> ((18:Int32).toUInt32 &&& Int32.toUInt32 31)).toInt32) &&& (15:Int32)) 16 (vl (cl_w σ a 3 ((σ.1 (a + 2) (((x1.toUInt32 >>> ((18:Int32).toUInt32 &&& Int32.toUInt32 31)).toInt32) &&& (15:Int32)).toNatClampNeg) + x3)) (fun σ_19 => bd1 (fc_X2_write a (((x1.toUInt32 >>> ((22:Int32).toUInt32 &&& Int32.toUInt32 31)).toInt32) &&& (15:Int32)) (x4_1 + (4:Int32)) σ_19) (fun σ_23 => some σ_23))) else (if x2 = (39:Int32) then (if (σ.1 a 8) = 0 then bc_X2_leap_115 a σ else vl (cl_w σ a 3 ((σ.1 a 6) + (4:Int32))) (fun σ_9 => vl (cl_w σ_9 a 8 (0:Int32)) (fun σ_13 => some σ_13))) else bc_X2_leap_115 a σ))))
set_option maxHeartbeats 4000000 in
theorem wc_X2_leap_0 (C : cl_C D p s m args meth c cX2_leap 5 none RX2) {a : Nat} {x1 : Int32} {x2 : Int32} {x3 : Int32} {σ0 σ σ' : cl_S} {T : Nat → Nat × Nat} {H : Heap} {locs : List Loc} {ls : Array Slot} {cells slots : Nat} (h : bc_X2_leap_0 a x1 x2 x3 σ = some σ') (G : cl_G true D c0 ({ frames := 1, cells := σ0.2.2.2.2.2.1, slots := σ0.2.2.2.2.2.2, locals := 22 }) s σ0.2.2.2.1 T σ H locs cells slots) (ha : (T a).1 = 18) (hl : lv_has ls 5 [(0, .ref (c0 + a)), (1, .int x1), (2, .int x2), (3, .int x3)]) : W p l e ({ frames := 1, cells := σ0.2.2.2.2.2.1, slots := σ0.2.2.2.2.2.2, locals := 22 }) s m args below meth c H locs cells slots (MQ below (cl_Q true D c0 none cl_no σ0 σ') args s (σ0.2.2.2.2.2.1 - σ'.2.2.2.2.2.1) (σ0.2.2.2.2.2.2 - σ'.2.2.2.2.2.2) (cl_A c0 σ0.2.2.2.1 s.heap.size)) (F0 m 0 ls []) := by
  unfold bc_X2_leap_0 at h
  refine lv_aload_n C.1 C.2.1 dX2_leap_0 rfl (lv_at hl 0 rfl) ?_
  refine cg_2_28 C G ha dX2_leap_1 ?_
  refine vt_i h (fun x4_1 h_2 => ?_)
  refine lv_istore (lv' := [(4, .int x4_1), (0, .ref (c0 + a)), (1, .int x1), (2, .int x2), (3, .int x3)]) C.1 C.2.1 dX2_leap_4 hl (by decide) rfl (fun ls hl_3 => ?_)
  refine lv_iload_n C.1 C.2.1 dX2_leap_6 rfl (lv_at hl_3 3 rfl) ?_
  refine lv_bipush (v := (36:Int32)) C.1 C.2.1 dX2_leap_7 (by decide) ?_
  refine lv_icmp_ne (tgt := 42) C.1 C.2.1 dX2_leap_9 (by decide) (fun hc => ?_) (fun hc => ?_)
  · rw [if_neg hc] at h_2
    refine lv_iload_n C.1 C.2.1 dX2_leap_42 rfl (lv_at hl_3 3 rfl) ?_
    refine lv_bipush (v := (37:Int32)) C.1 C.2.1 dX2_leap_43 (by decide) ?_
    refine lv_icmp_ne (tgt := 84) C.1 C.2.1 dX2_leap_45 (by decide) (fun hc => ?_) (fun hc => ?_)
    · rw [if_neg hc] at h_2
      refine lv_iload_n C.1 C.2.1 dX2_leap_84 rfl (lv_at hl_3 3 rfl) ?_
      refine lv_bipush (v := (39:Int32)) C.1 C.2.1 dX2_leap_85 (by decide) ?_
      refine lv_icmp_ne (tgt := 115) C.1 C.2.1 dX2_leap_87 (by decide) (fun hc => ?_) (fun hc => ?_)
      · rw [if_neg hc] at h_2
        exact wc_X2_leap_115 C h_2 G ha (lv_sub hl_3 [1] rfl)
      · rw [if_pos hc] at h_2
        refine lv_aload_n C.1 C.2.1 dX2_leap_90 rfl (lv_at hl_3 1 rfl) ?_
        refine cg_2_44 C G ha dX2_leap_91 ?_
        refine lv_if_eq (tgt := 115) C.1 C.2.1 dX2_leap_94 (by decide) (fun hc => ?_) (fun hc => ?_)
        · rw [if_pos hc] at h_2
          exact wc_X2_leap_115 C h_2 G ha (lv_sub hl_3 [1] rfl)
        · rw [if_neg hc] at h_2
          refine lv_aload_n C.1 C.2.1 dX2_leap_97 rfl (lv_at hl_3 1 rfl) ?_
          refine lv_aload_n C.1 C.2.1 dX2_leap_98 rfl (lv_at hl_3 1 rfl) ?_
          refine cg_2_37 C G ha dX2_leap_99 ?_
          refine lv_iconst (v := (4:Int32)) C.1 C.2.1 dX2_leap_102 (by decide) ?_
          refine lv_iadd C.1 C.2.1 dX2_leap_103 ?_
          refine cp_2_28 C G ha dX2_leap_104 (fun H locs G_10 => ?_)
          refine cl_nm G_10 h_2 (fun σ_9 G_11 h_12 => ?_)
          refine lv_aload_n C.1 C.2.1 dX2_leap_107 rfl (lv_at hl_3 1 rfl) ?_
          refine lv_iconst (v := (0:Int32)) C.1 C.2.1 dX2_leap_108 (by decide) ?_
          refine cp_2_44 C G_11 ha rfl rfl dX2_leap_109 (fun H locs G_14 => ?_)
          refine cl_nm G_14 h_12 (fun σ_13 G_15 h_16 => ?_)
          refine lv_goto (tgt := 120) C.1 C.2.1 dX2_leap_112 (by decide) ?_
          exact cl_vret ⟨rfl, rfl⟩ rfl C G_15 h_16 dX2_leap_120
    · rw [if_pos hc] at h_2
      refine lv_aload_n C.1 C.2.1 dX2_leap_48 rfl (lv_at hl_3 1 rfl) ?_
      refine lv_aload_n C.1 C.2.1 dX2_leap_49 rfl (lv_at hl_3 1 rfl) ?_
      refine cg_2_15 C G ha dX2_leap_50 (fun t_17 => ?_)
      refine lv_iload_n C.1 C.2.1 dX2_leap_53 rfl (lv_at hl_3 2 rfl) ?_
      refine lv_bipush (v := (18:Int32)) C.1 C.2.1 dX2_leap_54 (by decide) ?_
      refine lv_iushr C.1 C.2.1 dX2_leap_56 rfl ?_
      refine lv_bipush (v := (15:Int32)) C.1 C.2.1 dX2_leap_57 (by decide) ?_
      refine lv_iand C.1 C.2.1 dX2_leap_59 ?_
      obtain ⟨hi, h_18⟩ := ix_some h_2
      refine cl_iald C G t_17 hi dX2_leap_60 ?_
      refine lv_iload_n C.1 C.2.1 dX2_leap_61 rfl (lv_at hl_3 4 rfl) ?_
      refine lv_iadd C.1 C.2.1 dX2_leap_62 ?_
      refine cp_2_28 C G ha dX2_leap_63 (fun H locs G_20 => ?_)
      refine cl_nm G_20 h_18 (fun σ_19 G_21 h_22 => ?_)
      refine lv_aload_n C.1 C.2.1 dX2_leap_66 rfl (lv_at hl_3 1 rfl) ?_
      refine lv_iload_n C.1 C.2.1 dX2_leap_67 rfl (lv_at hl_3 2 rfl) ?_
      refine lv_bipush (v := (22:Int32)) C.1 C.2.1 dX2_leap_68 (by decide) ?_
      refine lv_iushr C.1 C.2.1 dX2_leap_70 rfl ?_
      refine lv_bipush (v := (15:Int32)) C.1 C.2.1 dX2_leap_71 (by decide) ?_
      refine lv_iand C.1 C.2.1 dX2_leap_73 ?_
      refine lv_iload C.1 C.2.1 dX2_leap_74 (lv_at hl_3 0 rfl) ?_
      refine lv_iconst (v := (4:Int32)) C.1 C.2.1 dX2_leap_76 (by decide) ?_
      refine lv_iadd C.1 C.2.1 dX2_leap_77 ?_
      obtain ⟨σ_23, hq, h_24⟩ := bd1_some h_22
      refine cl_callV (ci := 2) (rest := []) C G_21 rfl ha cw_RX2_86 [.int (((x1.toUInt32 >>> ((22:Int32).toUInt32 &&& Int32.toUInt32 31)).toInt32) &&& (15:Int32)), .int (x4_1 + (4:Int32))] _ (kc_X2_write l D c0 (by rw [G_21.1]; exact ha) hq) (Nat.le_of_ble_eq_true rfl) (Nat.le_of_ble_eq_true rfl) rfl rfl hl_3.1 (Nat.le_of_ble_eq_true rfl) dX2_leap_78 (fun T_25 H locs cells slots t_26 hu G_27 => ?_)
      have ha := hu.kind ha (by decide)
      refine W.eq (g2 := F0 m 81 ls []) rfl ?_
      refine lv_goto (tgt := 120) C.1 C.2.1 dX2_leap_81 (by decide) ?_
      exact cl_vret ⟨rfl, rfl⟩ rfl C G_27 h_24 dX2_leap_120
  · rw [if_pos hc] at h_2
    refine lv_aload_n C.1 C.2.1 dX2_leap_12 rfl (lv_at hl_3 1 rfl) ?_
    refine lv_dup C.1 C.2.1 dX2_leap_13 rfl ?_
    refine cg_2_28 C G ha dX2_leap_14 ?_
    refine lv_iconst (v := (4:Int32)) C.1 C.2.1 dX2_leap_17 (by decide) ?_
    refine lv_iload_n C.1 C.2.1 dX2_leap_18 rfl (lv_at hl_3 4 rfl) ?_
    refine lv_imul C.1 C.2.1 dX2_leap_19 ?_
    refine lv_iadd C.1 C.2.1 dX2_leap_20 ?_
    refine cp_2_28 C G ha dX2_leap_21 (fun H locs G_29 => ?_)
    refine cl_nm G_29 h_2 (fun σ_28 G_30 h_31 => ?_)
    refine lv_aload_n C.1 C.2.1 dX2_leap_24 rfl (lv_at hl_3 1 rfl) ?_
    refine lv_iload_n C.1 C.2.1 dX2_leap_25 rfl (lv_at hl_3 2 rfl) ?_
    refine lv_bipush (v := (22:Int32)) C.1 C.2.1 dX2_leap_26 (by decide) ?_
    refine lv_iushr C.1 C.2.1 dX2_leap_28 rfl ?_
    refine lv_bipush (v := (15:Int32)) C.1 C.2.1 dX2_leap_29 (by decide) ?_
    refine lv_iand C.1 C.2.1 dX2_leap_31 ?_
    refine lv_iload C.1 C.2.1 dX2_leap_32 (lv_at hl_3 0 rfl) ?_
    refine lv_iconst (v := (4:Int32)) C.1 C.2.1 dX2_leap_34 (by decide) ?_
    refine lv_iadd C.1 C.2.1 dX2_leap_35 ?_
    obtain ⟨σ_32, hq, h_33⟩ := bd1_some h_31
    refine cl_callV (ci := 2) (rest := []) C G_30 rfl ha cw_RX2_86 [.int (((x1.toUInt32 >>> ((22:Int32).toUInt32 &&& Int32.toUInt32 31)).toInt32) &&& (15:Int32)), .int (x4_1 + (4:Int32))] _ (kc_X2_write l D c0 (by rw [G_30.1]; exact ha) hq) (Nat.le_of_ble_eq_true rfl) (Nat.le_of_ble_eq_true rfl) rfl rfl hl_3.1 (Nat.le_of_ble_eq_true rfl) dX2_leap_36 (fun T_34 H locs cells slots t_35 hu G_36 => ?_)
    have ha := hu.kind ha (by decide)
    refine W.eq (g2 := F0 m 39 ls []) rfl ?_
    refine lv_goto (tgt := 120) C.1 C.2.1 dX2_leap_39 (by decide) ?_
    exact cl_vret ⟨rfl, rfl⟩ rfl C G_36 h_33 dX2_leap_120
noncomputable def fc_X2_leap (a : Nat) (x1 : Int32) (x2 : Int32) (x3 : Int32) (σ : cl_S) : Option (cl_S) := bc_X2_leap_0 a x1 x2 x3 σ
theorem kc_X2_leap (l : Launch) (D : cl_D) (c0 : Nat) {a : Nat} {x1 : Int32} {x2 : Int32} {x3 : Int32} {σ σ' : cl_S} (ha : (σ.2.2.2.1 a).1 = 18) (h : fc_X2_leap a x1 x2 x3 σ = some σ') : cl_Met true l D c0 yX2_leap cX2_leap 5 none 1 22 [.ref (c0 + a), .int x1, .int x2, .int x3] σ none cl_no σ' :=
  cl_of (by decide) (Nat.le_of_ble_eq_true rfl) (fun p e s m args below meth c ls C hn G hl => wc_X2_leap_0 C h G ha hl)
abbrev cX2_step : ByteArray := prog_4_method_7_code
def yX2_step : MethodName := ⟨RX2, "step", "()I"⟩
theorem dX2_step_0 : decode cX2_step 0 = .ok (.aload_n 0, 1) := by decide +kernel
theorem dX2_step_1 : decode cX2_step 1 = .ok (.getfield 28, 3) := by decide +kernel
theorem dX2_step_4 : decode cX2_step 4 = .ok (.ifCond .lt 25, 3) := by decide +kernel
theorem dX2_step_7 : decode cX2_step 7 = .ok (.aload_n 0, 1) := by decide +kernel
theorem dX2_step_8 : decode cX2_step 8 = .ok (.getfield 28, 3) := by decide +kernel
theorem dX2_step_11 : decode cX2_step 11 = .ok (.iconst 4, 1) := by decide +kernel
theorem dX2_step_12 : decode cX2_step 12 = .ok (.aload_n 0, 1) := by decide +kernel
theorem dX2_step_13 : decode cX2_step 13 = .ok (.getfield 18, 3) := by decide +kernel
theorem dX2_step_16 : decode cX2_step 16 = .ok (.imul, 1) := by decide +kernel
theorem dX2_step_17 : decode cX2_step 17 = .ok (.if_icmp .ge 12, 3) := by decide +kernel
theorem dX2_step_20 : decode cX2_step 20 = .ok (.aload_n 0, 1) := by decide +kernel
theorem dX2_step_21 : decode cX2_step 21 = .ok (.getfield 28, 3) := by decide +kernel
theorem dX2_step_24 : decode cX2_step 24 = .ok (.iconst 3, 1) := by decide +kernel
theorem dX2_step_25 : decode cX2_step 25 = .ok (.iand, 1) := by decide +kernel
theorem dX2_step_26 : decode cX2_step 26 = .ok (.ifCond .eq 10, 3) := by decide +kernel
theorem dX2_step_29 : decode cX2_step 29 = .ok (.aload_n 0, 1) := by decide +kernel
theorem dX2_step_30 : decode cX2_step 30 = .ok (.iconst 4, 1) := by decide +kernel
theorem dX2_step_31 : decode cX2_step 31 = .ok (.invokevirtual 59, 3) := by decide +kernel
theorem dX2_step_34 : decode cX2_step 34 = .ok (.iconst (-1), 1) := by decide +kernel
theorem dX2_step_35 : decode cX2_step 35 = .ok (.ireturn, 1) := by decide +kernel
theorem dX2_step_36 : decode cX2_step 36 = .ok (.aload_n 0, 1) := by decide +kernel
theorem dX2_step_37 : decode cX2_step 37 = .ok (.getfield 9, 3) := by decide +kernel
theorem dX2_step_40 : decode cX2_step 40 = .ok (.aload_n 0, 1) := by decide +kernel
theorem dX2_step_41 : decode cX2_step 41 = .ok (.getfield 28, 3) := by decide +kernel
theorem dX2_step_44 : decode cX2_step 44 = .ok (.iconst 2, 1) := by decide +kernel
theorem dX2_step_45 : decode cX2_step 45 = .ok (.ishr, 1) := by decide +kernel
theorem dX2_step_46 : decode cX2_step 46 = .ok (.iaload, 1) := by decide +kernel
theorem dX2_step_47 : decode cX2_step 47 = .ok (.istore_n 1, 1) := by decide +kernel
theorem dX2_step_48 : decode cX2_step 48 = .ok (.iload_n 1, 1) := by decide +kernel
theorem dX2_step_49 : decode cX2_step 49 = .ok (.bipush 26, 2) := by decide +kernel
theorem dX2_step_51 : decode cX2_step 51 = .ok (.iushr, 1) := by decide +kernel
theorem dX2_step_52 : decode cX2_step 52 = .ok (.istore_n 2, 1) := by decide +kernel
theorem dX2_step_53 : decode cX2_step 53 = .ok (.iload_n 1, 1) := by decide +kernel
theorem dX2_step_54 : decode cX2_step 54 = .ok (.bipush 14, 2) := by decide +kernel
theorem dX2_step_56 : decode cX2_step 56 = .ok (.ishl, 1) := by decide +kernel
theorem dX2_step_57 : decode cX2_step 57 = .ok (.bipush 14, 2) := by decide +kernel
theorem dX2_step_59 : decode cX2_step 59 = .ok (.ishr, 1) := by decide +kernel
theorem dX2_step_60 : decode cX2_step 60 = .ok (.istore_n 3, 1) := by decide +kernel
theorem dX2_step_61 : decode cX2_step 61 = .ok (.iload_n 2, 1) := by decide +kernel
theorem dX2_step_62 : decode cX2_step 62 = .ok (.bipush 38, 2) := by decide +kernel
theorem dX2_step_64 : decode cX2_step 64 = .ok (.if_icmp .ne 15, 3) := by decide +kernel
theorem dX2_step_67 : decode cX2_step 67 = .ok (.iload_n 3, 1) := by decide +kernel
theorem dX2_step_68 : decode cX2_step 68 = .ok (.ifCond .lt 11, 3) := by decide +kernel
theorem dX2_step_71 : decode cX2_step 71 = .ok (.iload_n 3, 1) := by decide +kernel
theorem dX2_step_72 : decode cX2_step 72 = .ok (.bipush 34, 2) := by decide +kernel
theorem dX2_step_74 : decode cX2_step 74 = .ok (.if_icmp .gt 5, 3) := by decide +kernel
theorem dX2_step_77 : decode cX2_step 77 = .ok (.iload_n 3, 1) := by decide +kernel
theorem dX2_step_78 : decode cX2_step 78 = .ok (.ireturn, 1) := by decide +kernel
theorem dX2_step_79 : decode cX2_step 79 = .ok (.iload_n 2, 1) := by decide +kernel
theorem dX2_step_80 : decode cX2_step 80 = .ok (.iconst 1, 1) := by decide +kernel
theorem dX2_step_81 : decode cX2_step 81 = .ok (.if_icmp .lt 19, 3) := by decide +kernel
theorem dX2_step_84 : decode cX2_step 84 = .ok (.iload_n 2, 1) := by decide +kernel
theorem dX2_step_85 : decode cX2_step 85 = .ok (.bipush 21, 2) := by decide +kernel
theorem dX2_step_87 : decode cX2_step 87 = .ok (.if_icmp .gt 13, 3) := by decide +kernel
theorem dX2_step_90 : decode cX2_step 90 = .ok (.aload_n 0, 1) := by decide +kernel
theorem dX2_step_91 : decode cX2_step 91 = .ok (.iload_n 1, 1) := by decide +kernel
theorem dX2_step_92 : decode cX2_step 92 = .ok (.iload_n 2, 1) := by decide +kernel
theorem dX2_step_93 : decode cX2_step 93 = .ok (.iload_n 3, 1) := by decide +kernel
theorem dX2_step_94 : decode cX2_step 94 = .ok (.invokevirtual 63, 3) := by decide +kernel
theorem dX2_step_97 : decode cX2_step 97 = .ok (.goto 112, 3) := by decide +kernel
theorem dX2_step_100 : decode cX2_step 100 = .ok (.iload_n 2, 1) := by decide +kernel
theorem dX2_step_101 : decode cX2_step 101 = .ok (.invokestatic 67, 3) := by decide +kernel
theorem dX2_step_104 : decode cX2_step 104 = .ok (.ifCond .eq 32, 3) := by decide +kernel
theorem dX2_step_107 : decode cX2_step 107 = .ok (.aload_n 0, 1) := by decide +kernel
theorem dX2_step_108 : decode cX2_step 108 = .ok (.iload_n 2, 1) := by decide +kernel
theorem dX2_step_109 : decode cX2_step 109 = .ok (.iload_n 1, 1) := by decide +kernel
theorem dX2_step_110 : decode cX2_step 110 = .ok (.bipush 22, 2) := by decide +kernel
theorem dX2_step_112 : decode cX2_step 112 = .ok (.iushr, 1) := by decide +kernel
theorem dX2_step_113 : decode cX2_step 113 = .ok (.bipush 15, 2) := by decide +kernel
theorem dX2_step_115 : decode cX2_step 115 = .ok (.iand, 1) := by decide +kernel
theorem dX2_step_116 : decode cX2_step 116 = .ok (.aload_n 0, 1) := by decide +kernel
theorem dX2_step_117 : decode cX2_step 117 = .ok (.getfield 15, 3) := by decide +kernel
theorem dX2_step_120 : decode cX2_step 120 = .ok (.iload_n 1, 1) := by decide +kernel
theorem dX2_step_121 : decode cX2_step 121 = .ok (.bipush 18, 2) := by decide +kernel
theorem dX2_step_123 : decode cX2_step 123 = .ok (.iushr, 1) := by decide +kernel
theorem dX2_step_124 : decode cX2_step 124 = .ok (.bipush 15, 2) := by decide +kernel
theorem dX2_step_126 : decode cX2_step 126 = .ok (.iand, 1) := by decide +kernel
theorem dX2_step_127 : decode cX2_step 127 = .ok (.iaload, 1) := by decide +kernel
theorem dX2_step_128 : decode cX2_step 128 = .ok (.iload_n 3, 1) := by decide +kernel
theorem dX2_step_129 : decode cX2_step 129 = .ok (.iadd, 1) := by decide +kernel
theorem dX2_step_130 : decode cX2_step 130 = .ok (.invokevirtual 71, 3) := by decide +kernel
theorem dX2_step_133 : decode cX2_step 133 = .ok (.goto 76, 3) := by decide +kernel
theorem dX2_step_136 : decode cX2_step 136 = .ok (.iload_n 2, 1) := by decide +kernel
theorem dX2_step_137 : decode cX2_step 137 = .ok (.bipush 30, 2) := by decide +kernel
theorem dX2_step_139 : decode cX2_step 139 = .ok (.if_icmp .lt 63, 3) := by decide +kernel
theorem dX2_step_142 : decode cX2_step 142 = .ok (.iload_n 2, 1) := by decide +kernel
theorem dX2_step_143 : decode cX2_step 143 = .ok (.bipush 35, 2) := by decide +kernel
theorem dX2_step_145 : decode cX2_step 145 = .ok (.if_icmp .gt 57, 3) := by decide +kernel
theorem dX2_step_148 : decode cX2_step 148 = .ok (.iload_n 2, 1) := by decide +kernel
theorem dX2_step_149 : decode cX2_step 149 = .ok (.aload_n 0, 1) := by decide +kernel
theorem dX2_step_150 : decode cX2_step 150 = .ok (.getfield 15, 3) := by decide +kernel
theorem dX2_step_153 : decode cX2_step 153 = .ok (.iload_n 1, 1) := by decide +kernel
theorem dX2_step_154 : decode cX2_step 154 = .ok (.bipush 22, 2) := by decide +kernel
theorem dX2_step_156 : decode cX2_step 156 = .ok (.iushr, 1) := by decide +kernel
theorem dX2_step_157 : decode cX2_step 157 = .ok (.bipush 15, 2) := by decide +kernel
theorem dX2_step_159 : decode cX2_step 159 = .ok (.iand, 1) := by decide +kernel
theorem dX2_step_160 : decode cX2_step 160 = .ok (.iaload, 1) := by decide +kernel
theorem dX2_step_161 : decode cX2_step 161 = .ok (.aload_n 0, 1) := by decide +kernel
theorem dX2_step_162 : decode cX2_step 162 = .ok (.getfield 15, 3) := by decide +kernel
theorem dX2_step_165 : decode cX2_step 165 = .ok (.iload_n 1, 1) := by decide +kernel
theorem dX2_step_166 : decode cX2_step 166 = .ok (.bipush 18, 2) := by decide +kernel
theorem dX2_step_168 : decode cX2_step 168 = .ok (.iushr, 1) := by decide +kernel
theorem dX2_step_169 : decode cX2_step 169 = .ok (.bipush 15, 2) := by decide +kernel
theorem dX2_step_171 : decode cX2_step 171 = .ok (.iand, 1) := by decide +kernel
theorem dX2_step_172 : decode cX2_step 172 = .ok (.iaload, 1) := by decide +kernel
theorem dX2_step_173 : decode cX2_step 173 = .ok (.invokestatic 74, 3) := by decide +kernel
theorem dX2_step_176 : decode cX2_step 176 = .ok (.istore 4, 2) := by decide +kernel
theorem dX2_step_178 : decode cX2_step 178 = .ok (.aload_n 0, 1) := by decide +kernel
theorem dX2_step_179 : decode cX2_step 179 = .ok (.dup, 1) := by decide +kernel
theorem dX2_step_180 : decode cX2_step 180 = .ok (.getfield 28, 3) := by decide +kernel
theorem dX2_step_183 : decode cX2_step 183 = .ok (.iload 4, 2) := by decide +kernel
theorem dX2_step_185 : decode cX2_step 185 = .ok (.ifCond .eq 9, 3) := by decide +kernel
theorem dX2_step_188 : decode cX2_step 188 = .ok (.iconst 4, 1) := by decide +kernel
theorem dX2_step_189 : decode cX2_step 189 = .ok (.iload_n 3, 1) := by decide +kernel
theorem dX2_step_190 : decode cX2_step 190 = .ok (.imul, 1) := by decide +kernel
theorem dX2_step_191 : decode cX2_step 191 = .ok (.goto 4, 3) := by decide +kernel
theorem dX2_step_194 : decode cX2_step 194 = .ok (.iconst 4, 1) := by decide +kernel
theorem dX2_step_195 : decode cX2_step 195 = .ok (.iadd, 1) := by decide +kernel
theorem dX2_step_196 : decode cX2_step 196 = .ok (.putfield 28, 3) := by decide +kernel
theorem dX2_step_199 : decode cX2_step 199 = .ok (.goto 10, 3) := by decide +kernel
theorem dX2_step_202 : decode cX2_step 202 = .ok (.aload_n 0, 1) := by decide +kernel
theorem dX2_step_203 : decode cX2_step 203 = .ok (.iload_n 1, 1) := by decide +kernel
theorem dX2_step_204 : decode cX2_step 204 = .ok (.iload_n 2, 1) := by decide +kernel
theorem dX2_step_205 : decode cX2_step 205 = .ok (.iload_n 3, 1) := by decide +kernel
theorem dX2_step_206 : decode cX2_step 206 = .ok (.invokevirtual 78, 3) := by decide +kernel
theorem dX2_step_209 : decode cX2_step 209 = .ok (.iconst (-1), 1) := by decide +kernel
theorem dX2_step_210 : decode cX2_step 210 = .ok (.ireturn, 1) := by decide +kernel
theorem cc_X2_step : Cond.code yX2_step cX2_step 5 (some .int) ∈ rf_tb := rf_at 1116 (by decide +kernel) (by decide +kernel)
theorem cw_RX2_63 : cl_wV RX2 RX2 yX2_reckon cX2_reckon 6 none 63 3 := ⟨⟨rf_at 1121 (by decide +kernel) (by decide +kernel), rf_at 1123 (by decide +kernel) (by decide +kernel), rf_sel (q := (yX2_reckon, 9)) 37 (by decide +kernel) (by decide +kernel), cc_X2_reckon, rf_at 16 (by decide +kernel) (by decide +kernel)⟩, ⟨by decide, by decide, by decide +kernel⟩⟩
theorem cw_RX2_67 : cl_wS RX2 yX2_isMemoryOp cX2_isMemoryOp 1 (some .boolean) 67 1 := ⟨⟨rf_at 1137 (by decide +kernel) (by decide +kernel), rf_at 997 (by decide +kernel) (by decide +kernel), cc_X2_isMemoryOp, rf_at 16 (by decide +kernel) (by decide +kernel)⟩, ⟨by decide, by decide, by decide +kernel⟩⟩
theorem cw_RX2_71 : cl_wV RX2 RX2 yX2_access cX2_access 7 none 71 3 := ⟨⟨rf_at 1138 (by decide +kernel) (by decide +kernel), rf_at 1140 (by decide +kernel) (by decide +kernel), rf_sel (q := (yX2_access, 9)) 39 (by decide +kernel) (by decide +kernel), cc_X2_access, rf_at 16 (by decide +kernel) (by decide +kernel)⟩, ⟨by decide, by decide, by decide +kernel⟩⟩
theorem cw_RX2_74 : cl_wS RX2 yX2_compare cX2_compare 3 (some .boolean) 74 3 := ⟨⟨rf_at 1148 (by decide +kernel) (by decide +kernel), rf_at 1149 (by decide +kernel) (by decide +kernel), cc_X2_compare, rf_at 16 (by decide +kernel) (by decide +kernel)⟩, ⟨by decide, by decide, by decide +kernel⟩⟩
theorem cw_RX2_78 : cl_wV RX2 RX2 yX2_leap cX2_leap 5 none 78 3 := ⟨⟨rf_at 1151 (by decide +kernel) (by decide +kernel), rf_at 1153 (by decide +kernel) (by decide +kernel), rf_sel (q := (yX2_leap, 9)) 40 (by decide +kernel) (by decide +kernel), cc_X2_leap, rf_at 16 (by decide +kernel) (by decide +kernel)⟩, ⟨by decide, by decide, by decide +kernel⟩⟩
noncomputable def bc_X2_step_29 (a : Nat) (σ : cl_S) : Option (Int32 × cl_S) := bd1 (fc_X2_trap a (4:Int32) σ) (fun σ_1 => some ((-1:Int32), σ_1))
set_option maxHeartbeats 4000000 in
theorem wc_X2_step_29 (C : cl_C D p s m args meth c cX2_step 5 (some .int) RX2) {r : Int32} {a : Nat} {σ0 σ σ' : cl_S} {T : Nat → Nat × Nat} {H : Heap} {locs : List Loc} {ls : Array Slot} {cells slots : Nat} (h : bc_X2_step_29 a σ = some (r, σ')) (G : cl_G true D c0 ({ frames := 3, cells := σ0.2.2.2.2.2.1, slots := σ0.2.2.2.2.2.2, locals := 68 }) s σ0.2.2.2.1 T σ H locs cells slots) (ha : (T a).1 = 18) (hl : lv_has ls 5 [(0, .ref (c0 + a))]) : W p l e ({ frames := 3, cells := σ0.2.2.2.2.2.1, slots := σ0.2.2.2.2.2.2, locals := 68 }) s m args below meth c H locs cells slots (MQ below (cl_Q true D c0 (some (.int r)) cl_no σ0 σ') args s (σ0.2.2.2.2.2.1 - σ'.2.2.2.2.2.1) (σ0.2.2.2.2.2.2 - σ'.2.2.2.2.2.2) (cl_A c0 σ0.2.2.2.1 s.heap.size)) (F0 m 29 ls []) := by
  unfold bc_X2_step_29 at h
  refine lv_aload_n C.1 C.2.1 dX2_step_29 rfl (lv_at hl 0 rfl) ?_
  refine lv_iconst (v := (4:Int32)) C.1 C.2.1 dX2_step_30 (by decide) ?_
  obtain ⟨σ_1, hq, h_2⟩ := bd1_some h
  refine cl_callV (ci := 2) (rest := []) C G rfl ha cw_RX2_59 [.int (4:Int32)] _ (kc_X2_trap l D c0 (by rw [G.1]; exact ha) hq) (Nat.le_of_ble_eq_true rfl) (Nat.le_of_ble_eq_true rfl) rfl rfl hl.1 (Nat.le_of_ble_eq_true rfl) dX2_step_31 (fun T_3 H locs cells slots t_4 hu G_5 => ?_)
  have ha := hu.kind ha (by decide)
  refine W.eq (g2 := F0 m 34 ls []) rfl ?_
  refine lv_iconst (v := (-1:Int32)) C.1 C.2.1 dX2_step_34 (by decide) ?_
  exact cl_iret ⟨rfl, rfl⟩ rfl C G_5 h_2 dX2_step_35
noncomputable def bc_X2_step_202 (a : Nat) (x1 : Int32) (x2 : Int32) (x3 : Int32) (σ : cl_S) : Option (Int32 × cl_S) := bd1 (fc_X2_leap a x1 x2 x3 σ) (fun σ_23 => some ((-1:Int32), σ_23))
set_option maxHeartbeats 4000000 in
theorem wc_X2_step_202 (C : cl_C D p s m args meth c cX2_step 5 (some .int) RX2) {r : Int32} {a : Nat} {x1 : Int32} {x2 : Int32} {x3 : Int32} {σ0 σ σ' : cl_S} {T : Nat → Nat × Nat} {H : Heap} {locs : List Loc} {ls : Array Slot} {cells slots : Nat} (h : bc_X2_step_202 a x1 x2 x3 σ = some (r, σ')) (G : cl_G true D c0 ({ frames := 3, cells := σ0.2.2.2.2.2.1, slots := σ0.2.2.2.2.2.2, locals := 68 }) s σ0.2.2.2.1 T σ H locs cells slots) (ha : (T a).1 = 18) (hl : lv_has ls 5 [(0, .ref (c0 + a)), (1, .int x1), (2, .int x2), (3, .int x3)]) : W p l e ({ frames := 3, cells := σ0.2.2.2.2.2.1, slots := σ0.2.2.2.2.2.2, locals := 68 }) s m args below meth c H locs cells slots (MQ below (cl_Q true D c0 (some (.int r)) cl_no σ0 σ') args s (σ0.2.2.2.2.2.1 - σ'.2.2.2.2.2.1) (σ0.2.2.2.2.2.2 - σ'.2.2.2.2.2.2) (cl_A c0 σ0.2.2.2.1 s.heap.size)) (F0 m 202 ls []) := by
  unfold bc_X2_step_202 at h
  refine lv_aload_n C.1 C.2.1 dX2_step_202 rfl (lv_at hl 0 rfl) ?_
  refine lv_iload_n C.1 C.2.1 dX2_step_203 rfl (lv_at hl 1 rfl) ?_
  refine lv_iload_n C.1 C.2.1 dX2_step_204 rfl (lv_at hl 2 rfl) ?_
  refine lv_iload_n C.1 C.2.1 dX2_step_205 rfl (lv_at hl 3 rfl) ?_
  obtain ⟨σ_23, hq, h_24⟩ := bd1_some h
  refine cl_callV (ci := 2) (rest := []) C G rfl ha cw_RX2_78 [.int x1, .int x2, .int x3] _ (kc_X2_leap l D c0 (by rw [G.1]; exact ha) hq) (Nat.le_of_ble_eq_true rfl) (Nat.le_of_ble_eq_true rfl) rfl rfl hl.1 (Nat.le_of_ble_eq_true rfl) dX2_step_206 (fun T_25 H locs cells slots t_26 hu G_27 => ?_)
  have ha := hu.kind ha (by decide)
  refine W.eq (g2 := F0 m 209 ls []) rfl ?_
  refine lv_iconst (v := (-1:Int32)) C.1 C.2.1 dX2_step_209 (by decide) ?_
  exact cl_iret ⟨rfl, rfl⟩ rfl C G_27 h_24 dX2_step_210
noncomputable def bc_X2_step_195 (v0 : (Option Nat)) (v1 : Int32) (v2 : Int32) (σ : cl_S) : Option (Int32 × cl_S) := nn v0 (fun a_39 => vl (cl_w σ a_39 3 (v1 + v2)) (fun σ_42 => some ((-1:Int32), σ_42)))
set_option maxHeartbeats 4000000 in
theorem wc_X2_step_195 (C : cl_C D p s m args meth c cX2_step 5 (some .int) RX2) {r : Int32} {v0 : (Option Nat)} {v1 : Int32} {v2 : Int32} {σ0 σ σ' : cl_S} {T : Nat → Nat × Nat} {H : Heap} {locs : List Loc} {ls : Array Slot} {cells slots : Nat} (h : bc_X2_step_195 v0 v1 v2 σ = some (r, σ')) (G : cl_G true D c0 ({ frames := 3, cells := σ0.2.2.2.2.2.1, slots := σ0.2.2.2.2.2.2, locals := 68 }) s σ0.2.2.2.1 T σ H locs cells slots) (g0 : cl_RT T v0 18) (hl : lv_has ls 5 []) : W p l e ({ frames := 3, cells := σ0.2.2.2.2.2.1, slots := σ0.2.2.2.2.2.2, locals := 68 }) s m args below meth c H locs cells slots (MQ below (cl_Q true D c0 (some (.int r)) cl_no σ0 σ') args s (σ0.2.2.2.2.2.1 - σ'.2.2.2.2.2.1) (σ0.2.2.2.2.2.2 - σ'.2.2.2.2.2.2) (cl_A c0 σ0.2.2.2.1 s.heap.size)) (F0 m 195 ls [.int v2, .int v1, cl_rf c0 v0]) := by
  unfold bc_X2_step_195 at h
  refine lv_iadd C.1 C.2.1 dX2_step_195 ?_
  obtain ⟨a_39, rfl, h_41⟩ := nn_some h
  have t_40 := g0 _ rfl
  refine cp_2_28 C G t_40 dX2_step_196 (fun H locs G_43 => ?_)
  refine cl_nm G_43 h_41 (fun σ_42 G_44 h_45 => ?_)
  refine lv_goto (tgt := 209) C.1 C.2.1 dX2_step_199 (by decide) ?_
  refine lv_iconst (v := (-1:Int32)) C.1 C.2.1 dX2_step_209 (by decide) ?_
  exact cl_iret ⟨rfl, rfl⟩ rfl C G_44 h_45 dX2_step_210
noncomputable def bc_X2_step_100 (a : Nat) (x1 : Int32) (x2 : Int32) (x3 : Int32) (σ : cl_S) : Option (Int32 × cl_S) := bd2 (fc_X2_isMemoryOp x2 σ) (fun r_18 σ_17 => (if r_18 = 0 then (if x2 < (30:Int32) then bc_X2_step_202 a x1 x2 x3 σ_17 else (if (35:Int32) < x2 then bc_X2_step_202 a x1 x2 x3 σ_17 else ix (((x1.toUInt32 >>> ((22:Int32).toUInt32 &&& Int32.toUInt32 31)).toInt32) &&& (15:Int32)) 16 (ix (((x1.toUInt32 >>> ((18:Int32).toUInt32 &&& Int32.toUInt32 31)).toInt32) &&& (15:Int32)) 16 (bd2 (fc_X2_compare x2 (σ_17.1 (a + 2) (((x1.toUInt32 >>> ((22:Int32).toUInt32 &&& Int32.toUInt32 31)).toInt32) &&& (15:Int32)).toNatClampNeg) (σ_17.1 (a + 2) (((x1.toUInt32 >>> ((18:Int32).toUInt32 &&& Int32.toUInt32 31)).toInt32) &&& (15:Int32)).toNatClampNeg) σ_17) (fun r_33 σ_32 => (if r_33 = 0 then bc_X2_step_195 (some a) (σ_32.1 a 3) (4:Int32) σ_32 else bc_X2_step_195 (some a) (σ_32.1 a 3) ((4:Int32) * x3) σ_32)))))) else ix (((x1.toUInt32 >>> ((18:Int32).toUInt32 &&& Int32.toUInt32 31)).toInt32) &&& (15:Int32)) 16 (bd1 (fc_X2_access a x2 (((x1.toUInt32 >>> ((22:Int32).toUInt32 &&& Int32.toUInt32 31)).toInt32) &&& (15:Int32)) ((σ_17.1 (a + 2) (((x1.toUInt32 >>> ((18:Int32).toUInt32 &&& Int32.toUInt32 31)).toInt32) &&& (15:Int32)).toNatClampNeg) + x3) σ_17) (fun σ_48 => some ((-1:Int32), σ_48)))))
set_option maxHeartbeats 4000000 in
theorem wc_X2_step_100 (C : cl_C D p s m args meth c cX2_step 5 (some .int) RX2) {r : Int32} {a : Nat} {x1 : Int32} {x2 : Int32} {x3 : Int32} {σ0 σ σ' : cl_S} {T : Nat → Nat × Nat} {H : Heap} {locs : List Loc} {ls : Array Slot} {cells slots : Nat} (h : bc_X2_step_100 a x1 x2 x3 σ = some (r, σ')) (G : cl_G true D c0 ({ frames := 3, cells := σ0.2.2.2.2.2.1, slots := σ0.2.2.2.2.2.2, locals := 68 }) s σ0.2.2.2.1 T σ H locs cells slots) (ha : (T a).1 = 18) (hl : lv_has ls 5 [(0, .ref (c0 + a)), (1, .int x1), (2, .int x2), (3, .int x3)]) : W p l e ({ frames := 3, cells := σ0.2.2.2.2.2.1, slots := σ0.2.2.2.2.2.2, locals := 68 }) s m args below meth c H locs cells slots (MQ below (cl_Q true D c0 (some (.int r)) cl_no σ0 σ') args s (σ0.2.2.2.2.2.1 - σ'.2.2.2.2.2.1) (σ0.2.2.2.2.2.2 - σ'.2.2.2.2.2.2) (cl_A c0 σ0.2.2.2.1 s.heap.size)) (F0 m 100 ls []) := by
  unfold bc_X2_step_100 at h
  refine lv_iload_n C.1 C.2.1 dX2_step_100 rfl (lv_at hl 2 rfl) ?_
  obtain ⟨r_18, σ_17, hq, h_19⟩ := bd2_some h
  refine cl_callS (rest := []) C G cw_RX2_67 [.int x2] _ (kc_X2_isMemoryOp l D c0 hq) (Nat.le_of_ble_eq_true rfl) (Nat.le_of_ble_eq_true rfl) rfl rfl hl.1 (Nat.le_of_ble_eq_true rfl) dX2_step_101 (fun T_20 H locs cells slots t_21 hu G_22 => ?_)
  have ha := hu.kind ha (by decide)
  refine W.eq (g2 := F0 m 104 ls [.int r_18]) rfl ?_
  refine lv_if_eq (tgt := 136) C.1 C.2.1 dX2_step_104 (by decide) (fun hc => ?_) (fun hc => ?_)
  · rw [if_pos hc] at h_19
    refine lv_iload_n C.1 C.2.1 dX2_step_136 rfl (lv_at hl 2 rfl) ?_
    refine lv_bipush (v := (30:Int32)) C.1 C.2.1 dX2_step_137 (by decide) ?_
    refine lv_icmp_lt (tgt := 202) C.1 C.2.1 dX2_step_139 (by decide) (fun hc => ?_) (fun hc => ?_)
    · rw [if_pos hc] at h_19
      exact wc_X2_step_202 C h_19 G_22 ha (lv_sub hl [0, 1, 2, 3] rfl)
    · rw [if_neg hc] at h_19
      refine lv_iload_n C.1 C.2.1 dX2_step_142 rfl (lv_at hl 2 rfl) ?_
      refine lv_bipush (v := (35:Int32)) C.1 C.2.1 dX2_step_143 (by decide) ?_
      refine lv_icmp_gt (tgt := 202) C.1 C.2.1 dX2_step_145 (by decide) (fun hc => ?_) (fun hc => ?_)
      · rw [if_pos hc] at h_19
        exact wc_X2_step_202 C h_19 G_22 ha (lv_sub hl [0, 1, 2, 3] rfl)
      · rw [if_neg hc] at h_19
        refine lv_iload_n C.1 C.2.1 dX2_step_148 rfl (lv_at hl 2 rfl) ?_
        refine lv_aload_n C.1 C.2.1 dX2_step_149 rfl (lv_at hl 0 rfl) ?_
        refine cg_2_15 C G_22 ha dX2_step_150 (fun t_28 => ?_)
        refine lv_iload_n C.1 C.2.1 dX2_step_153 rfl (lv_at hl 1 rfl) ?_
        refine lv_bipush (v := (22:Int32)) C.1 C.2.1 dX2_step_154 (by decide) ?_
        refine lv_iushr C.1 C.2.1 dX2_step_156 rfl ?_
        refine lv_bipush (v := (15:Int32)) C.1 C.2.1 dX2_step_157 (by decide) ?_
        refine lv_iand C.1 C.2.1 dX2_step_159 ?_
        obtain ⟨hi, h_29⟩ := ix_some h_19
        refine cl_iald C G_22 t_28 hi dX2_step_160 ?_
        refine lv_aload_n C.1 C.2.1 dX2_step_161 rfl (lv_at hl 0 rfl) ?_
        refine cg_2_15 C G_22 ha dX2_step_162 (fun t_30 => ?_)
        refine lv_iload_n C.1 C.2.1 dX2_step_165 rfl (lv_at hl 1 rfl) ?_
        refine lv_bipush (v := (18:Int32)) C.1 C.2.1 dX2_step_166 (by decide) ?_
        refine lv_iushr C.1 C.2.1 dX2_step_168 rfl ?_
        refine lv_bipush (v := (15:Int32)) C.1 C.2.1 dX2_step_169 (by decide) ?_
        refine lv_iand C.1 C.2.1 dX2_step_171 ?_
        obtain ⟨hi, h_31⟩ := ix_some h_29
        refine cl_iald C G_22 t_30 hi dX2_step_172 ?_
        obtain ⟨r_33, σ_32, hq, h_34⟩ := bd2_some h_31
        refine cl_callS (rest := []) C G_22 cw_RX2_74 [.int x2, .int (σ_17.1 (a + 2) (((x1.toUInt32 >>> ((22:Int32).toUInt32 &&& Int32.toUInt32 31)).toInt32) &&& (15:Int32)).toNatClampNeg), .int (σ_17.1 (a + 2) (((x1.toUInt32 >>> ((18:Int32).toUInt32 &&& Int32.toUInt32 31)).toInt32) &&& (15:Int32)).toNatClampNeg)] _ (kc_X2_compare l D c0 hq) (Nat.le_of_ble_eq_true rfl) (Nat.le_of_ble_eq_true rfl) rfl rfl hl.1 (Nat.le_of_ble_eq_true rfl) dX2_step_173 (fun T_35 H locs cells slots t_36 hu G_37 => ?_)
        have ha := hu.kind ha (by decide)
        refine W.eq (g2 := F0 m 176 ls [.int r_33]) rfl ?_
        refine lv_istore (lv' := [(4, .int r_33), (0, .ref (c0 + a)), (1, .int x1), (2, .int x2), (3, .int x3)]) C.1 C.2.1 dX2_step_176 hl (by decide) rfl (fun ls hl_38 => ?_)
        refine lv_aload_n C.1 C.2.1 dX2_step_178 rfl (lv_at hl_38 1 rfl) ?_
        refine lv_dup C.1 C.2.1 dX2_step_179 rfl ?_
        refine cg_2_28 C G_37 ha dX2_step_180 ?_
        refine lv_iload C.1 C.2.1 dX2_step_183 (lv_at hl_38 0 rfl) ?_
        refine lv_if_eq (tgt := 194) C.1 C.2.1 dX2_step_185 (by decide) (fun hc => ?_) (fun hc => ?_)
        · rw [if_pos hc] at h_34
          refine lv_iconst (v := (4:Int32)) C.1 C.2.1 dX2_step_194 (by decide) ?_
          exact wc_X2_step_195 C h_34 G_37 (cl_RTs ha) (lv_sub hl_38 [] rfl)
        · rw [if_neg hc] at h_34
          refine lv_iconst (v := (4:Int32)) C.1 C.2.1 dX2_step_188 (by decide) ?_
          refine lv_iload_n C.1 C.2.1 dX2_step_189 rfl (lv_at hl_38 4 rfl) ?_
          refine lv_imul C.1 C.2.1 dX2_step_190 ?_
          refine lv_goto (tgt := 195) C.1 C.2.1 dX2_step_191 (by decide) ?_
          exact wc_X2_step_195 C h_34 G_37 (cl_RTs ha) (lv_sub hl_38 [] rfl)
  · rw [if_neg hc] at h_19
    refine lv_aload_n C.1 C.2.1 dX2_step_107 rfl (lv_at hl 0 rfl) ?_
    refine lv_iload_n C.1 C.2.1 dX2_step_108 rfl (lv_at hl 2 rfl) ?_
    refine lv_iload_n C.1 C.2.1 dX2_step_109 rfl (lv_at hl 1 rfl) ?_
    refine lv_bipush (v := (22:Int32)) C.1 C.2.1 dX2_step_110 (by decide) ?_
    refine lv_iushr C.1 C.2.1 dX2_step_112 rfl ?_
    refine lv_bipush (v := (15:Int32)) C.1 C.2.1 dX2_step_113 (by decide) ?_
    refine lv_iand C.1 C.2.1 dX2_step_115 ?_
    refine lv_aload_n C.1 C.2.1 dX2_step_116 rfl (lv_at hl 0 rfl) ?_
    refine cg_2_15 C G_22 ha dX2_step_117 (fun t_46 => ?_)
    refine lv_iload_n C.1 C.2.1 dX2_step_120 rfl (lv_at hl 1 rfl) ?_
    refine lv_bipush (v := (18:Int32)) C.1 C.2.1 dX2_step_121 (by decide) ?_
    refine lv_iushr C.1 C.2.1 dX2_step_123 rfl ?_
    refine lv_bipush (v := (15:Int32)) C.1 C.2.1 dX2_step_124 (by decide) ?_
    refine lv_iand C.1 C.2.1 dX2_step_126 ?_
    obtain ⟨hi, h_47⟩ := ix_some h_19
    refine cl_iald C G_22 t_46 hi dX2_step_127 ?_
    refine lv_iload_n C.1 C.2.1 dX2_step_128 rfl (lv_at hl 3 rfl) ?_
    refine lv_iadd C.1 C.2.1 dX2_step_129 ?_
    obtain ⟨σ_48, hq, h_49⟩ := bd1_some h_47
    refine cl_callV (ci := 2) (rest := []) C G_22 rfl ha cw_RX2_71 [.int x2, .int (((x1.toUInt32 >>> ((22:Int32).toUInt32 &&& Int32.toUInt32 31)).toInt32) &&& (15:Int32)), .int ((σ_17.1 (a + 2) (((x1.toUInt32 >>> ((18:Int32).toUInt32 &&& Int32.toUInt32 31)).toInt32) &&& (15:Int32)).toNatClampNeg) + x3)] _ (kc_X2_access l D c0 (by rw [G_22.1]; exact ha) hq) (Nat.le_of_ble_eq_true rfl) (Nat.le_of_ble_eq_true rfl) rfl rfl hl.1 (Nat.le_of_ble_eq_true rfl) dX2_step_130 (fun T_50 H locs cells slots t_51 hu G_52 => ?_)
    have ha := hu.kind ha (by decide)
    refine W.eq (g2 := F0 m 133 ls []) rfl ?_
    refine lv_goto (tgt := 209) C.1 C.2.1 dX2_step_133 (by decide) ?_
    refine lv_iconst (v := (-1:Int32)) C.1 C.2.1 dX2_step_209 (by decide) ?_
    exact cl_iret ⟨rfl, rfl⟩ rfl C G_52 h_49 dX2_step_210
noncomputable def bc_X2_step_79 (a : Nat) (x1 : Int32) (x2 : Int32) (x3 : Int32) (σ : cl_S) : Option (Int32 × cl_S) := (if x2 < (1:Int32) then bc_X2_step_100 a x1 x2 x3 σ else (if (21:Int32) < x2 then bc_X2_step_100 a x1 x2 x3 σ else bd1 (fc_X2_reckon a x1 x2 x3 σ) (fun σ_53 => some ((-1:Int32), σ_53))))
set_option maxHeartbeats 4000000 in
theorem wc_X2_step_79 (C : cl_C D p s m args meth c cX2_step 5 (some .int) RX2) {r : Int32} {a : Nat} {x1 : Int32} {x2 : Int32} {x3 : Int32} {σ0 σ σ' : cl_S} {T : Nat → Nat × Nat} {H : Heap} {locs : List Loc} {ls : Array Slot} {cells slots : Nat} (h : bc_X2_step_79 a x1 x2 x3 σ = some (r, σ')) (G : cl_G true D c0 ({ frames := 3, cells := σ0.2.2.2.2.2.1, slots := σ0.2.2.2.2.2.2, locals := 68 }) s σ0.2.2.2.1 T σ H locs cells slots) (ha : (T a).1 = 18) (hl : lv_has ls 5 [(0, .ref (c0 + a)), (1, .int x1), (2, .int x2), (3, .int x3)]) : W p l e ({ frames := 3, cells := σ0.2.2.2.2.2.1, slots := σ0.2.2.2.2.2.2, locals := 68 }) s m args below meth c H locs cells slots (MQ below (cl_Q true D c0 (some (.int r)) cl_no σ0 σ') args s (σ0.2.2.2.2.2.1 - σ'.2.2.2.2.2.1) (σ0.2.2.2.2.2.2 - σ'.2.2.2.2.2.2) (cl_A c0 σ0.2.2.2.1 s.heap.size)) (F0 m 79 ls []) := by
  unfold bc_X2_step_79 at h
  refine lv_iload_n C.1 C.2.1 dX2_step_79 rfl (lv_at hl 2 rfl) ?_
  refine lv_iconst (v := (1:Int32)) C.1 C.2.1 dX2_step_80 (by decide) ?_
  refine lv_icmp_lt (tgt := 100) C.1 C.2.1 dX2_step_81 (by decide) (fun hc => ?_) (fun hc => ?_)
  · rw [if_pos hc] at h
    exact wc_X2_step_100 C h G ha (lv_sub hl [0, 1, 2, 3] rfl)
  · rw [if_neg hc] at h
    refine lv_iload_n C.1 C.2.1 dX2_step_84 rfl (lv_at hl 2 rfl) ?_
    refine lv_bipush (v := (21:Int32)) C.1 C.2.1 dX2_step_85 (by decide) ?_
    refine lv_icmp_gt (tgt := 100) C.1 C.2.1 dX2_step_87 (by decide) (fun hc => ?_) (fun hc => ?_)
    · rw [if_pos hc] at h
      exact wc_X2_step_100 C h G ha (lv_sub hl [0, 1, 2, 3] rfl)
    · rw [if_neg hc] at h
      refine lv_aload_n C.1 C.2.1 dX2_step_90 rfl (lv_at hl 0 rfl) ?_
      refine lv_iload_n C.1 C.2.1 dX2_step_91 rfl (lv_at hl 1 rfl) ?_
      refine lv_iload_n C.1 C.2.1 dX2_step_92 rfl (lv_at hl 2 rfl) ?_
      refine lv_iload_n C.1 C.2.1 dX2_step_93 rfl (lv_at hl 3 rfl) ?_
      obtain ⟨σ_53, hq, h_54⟩ := bd1_some h
      refine cl_callV (ci := 2) (rest := []) C G rfl ha cw_RX2_63 [.int x1, .int x2, .int x3] _ (kc_X2_reckon l D c0 (by rw [G.1]; exact ha) hq) (Nat.le_of_ble_eq_true rfl) (Nat.le_of_ble_eq_true rfl) rfl rfl hl.1 (Nat.le_of_ble_eq_true rfl) dX2_step_94 (fun T_55 H locs cells slots t_56 hu G_57 => ?_)
      have ha := hu.kind ha (by decide)
      refine W.eq (g2 := F0 m 97 ls []) rfl ?_
      refine lv_goto (tgt := 209) C.1 C.2.1 dX2_step_97 (by decide) ?_
      refine lv_iconst (v := (-1:Int32)) C.1 C.2.1 dX2_step_209 (by decide) ?_
      exact cl_iret ⟨rfl, rfl⟩ rfl C G_57 h_54 dX2_step_210
noncomputable def bc_X2_step_0 (a : Nat) (σ : cl_S) : Option (Int32 × cl_S) := (if (σ.1 a 3) < 0 then bc_X2_step_29 a σ else (if ((4:Int32) * (σ.1 a 2)) ≤ (σ.1 a 3) then bc_X2_step_29 a σ else (if ((σ.1 a 3) &&& (3:Int32)) = 0 then ix ((σ.1 a 3) >>> ((2:Int32) &&& 31)) 2048 (vl (σ.1 (a + 1) ((σ.1 a 3) >>> ((2:Int32) &&& 31)).toNatClampNeg) (fun x1_8 => vl ((x1_8.toUInt32 >>> ((26:Int32).toUInt32 &&& Int32.toUInt32 31)).toInt32) (fun x2_11 => vl ((x1_8 <<< ((14:Int32) &&& 31)) >>> ((14:Int32) &&& 31)) (fun x3_14 => (if x2_11 = (38:Int32) then (if x3_14 < 0 then bc_X2_step_79 a x1_8 x2_11 x3_14 σ else (if (34:Int32) < x3_14 then bc_X2_step_79 a x1_8 x2_11 x3_14 σ else some (x3_14, σ))) else bc_X2_step_79 a x1_8 x2_11 x3_14 σ))))) else bc_X2_step_29 a σ)))
set_option maxHeartbeats 4000000 in
theorem wc_X2_step_0 (C : cl_C D p s m args meth c cX2_step 5 (some .int) RX2) {r : Int32} {a : Nat} {σ0 σ σ' : cl_S} {T : Nat → Nat × Nat} {H : Heap} {locs : List Loc} {ls : Array Slot} {cells slots : Nat} (h : bc_X2_step_0 a σ = some (r, σ')) (G : cl_G true D c0 ({ frames := 3, cells := σ0.2.2.2.2.2.1, slots := σ0.2.2.2.2.2.2, locals := 68 }) s σ0.2.2.2.1 T σ H locs cells slots) (ha : (T a).1 = 18) (hl : lv_has ls 5 [(0, .ref (c0 + a))]) : W p l e ({ frames := 3, cells := σ0.2.2.2.2.2.1, slots := σ0.2.2.2.2.2.2, locals := 68 }) s m args below meth c H locs cells slots (MQ below (cl_Q true D c0 (some (.int r)) cl_no σ0 σ') args s (σ0.2.2.2.2.2.1 - σ'.2.2.2.2.2.1) (σ0.2.2.2.2.2.2 - σ'.2.2.2.2.2.2) (cl_A c0 σ0.2.2.2.1 s.heap.size)) (F0 m 0 ls []) := by
  unfold bc_X2_step_0 at h
  refine lv_aload_n C.1 C.2.1 dX2_step_0 rfl (lv_at hl 0 rfl) ?_
  refine cg_2_28 C G ha dX2_step_1 ?_
  refine lv_if_lt (tgt := 29) C.1 C.2.1 dX2_step_4 (by decide) (fun hc => ?_) (fun hc => ?_)
  · rw [if_pos hc] at h
    exact wc_X2_step_29 C h G ha (lv_sub hl [0] rfl)
  · rw [if_neg hc] at h
    refine lv_aload_n C.1 C.2.1 dX2_step_7 rfl (lv_at hl 0 rfl) ?_
    refine cg_2_28 C G ha dX2_step_8 ?_
    refine lv_iconst (v := (4:Int32)) C.1 C.2.1 dX2_step_11 (by decide) ?_
    refine lv_aload_n C.1 C.2.1 dX2_step_12 rfl (lv_at hl 0 rfl) ?_
    refine cg_2_18 C G ha dX2_step_13 ?_
    refine lv_imul C.1 C.2.1 dX2_step_16 ?_
    refine lv_icmp_ge (tgt := 29) C.1 C.2.1 dX2_step_17 (by decide) (fun hc => ?_) (fun hc => ?_)
    · rw [if_pos hc] at h
      exact wc_X2_step_29 C h G ha (lv_sub hl [0] rfl)
    · rw [if_neg hc] at h
      refine lv_aload_n C.1 C.2.1 dX2_step_20 rfl (lv_at hl 0 rfl) ?_
      refine cg_2_28 C G ha dX2_step_21 ?_
      refine lv_iconst (v := (3:Int32)) C.1 C.2.1 dX2_step_24 (by decide) ?_
      refine lv_iand C.1 C.2.1 dX2_step_25 ?_
      refine lv_if_eq (tgt := 36) C.1 C.2.1 dX2_step_26 (by decide) (fun hc => ?_) (fun hc => ?_)
      · rw [if_pos hc] at h
        refine lv_aload_n C.1 C.2.1 dX2_step_36 rfl (lv_at hl 0 rfl) ?_
        refine cg_2_9 C G ha dX2_step_37 (fun t_6 => ?_)
        refine lv_aload_n C.1 C.2.1 dX2_step_40 rfl (lv_at hl 0 rfl) ?_
        refine cg_2_28 C G ha dX2_step_41 ?_
        refine lv_iconst (v := (2:Int32)) C.1 C.2.1 dX2_step_44 (by decide) ?_
        refine lv_ishr C.1 C.2.1 dX2_step_45 ?_
        obtain ⟨hi, h_7⟩ := ix_some h
        refine cl_iald C G t_6 hi dX2_step_46 ?_
        refine vt_i h_7 (fun x1_8 h_9 => ?_)
        refine lv_istore_n (lv' := [(1, .int x1_8), (0, .ref (c0 + a))]) C.1 C.2.1 dX2_step_47 rfl hl (by decide) rfl (fun ls hl_10 => ?_)
        refine lv_iload_n C.1 C.2.1 dX2_step_48 rfl (lv_at hl_10 0 rfl) ?_
        refine lv_bipush (v := (26:Int32)) C.1 C.2.1 dX2_step_49 (by decide) ?_
        refine lv_iushr C.1 C.2.1 dX2_step_51 rfl ?_
        refine vt_i h_9 (fun x2_11 h_12 => ?_)
        refine lv_istore_n (lv' := [(2, .int x2_11), (1, .int x1_8), (0, .ref (c0 + a))]) C.1 C.2.1 dX2_step_52 rfl hl_10 (by decide) rfl (fun ls hl_13 => ?_)
        refine lv_iload_n C.1 C.2.1 dX2_step_53 rfl (lv_at hl_13 1 rfl) ?_
        refine lv_bipush (v := (14:Int32)) C.1 C.2.1 dX2_step_54 (by decide) ?_
        refine lv_ishl C.1 C.2.1 dX2_step_56 ?_
        refine lv_bipush (v := (14:Int32)) C.1 C.2.1 dX2_step_57 (by decide) ?_
        refine lv_ishr C.1 C.2.1 dX2_step_59 ?_
        refine vt_i h_12 (fun x3_14 h_15 => ?_)
        refine lv_istore_n (lv' := [(3, .int x3_14), (2, .int x2_11), (1, .int x1_8), (0, .ref (c0 + a))]) C.1 C.2.1 dX2_step_60 rfl hl_13 (by decide) rfl (fun ls hl_16 => ?_)
        refine lv_iload_n C.1 C.2.1 dX2_step_61 rfl (lv_at hl_16 1 rfl) ?_
        refine lv_bipush (v := (38:Int32)) C.1 C.2.1 dX2_step_62 (by decide) ?_
        refine lv_icmp_ne (tgt := 79) C.1 C.2.1 dX2_step_64 (by decide) (fun hc => ?_) (fun hc => ?_)
        · rw [if_neg hc] at h_15
          exact wc_X2_step_79 C h_15 G ha (lv_sub hl_16 [3, 2, 1, 0] rfl)
        · rw [if_pos hc] at h_15
          refine lv_iload_n C.1 C.2.1 dX2_step_67 rfl (lv_at hl_16 0 rfl) ?_
          refine lv_if_lt (tgt := 79) C.1 C.2.1 dX2_step_68 (by decide) (fun hc => ?_) (fun hc => ?_)
          · rw [if_pos hc] at h_15
            exact wc_X2_step_79 C h_15 G ha (lv_sub hl_16 [3, 2, 1, 0] rfl)
          · rw [if_neg hc] at h_15
            refine lv_iload_n C.1 C.2.1 dX2_step_71 rfl (lv_at hl_16 0 rfl) ?_
            refine lv_bipush (v := (34:Int32)) C.1 C.2.1 dX2_step_72 (by decide) ?_
            refine lv_icmp_gt (tgt := 79) C.1 C.2.1 dX2_step_74 (by decide) (fun hc => ?_) (fun hc => ?_)
            · rw [if_pos hc] at h_15
              exact wc_X2_step_79 C h_15 G ha (lv_sub hl_16 [3, 2, 1, 0] rfl)
            · rw [if_neg hc] at h_15
              refine lv_iload_n C.1 C.2.1 dX2_step_77 rfl (lv_at hl_16 0 rfl) ?_
              exact cl_iret ⟨rfl, rfl⟩ rfl C G h_15 dX2_step_78
      · rw [if_neg hc] at h
        exact wc_X2_step_29 C h G ha (lv_sub hl [0] rfl)
noncomputable def fc_X2_step (a : Nat) (σ : cl_S) : Option (Int32 × cl_S) := bc_X2_step_0 a σ
theorem kc_X2_step (l : Launch) (D : cl_D) (c0 : Nat) {r : Int32} {a : Nat} {σ σ' : cl_S} (ha : (σ.2.2.2.1 a).1 = 18) (h : fc_X2_step a σ = some (r, σ')) : cl_Met true l D c0 yX2_step cX2_step 5 (some .int) 3 68 [.ref (c0 + a)] σ (some (.int r)) cl_no σ' :=
  cl_of (by decide) (Nat.le_of_ble_eq_true rfl) (fun p e s m args below meth c ls C hn G hl => wc_X2_step_0 C h G ha hl)
abbrev cX2_setHandler : ByteArray := prog_4_method_17_code
def yX2_setHandler : MethodName := ⟨RX2, "setHandler", "(I)I"⟩
theorem dX2_setHandler_0 : decode cX2_setHandler 0 = .ok (.iload_n 1, 1) := by decide +kernel
theorem dX2_setHandler_1 : decode cX2_setHandler 1 = .ok (.ifCond .lt 21, 3) := by decide +kernel
theorem dX2_setHandler_4 : decode cX2_setHandler 4 = .ok (.iload_n 1, 1) := by decide +kernel
theorem dX2_setHandler_5 : decode cX2_setHandler 5 = .ok (.iconst 4, 1) := by decide +kernel
theorem dX2_setHandler_6 : decode cX2_setHandler 6 = .ok (.aload_n 0, 1) := by decide +kernel
theorem dX2_setHandler_7 : decode cX2_setHandler 7 = .ok (.getfield 18, 3) := by decide +kernel
theorem dX2_setHandler_10 : decode cX2_setHandler 10 = .ok (.imul, 1) := by decide +kernel
theorem dX2_setHandler_11 : decode cX2_setHandler 11 = .ok (.iconst 4, 1) := by decide +kernel
theorem dX2_setHandler_12 : decode cX2_setHandler 12 = .ok (.isub, 1) := by decide +kernel
theorem dX2_setHandler_13 : decode cX2_setHandler 13 = .ok (.if_icmp .gt 9, 3) := by decide +kernel
theorem dX2_setHandler_16 : decode cX2_setHandler 16 = .ok (.iload_n 1, 1) := by decide +kernel
theorem dX2_setHandler_17 : decode cX2_setHandler 17 = .ok (.iconst 3, 1) := by decide +kernel
theorem dX2_setHandler_18 : decode cX2_setHandler 18 = .ok (.iand, 1) := by decide +kernel
theorem dX2_setHandler_19 : decode cX2_setHandler 19 = .ok (.ifCond .eq 6, 3) := by decide +kernel
theorem dX2_setHandler_22 : decode cX2_setHandler 22 = .ok (.bipush (-2), 2) := by decide +kernel
theorem dX2_setHandler_24 : decode cX2_setHandler 24 = .ok (.ireturn, 1) := by decide +kernel
theorem dX2_setHandler_25 : decode cX2_setHandler 25 = .ok (.aload_n 0, 1) := by decide +kernel
theorem dX2_setHandler_26 : decode cX2_setHandler 26 = .ok (.iload_n 1, 1) := by decide +kernel
theorem dX2_setHandler_27 : decode cX2_setHandler 27 = .ok (.putfield 31, 3) := by decide +kernel
theorem dX2_setHandler_30 : decode cX2_setHandler 30 = .ok (.iconst 0, 1) := by decide +kernel
theorem dX2_setHandler_31 : decode cX2_setHandler 31 = .ok (.ireturn, 1) := by decide +kernel
theorem cc_X2_setHandler : Cond.code yX2_setHandler cX2_setHandler 2 (some .int) ∈ rf_tb := rf_at 1174 (by decide +kernel) (by decide +kernel)
noncomputable def bc_X2_setHandler_0 (a : Nat) (x1 : Int32) (σ : cl_S) : Option (Int32 × cl_S) := (if x1 < 0 then some ((-2:Int32), σ) else (if (((4:Int32) * (σ.1 a 2)) - (4:Int32)) < x1 then some ((-2:Int32), σ) else (if (x1 &&& (3:Int32)) = 0 then vl (cl_w σ a 4 x1) (fun σ_1 => some ((0:Int32), σ_1)) else some ((-2:Int32), σ))))
set_option maxHeartbeats 4000000 in
theorem wc_X2_setHandler_0 (C : cl_C D p s m args meth c cX2_setHandler 2 (some .int) RX2) {r : Int32} {a : Nat} {x1 : Int32} {σ0 σ σ' : cl_S} {T : Nat → Nat × Nat} {H : Heap} {locs : List Loc} {ls : Array Slot} {cells slots : Nat} (h : bc_X2_setHandler_0 a x1 σ = some (r, σ')) (G : cl_G true D c0 ({ frames := 0, cells := σ0.2.2.2.2.2.1, slots := σ0.2.2.2.2.2.2, locals := 0 }) s σ0.2.2.2.1 T σ H locs cells slots) (ha : (T a).1 = 18) (hl : lv_has ls 2 [(0, .ref (c0 + a)), (1, .int x1)]) : W p l e ({ frames := 0, cells := σ0.2.2.2.2.2.1, slots := σ0.2.2.2.2.2.2, locals := 0 }) s m args below meth c H locs cells slots (MQ below (cl_Q true D c0 (some (.int r)) cl_no σ0 σ') args s (σ0.2.2.2.2.2.1 - σ'.2.2.2.2.2.1) (σ0.2.2.2.2.2.2 - σ'.2.2.2.2.2.2) (cl_A c0 σ0.2.2.2.1 s.heap.size)) (F0 m 0 ls []) := by
  unfold bc_X2_setHandler_0 at h
  refine lv_iload_n C.1 C.2.1 dX2_setHandler_0 rfl (lv_at hl 1 rfl) ?_
  refine lv_if_lt (tgt := 22) C.1 C.2.1 dX2_setHandler_1 (by decide) (fun hc => ?_) (fun hc => ?_)
  · rw [if_pos hc] at h
    refine lv_bipush (v := (-2:Int32)) C.1 C.2.1 dX2_setHandler_22 (by decide) ?_
    exact cl_iret ⟨rfl, rfl⟩ rfl C G h dX2_setHandler_24
  · rw [if_neg hc] at h
    refine lv_iload_n C.1 C.2.1 dX2_setHandler_4 rfl (lv_at hl 1 rfl) ?_
    refine lv_iconst (v := (4:Int32)) C.1 C.2.1 dX2_setHandler_5 (by decide) ?_
    refine lv_aload_n C.1 C.2.1 dX2_setHandler_6 rfl (lv_at hl 0 rfl) ?_
    refine cg_2_18 C G ha dX2_setHandler_7 ?_
    refine lv_imul C.1 C.2.1 dX2_setHandler_10 ?_
    refine lv_iconst (v := (4:Int32)) C.1 C.2.1 dX2_setHandler_11 (by decide) ?_
    refine lv_isub C.1 C.2.1 dX2_setHandler_12 ?_
    refine lv_icmp_gt (tgt := 22) C.1 C.2.1 dX2_setHandler_13 (by decide) (fun hc => ?_) (fun hc => ?_)
    · rw [if_pos hc] at h
      refine lv_bipush (v := (-2:Int32)) C.1 C.2.1 dX2_setHandler_22 (by decide) ?_
      exact cl_iret ⟨rfl, rfl⟩ rfl C G h dX2_setHandler_24
    · rw [if_neg hc] at h
      refine lv_iload_n C.1 C.2.1 dX2_setHandler_16 rfl (lv_at hl 1 rfl) ?_
      refine lv_iconst (v := (3:Int32)) C.1 C.2.1 dX2_setHandler_17 (by decide) ?_
      refine lv_iand C.1 C.2.1 dX2_setHandler_18 ?_
      refine lv_if_eq (tgt := 25) C.1 C.2.1 dX2_setHandler_19 (by decide) (fun hc => ?_) (fun hc => ?_)
      · rw [if_pos hc] at h
        refine lv_aload_n C.1 C.2.1 dX2_setHandler_25 rfl (lv_at hl 0 rfl) ?_
        refine lv_iload_n C.1 C.2.1 dX2_setHandler_26 rfl (lv_at hl 1 rfl) ?_
        refine cp_2_31 C G ha dX2_setHandler_27 (fun H locs G_2 => ?_)
        refine cl_nm G_2 h (fun σ_1 G_3 h_4 => ?_)
        refine lv_iconst (v := (0:Int32)) C.1 C.2.1 dX2_setHandler_30 (by decide) ?_
        exact cl_iret ⟨rfl, rfl⟩ rfl C G_3 h_4 dX2_setHandler_31
      · rw [if_neg hc] at h
        refine lv_bipush (v := (-2:Int32)) C.1 C.2.1 dX2_setHandler_22 (by decide) ?_
        exact cl_iret ⟨rfl, rfl⟩ rfl C G h dX2_setHandler_24
noncomputable def fc_X2_setHandler (a : Nat) (x1 : Int32) (σ : cl_S) : Option (Int32 × cl_S) := bc_X2_setHandler_0 a x1 σ
theorem kc_X2_setHandler (l : Launch) (D : cl_D) (c0 : Nat) {r : Int32} {a : Nat} {x1 : Int32} {σ σ' : cl_S} (ha : (σ.2.2.2.1 a).1 = 18) (h : fc_X2_setHandler a x1 σ = some (r, σ')) : cl_Met true l D c0 yX2_setHandler cX2_setHandler 2 (some .int) 0 0 [.ref (c0 + a), .int x1] σ (some (.int r)) cl_no σ' :=
  cl_of (by decide) (Nat.le_of_ble_eq_true rfl) (fun p e s m args below meth c ls C hn G hl => wc_X2_setHandler_0 C h G ha hl)
abbrev cX2_holds : ByteArray := prog_4_method_18_code
def yX2_holds : MethodName := ⟨RX2, "holds", "(II)Z"⟩
theorem dX2_holds_0 : decode cX2_holds 0 = .ok (.iload_n 1, 1) := by decide +kernel
theorem dX2_holds_1 : decode cX2_holds 1 = .ok (.iconst 3, 1) := by decide +kernel
theorem dX2_holds_2 : decode cX2_holds 2 = .ok (.iand, 1) := by decide +kernel
theorem dX2_holds_3 : decode cX2_holds 3 = .ok (.ifCond .ne 23, 3) := by decide +kernel
theorem dX2_holds_6 : decode cX2_holds 6 = .ok (.iload_n 1, 1) := by decide +kernel
theorem dX2_holds_7 : decode cX2_holds 7 = .ok (.ifCond .lt 19, 3) := by decide +kernel
theorem dX2_holds_10 : decode cX2_holds 10 = .ok (.iload_n 1, 1) := by decide +kernel
theorem dX2_holds_11 : decode cX2_holds 11 = .ok (.iconst 4, 1) := by decide +kernel
theorem dX2_holds_12 : decode cX2_holds 12 = .ok (.aload_n 0, 1) := by decide +kernel
theorem dX2_holds_13 : decode cX2_holds 13 = .ok (.getfield 18, 3) := by decide +kernel
theorem dX2_holds_16 : decode cX2_holds 16 = .ok (.iload_n 2, 1) := by decide +kernel
theorem dX2_holds_17 : decode cX2_holds 17 = .ok (.isub, 1) := by decide +kernel
theorem dX2_holds_18 : decode cX2_holds 18 = .ok (.imul, 1) := by decide +kernel
theorem dX2_holds_19 : decode cX2_holds 19 = .ok (.if_icmp .gt 7, 3) := by decide +kernel
theorem dX2_holds_22 : decode cX2_holds 22 = .ok (.iconst 1, 1) := by decide +kernel
theorem dX2_holds_23 : decode cX2_holds 23 = .ok (.goto 4, 3) := by decide +kernel
theorem dX2_holds_26 : decode cX2_holds 26 = .ok (.iconst 0, 1) := by decide +kernel
theorem dX2_holds_27 : decode cX2_holds 27 = .ok (.ireturn, 1) := by decide +kernel
theorem cc_X2_holds : Cond.code yX2_holds cX2_holds 3 (some .boolean) ∈ rf_tb := rf_at 1194 (by decide +kernel) (by decide +kernel)
noncomputable def bc_X2_holds_0 (a : Nat) (x1 : Int32) (x2 : Int32) (σ : cl_S) : Option (Int32 × cl_S) := (if (x1 &&& (3:Int32)) = 0 then (if x1 < 0 then some ((0:Int32), σ) else (if ((4:Int32) * ((σ.1 a 2) - x2)) < x1 then some ((0:Int32), σ) else some ((1:Int32), σ))) else some ((0:Int32), σ))
set_option maxHeartbeats 4000000 in
theorem wc_X2_holds_0 (C : cl_C D p s m args meth c cX2_holds 3 (some .boolean) RX2) {r : Int32} {a : Nat} {x1 : Int32} {x2 : Int32} {σ0 σ σ' : cl_S} {T : Nat → Nat × Nat} {H : Heap} {locs : List Loc} {ls : Array Slot} {cells slots : Nat} (h : bc_X2_holds_0 a x1 x2 σ = some (r, σ')) (G : cl_G true D c0 ({ frames := 0, cells := σ0.2.2.2.2.2.1, slots := σ0.2.2.2.2.2.2, locals := 0 }) s σ0.2.2.2.1 T σ H locs cells slots) (ha : (T a).1 = 18) (hl : lv_has ls 3 [(0, .ref (c0 + a)), (1, .int x1), (2, .int x2)]) : W p l e ({ frames := 0, cells := σ0.2.2.2.2.2.1, slots := σ0.2.2.2.2.2.2, locals := 0 }) s m args below meth c H locs cells slots (MQ below (cl_Q true D c0 (some (.int r)) cl_no σ0 σ') args s (σ0.2.2.2.2.2.1 - σ'.2.2.2.2.2.1) (σ0.2.2.2.2.2.2 - σ'.2.2.2.2.2.2) (cl_A c0 σ0.2.2.2.1 s.heap.size)) (F0 m 0 ls []) := by
  unfold bc_X2_holds_0 at h
  refine lv_iload_n C.1 C.2.1 dX2_holds_0 rfl (lv_at hl 1 rfl) ?_
  refine lv_iconst (v := (3:Int32)) C.1 C.2.1 dX2_holds_1 (by decide) ?_
  refine lv_iand C.1 C.2.1 dX2_holds_2 ?_
  refine lv_if_ne (tgt := 26) C.1 C.2.1 dX2_holds_3 (by decide) (fun hc => ?_) (fun hc => ?_)
  · rw [if_neg hc] at h
    refine lv_iconst (v := (0:Int32)) C.1 C.2.1 dX2_holds_26 (by decide) ?_
    exact cl_zret ⟨rfl, rfl⟩ rfl C G h rfl dX2_holds_27
  · rw [if_pos hc] at h
    refine lv_iload_n C.1 C.2.1 dX2_holds_6 rfl (lv_at hl 1 rfl) ?_
    refine lv_if_lt (tgt := 26) C.1 C.2.1 dX2_holds_7 (by decide) (fun hc => ?_) (fun hc => ?_)
    · rw [if_pos hc] at h
      refine lv_iconst (v := (0:Int32)) C.1 C.2.1 dX2_holds_26 (by decide) ?_
      exact cl_zret ⟨rfl, rfl⟩ rfl C G h rfl dX2_holds_27
    · rw [if_neg hc] at h
      refine lv_iload_n C.1 C.2.1 dX2_holds_10 rfl (lv_at hl 1 rfl) ?_
      refine lv_iconst (v := (4:Int32)) C.1 C.2.1 dX2_holds_11 (by decide) ?_
      refine lv_aload_n C.1 C.2.1 dX2_holds_12 rfl (lv_at hl 0 rfl) ?_
      refine cg_2_18 C G ha dX2_holds_13 ?_
      refine lv_iload_n C.1 C.2.1 dX2_holds_16 rfl (lv_at hl 2 rfl) ?_
      refine lv_isub C.1 C.2.1 dX2_holds_17 ?_
      refine lv_imul C.1 C.2.1 dX2_holds_18 ?_
      refine lv_icmp_gt (tgt := 26) C.1 C.2.1 dX2_holds_19 (by decide) (fun hc => ?_) (fun hc => ?_)
      · rw [if_pos hc] at h
        refine lv_iconst (v := (0:Int32)) C.1 C.2.1 dX2_holds_26 (by decide) ?_
        exact cl_zret ⟨rfl, rfl⟩ rfl C G h rfl dX2_holds_27
      · rw [if_neg hc] at h
        refine lv_iconst (v := (1:Int32)) C.1 C.2.1 dX2_holds_22 (by decide) ?_
        refine lv_goto (tgt := 27) C.1 C.2.1 dX2_holds_23 (by decide) ?_
        exact cl_zret ⟨rfl, rfl⟩ rfl C G h rfl dX2_holds_27
noncomputable def fc_X2_holds (a : Nat) (x1 : Int32) (x2 : Int32) (σ : cl_S) : Option (Int32 × cl_S) := bc_X2_holds_0 a x1 x2 σ
theorem kc_X2_holds (l : Launch) (D : cl_D) (c0 : Nat) {r : Int32} {a : Nat} {x1 : Int32} {x2 : Int32} {σ σ' : cl_S} (ha : (σ.2.2.2.1 a).1 = 18) (h : fc_X2_holds a x1 x2 σ = some (r, σ')) : cl_Met true l D c0 yX2_holds cX2_holds 3 (some .boolean) 0 0 [.ref (c0 + a), .int x1, .int x2] σ (some (.int r)) cl_no σ' :=
  cl_of (by decide) (Nat.le_of_ble_eq_true rfl) (fun p e s m args below meth c ls C hn G hl => wc_X2_holds_0 C h G ha hl)
end CQ5
