section CQ2
variable {p : Program} {l : Launch} {e : Env} {s : State} {m : MethodId} {args : Array Value} {below : List Frame} {meth : Method} {c : Code} {D : cl_D} {c0 : Nat}
abbrev cX0_registerOf : ByteArray := prog_2_method_22_code
def yX0_registerOf : MethodName := ⟨RX0, "registerOf", "(J)I"⟩
theorem dX0_registerOf_0 : decode cX0_registerOf 0 = .ok (.lload_n 0, 1) := by decide +kernel
theorem dX0_registerOf_1 : decode cX0_registerOf 1 = .ok (.ldc2_w 166, 3) := by decide +kernel
theorem dX0_registerOf_4 : decode cX0_registerOf 4 = .ok (.land, 1) := by decide +kernel
theorem dX0_registerOf_5 : decode cX0_registerOf 5 = .ok (.l2i, 1) := by decide +kernel
theorem dX0_registerOf_6 : decode cX0_registerOf 6 = .ok (.bipush 48, 2) := by decide +kernel
theorem dX0_registerOf_8 : decode cX0_registerOf 8 = .ok (.isub, 1) := by decide +kernel
theorem dX0_registerOf_9 : decode cX0_registerOf 9 = .ok (.istore_n 2, 1) := by decide +kernel
theorem dX0_registerOf_10 : decode cX0_registerOf 10 = .ok (.lload_n 0, 1) := by decide +kernel
theorem dX0_registerOf_11 : decode cX0_registerOf 11 = .ok (.bipush 8, 2) := by decide +kernel
theorem dX0_registerOf_13 : decode cX0_registerOf 13 = .ok (.lushr, 1) := by decide +kernel
theorem dX0_registerOf_14 : decode cX0_registerOf 14 = .ok (.ldc2_w 168, 3) := by decide +kernel
theorem dX0_registerOf_17 : decode cX0_registerOf 17 = .ok (.lcmp, 1) := by decide +kernel
theorem dX0_registerOf_18 : decode cX0_registerOf 18 = .ok (.ifCond .ne 15, 3) := by decide +kernel
theorem dX0_registerOf_21 : decode cX0_registerOf 21 = .ok (.iload_n 2, 1) := by decide +kernel
theorem dX0_registerOf_22 : decode cX0_registerOf 22 = .ok (.ifCond .lt 11, 3) := by decide +kernel
theorem dX0_registerOf_25 : decode cX0_registerOf 25 = .ok (.iload_n 2, 1) := by decide +kernel
theorem dX0_registerOf_26 : decode cX0_registerOf 26 = .ok (.bipush 9, 2) := by decide +kernel
theorem dX0_registerOf_28 : decode cX0_registerOf 28 = .ok (.if_icmp .gt 5, 3) := by decide +kernel
theorem dX0_registerOf_31 : decode cX0_registerOf 31 = .ok (.iload_n 2, 1) := by decide +kernel
theorem dX0_registerOf_32 : decode cX0_registerOf 32 = .ok (.ireturn, 1) := by decide +kernel
theorem dX0_registerOf_33 : decode cX0_registerOf 33 = .ok (.lload_n 0, 1) := by decide +kernel
theorem dX0_registerOf_34 : decode cX0_registerOf 34 = .ok (.bipush 16, 2) := by decide +kernel
theorem dX0_registerOf_36 : decode cX0_registerOf 36 = .ok (.lushr, 1) := by decide +kernel
theorem dX0_registerOf_37 : decode cX0_registerOf 37 = .ok (.ldc2_w 168, 3) := by decide +kernel
theorem dX0_registerOf_40 : decode cX0_registerOf 40 = .ok (.lcmp, 1) := by decide +kernel
theorem dX0_registerOf_41 : decode cX0_registerOf 41 = .ok (.ifCond .ne 22, 3) := by decide +kernel
theorem dX0_registerOf_44 : decode cX0_registerOf 44 = .ok (.lload_n 0, 1) := by decide +kernel
theorem dX0_registerOf_45 : decode cX0_registerOf 45 = .ok (.bipush 8, 2) := by decide +kernel
theorem dX0_registerOf_47 : decode cX0_registerOf 47 = .ok (.lushr, 1) := by decide +kernel
theorem dX0_registerOf_48 : decode cX0_registerOf 48 = .ok (.ldc2_w 166, 3) := by decide +kernel
theorem dX0_registerOf_51 : decode cX0_registerOf 51 = .ok (.land, 1) := by decide +kernel
theorem dX0_registerOf_52 : decode cX0_registerOf 52 = .ok (.ldc2_w 170, 3) := by decide +kernel
theorem dX0_registerOf_55 : decode cX0_registerOf 55 = .ok (.lcmp, 1) := by decide +kernel
theorem dX0_registerOf_56 : decode cX0_registerOf 56 = .ok (.ifCond .ne 7, 3) := by decide +kernel
theorem dX0_registerOf_59 : decode cX0_registerOf 59 = .ok (.iconst 1, 1) := by decide +kernel
theorem dX0_registerOf_60 : decode cX0_registerOf 60 = .ok (.goto 4, 3) := by decide +kernel
theorem dX0_registerOf_63 : decode cX0_registerOf 63 = .ok (.iconst 0, 1) := by decide +kernel
theorem dX0_registerOf_64 : decode cX0_registerOf 64 = .ok (.istore_n 3, 1) := by decide +kernel
theorem dX0_registerOf_65 : decode cX0_registerOf 65 = .ok (.iload_n 3, 1) := by decide +kernel
theorem dX0_registerOf_66 : decode cX0_registerOf 66 = .ok (.ifCond .eq 19, 3) := by decide +kernel
theorem dX0_registerOf_69 : decode cX0_registerOf 69 = .ok (.iload_n 2, 1) := by decide +kernel
theorem dX0_registerOf_70 : decode cX0_registerOf 70 = .ok (.ifCond .lt 15, 3) := by decide +kernel
theorem dX0_registerOf_73 : decode cX0_registerOf 73 = .ok (.iload_n 2, 1) := by decide +kernel
theorem dX0_registerOf_74 : decode cX0_registerOf 74 = .ok (.iconst 5, 1) := by decide +kernel
theorem dX0_registerOf_75 : decode cX0_registerOf 75 = .ok (.if_icmp .gt 10, 3) := by decide +kernel
theorem dX0_registerOf_78 : decode cX0_registerOf 78 = .ok (.bipush 10, 2) := by decide +kernel
theorem dX0_registerOf_80 : decode cX0_registerOf 80 = .ok (.iload_n 2, 1) := by decide +kernel
theorem dX0_registerOf_81 : decode cX0_registerOf 81 = .ok (.iadd, 1) := by decide +kernel
theorem dX0_registerOf_82 : decode cX0_registerOf 82 = .ok (.goto 4, 3) := by decide +kernel
theorem dX0_registerOf_85 : decode cX0_registerOf 85 = .ok (.iconst (-1), 1) := by decide +kernel
theorem dX0_registerOf_86 : decode cX0_registerOf 86 = .ok (.ireturn, 1) := by decide +kernel
theorem cc_X0_registerOf : Cond.code yX0_registerOf cX0_registerOf 4 (some .int) ∈ rf_tb := rf_at 867 (by decide +kernel) (by decide +kernel)
theorem kc_RX0_166 : Cond.constantLong RX0 166 (255 : Int64) ∈ rf_tb := rf_at 868 (by decide +kernel) (by decide +kernel)
theorem kc_RX0_168 : Cond.constantLong RX0 168 (114 : Int64) ∈ rf_tb := rf_at 869 (by decide +kernel) (by decide +kernel)
theorem kc_RX0_170 : Cond.constantLong RX0 170 (49 : Int64) ∈ rf_tb := rf_at 870 (by decide +kernel) (by decide +kernel)
noncomputable def bc_X0_registerOf_64 (x2 : Int32) (v0 : Int32) (σ : cl_S) : Option (Int32 × cl_S) := (if v0 = 0 then some ((-1:Int32), σ) else (if x2 < 0 then some ((-1:Int32), σ) else (if (5:Int32) < x2 then some ((-1:Int32), σ) else some (((10:Int32) + x2), σ))))
set_option maxHeartbeats 4000000 in
theorem wc_X0_registerOf_64 (C : cl_C D p s m args meth c cX0_registerOf 4 (some .int) RX0) {r : Int32} {x2 : Int32} {v0 : Int32} {σ0 σ σ' : cl_S} {T : Nat → Nat × Nat} {H : Heap} {locs : List Loc} {ls : Array Slot} {cells slots : Nat} (h : bc_X0_registerOf_64 x2 v0 σ = some (r, σ')) (G : cl_G true D c0 ({ frames := 0, cells := σ0.2.2.2.2.2.1, slots := σ0.2.2.2.2.2.2, locals := 0 }) s σ0.2.2.2.1 T σ H locs cells slots) (hl : lv_has ls 4 [(2, .int x2)]) : W p l e ({ frames := 0, cells := σ0.2.2.2.2.2.1, slots := σ0.2.2.2.2.2.2, locals := 0 }) s m args below meth c H locs cells slots (MQ below (cl_Q true D c0 (some (.int r)) cl_no σ0 σ') args s (σ0.2.2.2.2.2.1 - σ'.2.2.2.2.2.1) (σ0.2.2.2.2.2.2 - σ'.2.2.2.2.2.2) (cl_A c0 σ0.2.2.2.1 s.heap.size)) (F0 m 64 ls [.int v0]) := by
  unfold bc_X0_registerOf_64 at h
  refine lv_istore_n (lv' := [(3, .int v0), (2, .int x2)]) C.1 C.2.1 dX0_registerOf_64 rfl hl (by decide) rfl (fun ls hl_4 => ?_)
  refine lv_iload_n C.1 C.2.1 dX0_registerOf_65 rfl (lv_at hl_4 0 rfl) ?_
  refine lv_if_eq (tgt := 85) C.1 C.2.1 dX0_registerOf_66 (by decide) (fun hc => ?_) (fun hc => ?_)
  · rw [if_pos hc] at h
    refine lv_iconst (v := (-1:Int32)) C.1 C.2.1 dX0_registerOf_85 (by decide) ?_
    exact cl_iret ⟨rfl, rfl⟩ rfl C G h dX0_registerOf_86
  · rw [if_neg hc] at h
    refine lv_iload_n C.1 C.2.1 dX0_registerOf_69 rfl (lv_at hl_4 1 rfl) ?_
    refine lv_if_lt (tgt := 85) C.1 C.2.1 dX0_registerOf_70 (by decide) (fun hc => ?_) (fun hc => ?_)
    · rw [if_pos hc] at h
      refine lv_iconst (v := (-1:Int32)) C.1 C.2.1 dX0_registerOf_85 (by decide) ?_
      exact cl_iret ⟨rfl, rfl⟩ rfl C G h dX0_registerOf_86
    · rw [if_neg hc] at h
      refine lv_iload_n C.1 C.2.1 dX0_registerOf_73 rfl (lv_at hl_4 1 rfl) ?_
      refine lv_iconst (v := (5:Int32)) C.1 C.2.1 dX0_registerOf_74 (by decide) ?_
      refine lv_icmp_gt (tgt := 85) C.1 C.2.1 dX0_registerOf_75 (by decide) (fun hc => ?_) (fun hc => ?_)
      · rw [if_pos hc] at h
        refine lv_iconst (v := (-1:Int32)) C.1 C.2.1 dX0_registerOf_85 (by decide) ?_
        exact cl_iret ⟨rfl, rfl⟩ rfl C G h dX0_registerOf_86
      · rw [if_neg hc] at h
        refine lv_bipush (v := (10:Int32)) C.1 C.2.1 dX0_registerOf_78 (by decide) ?_
        refine lv_iload_n C.1 C.2.1 dX0_registerOf_80 rfl (lv_at hl_4 1 rfl) ?_
        refine lv_iadd C.1 C.2.1 dX0_registerOf_81 ?_
        refine lv_goto (tgt := 86) C.1 C.2.1 dX0_registerOf_82 (by decide) ?_
        exact cl_iret ⟨rfl, rfl⟩ rfl C G h dX0_registerOf_86
noncomputable def bc_X0_registerOf_63 (x2 : Int32) (σ : cl_S) : Option (Int32 × cl_S) := bc_X0_registerOf_64 x2 (0:Int32) σ
set_option maxHeartbeats 4000000 in
theorem wc_X0_registerOf_63 (C : cl_C D p s m args meth c cX0_registerOf 4 (some .int) RX0) {r : Int32} {x2 : Int32} {σ0 σ σ' : cl_S} {T : Nat → Nat × Nat} {H : Heap} {locs : List Loc} {ls : Array Slot} {cells slots : Nat} (h : bc_X0_registerOf_63 x2 σ = some (r, σ')) (G : cl_G true D c0 ({ frames := 0, cells := σ0.2.2.2.2.2.1, slots := σ0.2.2.2.2.2.2, locals := 0 }) s σ0.2.2.2.1 T σ H locs cells slots) (hl : lv_has ls 4 [(2, .int x2)]) : W p l e ({ frames := 0, cells := σ0.2.2.2.2.2.1, slots := σ0.2.2.2.2.2.2, locals := 0 }) s m args below meth c H locs cells slots (MQ below (cl_Q true D c0 (some (.int r)) cl_no σ0 σ') args s (σ0.2.2.2.2.2.1 - σ'.2.2.2.2.2.1) (σ0.2.2.2.2.2.2 - σ'.2.2.2.2.2.2) (cl_A c0 σ0.2.2.2.1 s.heap.size)) (F0 m 63 ls []) := by
  unfold bc_X0_registerOf_63 at h
  refine lv_iconst (v := (0:Int32)) C.1 C.2.1 dX0_registerOf_63 (by decide) ?_
  exact wc_X0_registerOf_64 C h G (lv_sub hl [0] rfl)
noncomputable def bc_X0_registerOf_33 (x0 : Int64) (x2 : Int32) (σ : cl_S) : Option (Int32 × cl_S) := (if (lg_cmp ((x0.toUInt64 >>> ((16:Int32).toInt64.toUInt64 &&& Int64.toUInt64 63)).toInt64) (114:Int64)) = 0 then (if (lg_cmp (((x0.toUInt64 >>> ((8:Int32).toInt64.toUInt64 &&& Int64.toUInt64 63)).toInt64) &&& (255:Int64)) (49:Int64)) = 0 then bc_X0_registerOf_64 x2 (1:Int32) σ else bc_X0_registerOf_63 x2 σ) else bc_X0_registerOf_63 x2 σ)
set_option maxHeartbeats 4000000 in
theorem wc_X0_registerOf_33 (C : cl_C D p s m args meth c cX0_registerOf 4 (some .int) RX0) {r : Int32} {x0 : Int64} {x2 : Int32} {σ0 σ σ' : cl_S} {T : Nat → Nat × Nat} {H : Heap} {locs : List Loc} {ls : Array Slot} {cells slots : Nat} (h : bc_X0_registerOf_33 x0 x2 σ = some (r, σ')) (G : cl_G true D c0 ({ frames := 0, cells := σ0.2.2.2.2.2.1, slots := σ0.2.2.2.2.2.2, locals := 0 }) s σ0.2.2.2.1 T σ H locs cells slots) (hl : lv_has ls 4 [(0, .long x0), (2, .int x2)]) : W p l e ({ frames := 0, cells := σ0.2.2.2.2.2.1, slots := σ0.2.2.2.2.2.2, locals := 0 }) s m args below meth c H locs cells slots (MQ below (cl_Q true D c0 (some (.int r)) cl_no σ0 σ') args s (σ0.2.2.2.2.2.1 - σ'.2.2.2.2.2.1) (σ0.2.2.2.2.2.2 - σ'.2.2.2.2.2.2) (cl_A c0 σ0.2.2.2.1 s.heap.size)) (F0 m 33 ls []) := by
  unfold bc_X0_registerOf_33 at h
  refine lv_lload_n C.1 C.2.1 dX0_registerOf_33 rfl (lv_at hl 0 rfl) ?_
  refine lv_bipush (v := (16:Int32)) C.1 C.2.1 dX0_registerOf_34 (by decide) ?_
  refine lv_lushr C.1 C.2.1 dX0_registerOf_36 rfl ?_
  refine lv_ldc2 (v := (114:Int64)) C.1 C.2.1 C.2.2.2.1 (C.2.2.2.2.1 _ kc_RX0_168) dX0_registerOf_37 ?_
  refine W.lcmp C.1 C.2.1 dX0_registerOf_40 ?_
  refine lv_if_ne (tgt := 63) C.1 C.2.1 dX0_registerOf_41 (by decide) (fun hc => ?_) (fun hc => ?_)
  · rw [if_neg hc] at h
    exact wc_X0_registerOf_63 C h G (lv_sub hl [1] rfl)
  · rw [if_pos hc] at h
    refine lv_lload_n C.1 C.2.1 dX0_registerOf_44 rfl (lv_at hl 0 rfl) ?_
    refine lv_bipush (v := (8:Int32)) C.1 C.2.1 dX0_registerOf_45 (by decide) ?_
    refine lv_lushr C.1 C.2.1 dX0_registerOf_47 rfl ?_
    refine lv_ldc2 (v := (255:Int64)) C.1 C.2.1 C.2.2.2.1 (C.2.2.2.2.1 _ kc_RX0_166) dX0_registerOf_48 ?_
    refine lv_land C.1 C.2.1 dX0_registerOf_51 ?_
    refine lv_ldc2 (v := (49:Int64)) C.1 C.2.1 C.2.2.2.1 (C.2.2.2.2.1 _ kc_RX0_170) dX0_registerOf_52 ?_
    refine W.lcmp C.1 C.2.1 dX0_registerOf_55 ?_
    refine lv_if_ne (tgt := 63) C.1 C.2.1 dX0_registerOf_56 (by decide) (fun hc => ?_) (fun hc => ?_)
    · rw [if_neg hc] at h
      exact wc_X0_registerOf_63 C h G (lv_sub hl [1] rfl)
    · rw [if_pos hc] at h
      refine lv_iconst (v := (1:Int32)) C.1 C.2.1 dX0_registerOf_59 (by decide) ?_
      refine lv_goto (tgt := 64) C.1 C.2.1 dX0_registerOf_60 (by decide) ?_
      exact wc_X0_registerOf_64 C h G (lv_sub hl [1] rfl)
noncomputable def bc_X0_registerOf_0 (x0 : Int64) (σ : cl_S) : Option (Int32 × cl_S) := vl (((x0 &&& (255:Int64)).toInt32) - (48:Int32)) (fun x2_1 => (if (lg_cmp ((x0.toUInt64 >>> ((8:Int32).toInt64.toUInt64 &&& Int64.toUInt64 63)).toInt64) (114:Int64)) = 0 then (if x2_1 < 0 then bc_X0_registerOf_33 x0 x2_1 σ else (if (9:Int32) < x2_1 then bc_X0_registerOf_33 x0 x2_1 σ else some (x2_1, σ))) else bc_X0_registerOf_33 x0 x2_1 σ))
set_option maxHeartbeats 4000000 in
theorem wc_X0_registerOf_0 (C : cl_C D p s m args meth c cX0_registerOf 4 (some .int) RX0) {r : Int32} {x0 : Int64} {σ0 σ σ' : cl_S} {T : Nat → Nat × Nat} {H : Heap} {locs : List Loc} {ls : Array Slot} {cells slots : Nat} (h : bc_X0_registerOf_0 x0 σ = some (r, σ')) (G : cl_G true D c0 ({ frames := 0, cells := σ0.2.2.2.2.2.1, slots := σ0.2.2.2.2.2.2, locals := 0 }) s σ0.2.2.2.1 T σ H locs cells slots) (hl : lv_has ls 4 [(0, .long x0)]) : W p l e ({ frames := 0, cells := σ0.2.2.2.2.2.1, slots := σ0.2.2.2.2.2.2, locals := 0 }) s m args below meth c H locs cells slots (MQ below (cl_Q true D c0 (some (.int r)) cl_no σ0 σ') args s (σ0.2.2.2.2.2.1 - σ'.2.2.2.2.2.1) (σ0.2.2.2.2.2.2 - σ'.2.2.2.2.2.2) (cl_A c0 σ0.2.2.2.1 s.heap.size)) (F0 m 0 ls []) := by
  unfold bc_X0_registerOf_0 at h
  refine lv_lload_n C.1 C.2.1 dX0_registerOf_0 rfl (lv_at hl 0 rfl) ?_
  refine lv_ldc2 (v := (255:Int64)) C.1 C.2.1 C.2.2.2.1 (C.2.2.2.2.1 _ kc_RX0_166) dX0_registerOf_1 ?_
  refine lv_land C.1 C.2.1 dX0_registerOf_4 ?_
  refine lv_l2i C.1 C.2.1 dX0_registerOf_5 rfl ?_
  refine lv_bipush (v := (48:Int32)) C.1 C.2.1 dX0_registerOf_6 (by decide) ?_
  refine lv_isub C.1 C.2.1 dX0_registerOf_8 ?_
  refine vt_i h (fun x2_1 h_2 => ?_)
  refine lv_istore_n (lv' := [(2, .int x2_1), (0, .long x0)]) C.1 C.2.1 dX0_registerOf_9 rfl hl (by decide) rfl (fun ls hl_3 => ?_)
  refine lv_lload_n C.1 C.2.1 dX0_registerOf_10 rfl (lv_at hl_3 1 rfl) ?_
  refine lv_bipush (v := (8:Int32)) C.1 C.2.1 dX0_registerOf_11 (by decide) ?_
  refine lv_lushr C.1 C.2.1 dX0_registerOf_13 rfl ?_
  refine lv_ldc2 (v := (114:Int64)) C.1 C.2.1 C.2.2.2.1 (C.2.2.2.2.1 _ kc_RX0_168) dX0_registerOf_14 ?_
  refine W.lcmp C.1 C.2.1 dX0_registerOf_17 ?_
  refine lv_if_ne (tgt := 33) C.1 C.2.1 dX0_registerOf_18 (by decide) (fun hc => ?_) (fun hc => ?_)
  · rw [if_neg hc] at h_2
    exact wc_X0_registerOf_33 C h_2 G (lv_sub hl_3 [1, 0] rfl)
  · rw [if_pos hc] at h_2
    refine lv_iload_n C.1 C.2.1 dX0_registerOf_21 rfl (lv_at hl_3 0 rfl) ?_
    refine lv_if_lt (tgt := 33) C.1 C.2.1 dX0_registerOf_22 (by decide) (fun hc => ?_) (fun hc => ?_)
    · rw [if_pos hc] at h_2
      exact wc_X0_registerOf_33 C h_2 G (lv_sub hl_3 [1, 0] rfl)
    · rw [if_neg hc] at h_2
      refine lv_iload_n C.1 C.2.1 dX0_registerOf_25 rfl (lv_at hl_3 0 rfl) ?_
      refine lv_bipush (v := (9:Int32)) C.1 C.2.1 dX0_registerOf_26 (by decide) ?_
      refine lv_icmp_gt (tgt := 33) C.1 C.2.1 dX0_registerOf_28 (by decide) (fun hc => ?_) (fun hc => ?_)
      · rw [if_pos hc] at h_2
        exact wc_X0_registerOf_33 C h_2 G (lv_sub hl_3 [1, 0] rfl)
      · rw [if_neg hc] at h_2
        refine lv_iload_n C.1 C.2.1 dX0_registerOf_31 rfl (lv_at hl_3 0 rfl) ?_
        exact cl_iret ⟨rfl, rfl⟩ rfl C G h_2 dX0_registerOf_32
noncomputable def fc_X0_registerOf (x0 : Int64) (σ : cl_S) : Option (Int32 × cl_S) := bc_X0_registerOf_0 x0 σ
theorem kc_X0_registerOf (l : Launch) (D : cl_D) (c0 : Nat) {r : Int32} {x0 : Int64} {σ σ' : cl_S} (h : fc_X0_registerOf x0 σ = some (r, σ')) : cl_Met true l D c0 yX0_registerOf cX0_registerOf 4 (some .int) 0 0 [.long x0] σ (some (.int r)) cl_no σ' :=
  cl_of (by decide) (Nat.le_of_ble_eq_true rfl) (fun p e s m args below meth c ls C hn G hl => wc_X0_registerOf_0 C h G  hl)
abbrev cX0_readRegister : ByteArray := prog_2_method_21_code
def yX0_readRegister : MethodName := ⟨RX0, "readRegister", "()I"⟩
theorem dX0_readRegister_0 : decode cX0_readRegister 0 = .ok (.aload_n 0, 1) := by decide +kernel
theorem dX0_readRegister_1 : decode cX0_readRegister 1 = .ok (.getfield 67, 3) := by decide +kernel
theorem dX0_readRegister_4 : decode cX0_readRegister 4 = .ok (.ifCond .eq 5, 3) := by decide +kernel
theorem dX0_readRegister_7 : decode cX0_readRegister 7 = .ok (.iconst 0, 1) := by decide +kernel
theorem dX0_readRegister_8 : decode cX0_readRegister 8 = .ok (.ireturn, 1) := by decide +kernel
theorem dX0_readRegister_9 : decode cX0_readRegister 9 = .ok (.aload_n 0, 1) := by decide +kernel
theorem dX0_readRegister_10 : decode cX0_readRegister 10 = .ok (.invokevirtual 78, 3) := by decide +kernel
theorem dX0_readRegister_13 : decode cX0_readRegister 13 = .ok (.iconst 2, 1) := by decide +kernel
theorem dX0_readRegister_14 : decode cX0_readRegister 14 = .ok (.if_icmp .eq 9, 3) := by decide +kernel
theorem dX0_readRegister_17 : decode cX0_readRegister 17 = .ok (.aload_n 0, 1) := by decide +kernel
theorem dX0_readRegister_18 : decode cX0_readRegister 18 = .ok (.invokevirtual 116, 3) := by decide +kernel
theorem dX0_readRegister_21 : decode cX0_readRegister 21 = .ok (.iconst 0, 1) := by decide +kernel
theorem dX0_readRegister_22 : decode cX0_readRegister 22 = .ok (.ireturn, 1) := by decide +kernel
theorem dX0_readRegister_23 : decode cX0_readRegister 23 = .ok (.aload_n 0, 1) := by decide +kernel
theorem dX0_readRegister_24 : decode cX0_readRegister 24 = .ok (.getfield 42, 3) := by decide +kernel
theorem dX0_readRegister_27 : decode cX0_readRegister 27 = .ok (.getfield 103, 3) := by decide +kernel
theorem dX0_readRegister_30 : decode cX0_readRegister 30 = .ok (.aload_n 0, 1) := by decide +kernel
theorem dX0_readRegister_31 : decode cX0_readRegister 31 = .ok (.getfield 70, 3) := by decide +kernel
theorem dX0_readRegister_34 : decode cX0_readRegister 34 = .ok (.laload, 1) := by decide +kernel
theorem dX0_readRegister_35 : decode cX0_readRegister 35 = .ok (.invokestatic 163, 3) := by decide +kernel
theorem dX0_readRegister_38 : decode cX0_readRegister 38 = .ok (.istore_n 1, 1) := by decide +kernel
theorem dX0_readRegister_39 : decode cX0_readRegister 39 = .ok (.iload_n 1, 1) := by decide +kernel
theorem dX0_readRegister_40 : decode cX0_readRegister 40 = .ok (.ifCond .ge 22, 3) := by decide +kernel
theorem dX0_readRegister_43 : decode cX0_readRegister 43 = .ok (.aload_n 0, 1) := by decide +kernel
theorem dX0_readRegister_44 : decode cX0_readRegister 44 = .ok (.iconst 3, 1) := by decide +kernel
theorem dX0_readRegister_45 : decode cX0_readRegister 45 = .ok (.aload_n 0, 1) := by decide +kernel
theorem dX0_readRegister_46 : decode cX0_readRegister 46 = .ok (.getfield 42, 3) := by decide +kernel
theorem dX0_readRegister_49 : decode cX0_readRegister 49 = .ok (.getfield 96, 3) := by decide +kernel
theorem dX0_readRegister_52 : decode cX0_readRegister 52 = .ok (.aload_n 0, 1) := by decide +kernel
theorem dX0_readRegister_53 : decode cX0_readRegister 53 = .ok (.getfield 70, 3) := by decide +kernel
theorem dX0_readRegister_56 : decode cX0_readRegister 56 = .ok (.iaload, 1) := by decide +kernel
theorem dX0_readRegister_57 : decode cX0_readRegister 57 = .ok (.invokevirtual 99, 3) := by decide +kernel
theorem dX0_readRegister_60 : decode cX0_readRegister 60 = .ok (.iconst 0, 1) := by decide +kernel
theorem dX0_readRegister_61 : decode cX0_readRegister 61 = .ok (.ireturn, 1) := by decide +kernel
theorem dX0_readRegister_62 : decode cX0_readRegister 62 = .ok (.aload_n 0, 1) := by decide +kernel
theorem dX0_readRegister_63 : decode cX0_readRegister 63 = .ok (.invokevirtual 110, 3) := by decide +kernel
theorem dX0_readRegister_66 : decode cX0_readRegister 66 = .ok (.iload_n 1, 1) := by decide +kernel
theorem dX0_readRegister_67 : decode cX0_readRegister 67 = .ok (.ireturn, 1) := by decide +kernel
theorem cc_X0_readRegister : Cond.code yX0_readRegister cX0_readRegister 2 (some .int) ∈ rf_tb := rf_at 864 (by decide +kernel) (by decide +kernel)
theorem cw_RX0_163 : cl_wS RX0 yX0_registerOf cX0_registerOf 4 (some .int) 163 1 := ⟨⟨rf_at 865 (by decide +kernel) (by decide +kernel), rf_at 866 (by decide +kernel) (by decide +kernel), cc_X0_registerOf, rf_at 3 (by decide +kernel) (by decide +kernel)⟩, ⟨by decide, by decide, by decide +kernel⟩⟩
noncomputable def bc_X0_readRegister_0 (a : Nat) (σ : cl_S) : Option (Int32 × cl_S) := (if (σ.1 a 12) = 0 then bd2 (fc_X0_token a σ) (fun r_2 σ_1 => (if r_2 = (2:Int32) then ix (σ_1.1 a 2) 6001 (bd2 (fc_X0_registerOf (σ_1.2.1 (1 + 4) (σ_1.1 a 2).toNatClampNeg) σ_1) (fun r_11 σ_10 => (if 0 ≤ r_11 then bd1 (fc_X0_advance a σ_10) (fun σ_17 => some (r_11, σ_17)) else ix (σ_10.1 a 2) 6001 (bd1 (fc_X0_fail a (3:Int32) (σ_10.1 (1 + 3) (σ_10.1 a 2).toNatClampNeg) σ_10) (fun σ_25 => some ((0:Int32), σ_25)))))) else bd1 (fc_X0_failAtToken a σ_1) (fun σ_30 => some ((0:Int32), σ_30)))) else some ((0:Int32), σ))
set_option maxHeartbeats 4000000 in
theorem wc_X0_readRegister_0 (C : cl_C D p s m args meth c cX0_readRegister 2 (some .int) RX0) {r : Int32} {a : Nat} {σ0 σ σ' : cl_S} {T : Nat → Nat × Nat} {H : Heap} {locs : List Loc} {ls : Array Slot} {cells slots : Nat} (h : bc_X0_readRegister_0 a σ = some (r, σ')) (G : cl_G true D c0 ({ frames := 2, cells := σ0.2.2.2.2.2.1, slots := σ0.2.2.2.2.2.2, locals := 42 }) s σ0.2.2.2.1 T σ H locs cells slots) (ha : (T a).1 = 16) (hl : lv_has ls 2 [(0, .ref (c0 + a))]) : W p l e ({ frames := 2, cells := σ0.2.2.2.2.2.1, slots := σ0.2.2.2.2.2.2, locals := 42 }) s m args below meth c H locs cells slots (MQ below (cl_Q true D c0 (some (.int r)) cl_no σ0 σ') args s (σ0.2.2.2.2.2.1 - σ'.2.2.2.2.2.1) (σ0.2.2.2.2.2.2 - σ'.2.2.2.2.2.2) (cl_A c0 σ0.2.2.2.1 s.heap.size)) (F0 m 0 ls []) := by
  unfold bc_X0_readRegister_0 at h
  refine lv_aload_n C.1 C.2.1 dX0_readRegister_0 rfl (lv_at hl 0 rfl) ?_
  refine cg_0_67 C G ha dX0_readRegister_1 ?_
  refine lv_if_eq (tgt := 9) C.1 C.2.1 dX0_readRegister_4 (by decide) (fun hc => ?_) (fun hc => ?_)
  · rw [if_pos hc] at h
    refine lv_aload_n C.1 C.2.1 dX0_readRegister_9 rfl (lv_at hl 0 rfl) ?_
    obtain ⟨r_2, σ_1, hq, h_3⟩ := bd2_some h
    refine cl_callV (ci := 0) (rest := []) C G rfl ha cw_RX0_78 [] _ (kc_X0_token l D c0 (by rw [G.1]; exact ha) hq) (Nat.le_of_ble_eq_true rfl) (Nat.le_of_ble_eq_true rfl) rfl rfl hl.1 (Nat.le_of_ble_eq_true rfl) dX0_readRegister_10 (fun T_4 H locs cells slots t_5 hu G_6 => ?_)
    have ha := hu.kind ha (by decide)
    refine W.eq (g2 := F0 m 13 ls [.int r_2]) rfl ?_
    refine lv_iconst (v := (2:Int32)) C.1 C.2.1 dX0_readRegister_13 (by decide) ?_
    refine lv_icmp_eq (tgt := 23) C.1 C.2.1 dX0_readRegister_14 (by decide) (fun hc => ?_) (fun hc => ?_)
    · rw [if_pos hc] at h_3
      refine lv_aload_n C.1 C.2.1 dX0_readRegister_23 rfl (lv_at hl 0 rfl) ?_
      refine cg_0_42 C G_6 ha dX0_readRegister_24 (fun t_7 => ?_)
      have t_7 : (T_4 1).1 = 20 := by rw [t_7]
      refine cg_0_103 C G_6 t_7 dX0_readRegister_27 (fun t_8 => ?_)
      refine lv_aload_n C.1 C.2.1 dX0_readRegister_30 rfl (lv_at hl 0 rfl) ?_
      refine cg_0_70 C G_6 ha dX0_readRegister_31 ?_
      obtain ⟨hi, h_9⟩ := ix_some h_3
      refine cl_lald C G_6 t_8 hi dX0_readRegister_34 ?_
      obtain ⟨r_11, σ_10, hq, h_12⟩ := bd2_some h_9
      refine cl_callS (rest := []) C G_6 cw_RX0_163 [.long (σ_1.2.1 (1 + 4) (σ_1.1 a 2).toNatClampNeg)] _ (kc_X0_registerOf l D c0 hq) (Nat.le_of_ble_eq_true rfl) (Nat.le_of_ble_eq_true rfl) rfl rfl hl.1 (Nat.le_of_ble_eq_true rfl) dX0_readRegister_35 (fun T_13 H locs cells slots t_14 hu G_15 => ?_)
      have ha := hu.kind ha (by decide)
      refine W.eq (g2 := F0 m 38 ls [.int r_11]) rfl ?_
      refine lv_istore_n (lv' := [(1, .int r_11), (0, .ref (c0 + a))]) C.1 C.2.1 dX0_readRegister_38 rfl hl (by decide) rfl (fun ls hl_16 => ?_)
      refine lv_iload_n C.1 C.2.1 dX0_readRegister_39 rfl (lv_at hl_16 0 rfl) ?_
      refine lv_if_ge (tgt := 62) C.1 C.2.1 dX0_readRegister_40 (by decide) (fun hc => ?_) (fun hc => ?_)
      · rw [if_pos hc] at h_12
        refine lv_aload_n C.1 C.2.1 dX0_readRegister_62 rfl (lv_at hl_16 1 rfl) ?_
        obtain ⟨σ_17, hq, h_18⟩ := bd1_some h_12
        refine cl_callV (ci := 0) (rest := []) C G_15 rfl ha cw_RX0_110 [] _ (kc_X0_advance l D c0 (by rw [G_15.1]; exact ha) hq) (Nat.le_of_ble_eq_true rfl) (Nat.le_of_ble_eq_true rfl) rfl rfl hl_16.1 (Nat.le_of_ble_eq_true rfl) dX0_readRegister_63 (fun T_19 H locs cells slots t_20 hu G_21 => ?_)
        have ha := hu.kind ha (by decide)
        refine W.eq (g2 := F0 m 66 ls []) rfl ?_
        refine lv_iload_n C.1 C.2.1 dX0_readRegister_66 rfl (lv_at hl_16 0 rfl) ?_
        exact cl_iret ⟨rfl, rfl⟩ rfl C G_21 h_18 dX0_readRegister_67
      · rw [if_neg hc] at h_12
        refine lv_aload_n C.1 C.2.1 dX0_readRegister_43 rfl (lv_at hl_16 1 rfl) ?_
        refine lv_iconst (v := (3:Int32)) C.1 C.2.1 dX0_readRegister_44 (by decide) ?_
        refine lv_aload_n C.1 C.2.1 dX0_readRegister_45 rfl (lv_at hl_16 1 rfl) ?_
        refine cg_0_42 C G_15 ha dX0_readRegister_46 (fun t_22 => ?_)
        have t_22 : (T_13 1).1 = 20 := by rw [t_22]
        refine cg_0_96 C G_15 t_22 dX0_readRegister_49 (fun t_23 => ?_)
        refine lv_aload_n C.1 C.2.1 dX0_readRegister_52 rfl (lv_at hl_16 1 rfl) ?_
        refine cg_0_70 C G_15 ha dX0_readRegister_53 ?_
        obtain ⟨hi, h_24⟩ := ix_some h_12
        refine cl_iald C G_15 t_23 hi dX0_readRegister_56 ?_
        obtain ⟨σ_25, hq, h_26⟩ := bd1_some h_24
        refine cl_callV (ci := 0) (rest := []) C G_15 rfl ha cw_RX0_99 [.int (3:Int32), .int (σ_10.1 (1 + 3) (σ_10.1 a 2).toNatClampNeg)] _ (kc_X0_fail l D c0 (by rw [G_15.1]; exact ha) hq) (Nat.le_of_ble_eq_true rfl) (Nat.le_of_ble_eq_true rfl) rfl rfl hl_16.1 (Nat.le_of_ble_eq_true rfl) dX0_readRegister_57 (fun T_27 H locs cells slots t_28 hu G_29 => ?_)
        have ha := hu.kind ha (by decide)
        refine W.eq (g2 := F0 m 60 ls []) rfl ?_
        refine lv_iconst (v := (0:Int32)) C.1 C.2.1 dX0_readRegister_60 (by decide) ?_
        exact cl_iret ⟨rfl, rfl⟩ rfl C G_29 h_26 dX0_readRegister_61
    · rw [if_neg hc] at h_3
      refine lv_aload_n C.1 C.2.1 dX0_readRegister_17 rfl (lv_at hl 0 rfl) ?_
      obtain ⟨σ_30, hq, h_31⟩ := bd1_some h_3
      refine cl_callV (ci := 0) (rest := []) C G_6 rfl ha cw_RX0_116 [] _ (kc_X0_failAtToken l D c0 (by rw [G_6.1]; exact ha) hq) (Nat.le_of_ble_eq_true rfl) (Nat.le_of_ble_eq_true rfl) rfl rfl hl.1 (Nat.le_of_ble_eq_true rfl) dX0_readRegister_18 (fun T_32 H locs cells slots t_33 hu G_34 => ?_)
      have ha := hu.kind ha (by decide)
      refine W.eq (g2 := F0 m 21 ls []) rfl ?_
      refine lv_iconst (v := (0:Int32)) C.1 C.2.1 dX0_readRegister_21 (by decide) ?_
      exact cl_iret ⟨rfl, rfl⟩ rfl C G_34 h_31 dX0_readRegister_22
  · rw [if_neg hc] at h
    refine lv_iconst (v := (0:Int32)) C.1 C.2.1 dX0_readRegister_7 (by decide) ?_
    exact cl_iret ⟨rfl, rfl⟩ rfl C G h dX0_readRegister_8
noncomputable def fc_X0_readRegister (a : Nat) (σ : cl_S) : Option (Int32 × cl_S) := bc_X0_readRegister_0 a σ
theorem kc_X0_readRegister (l : Launch) (D : cl_D) (c0 : Nat) {r : Int32} {a : Nat} {σ σ' : cl_S} (ha : (σ.2.2.2.1 a).1 = 16) (h : fc_X0_readRegister a σ = some (r, σ')) : cl_Met true l D c0 yX0_readRegister cX0_readRegister 2 (some .int) 2 42 [.ref (c0 + a)] σ (some (.int r)) cl_no σ' :=
  cl_of (by decide) (Nat.le_of_ble_eq_true rfl) (fun p e s m args below meth c ls C hn G hl => wc_X0_readRegister_0 C h G ha hl)
abbrev cX0_hasA : ByteArray := prog_2_method_16_code
def yX0_hasA : MethodName := ⟨RX0, "hasA", "(I)Z"⟩
theorem dX0_hasA_0 : decode cX0_hasA 0 = .ok (.iload_n 0, 1) := by decide +kernel
theorem dX0_hasA_1 : decode cX0_hasA 1 = .ok (.invokestatic 143, 3) := by decide +kernel
theorem dX0_hasA_4 : decode cX0_hasA 4 = .ok (.ifCond .eq 19, 3) := by decide +kernel
theorem dX0_hasA_7 : decode cX0_hasA 7 = .ok (.iload_n 0, 1) := by decide +kernel
theorem dX0_hasA_8 : decode cX0_hasA 8 = .ok (.bipush 21, 2) := by decide +kernel
theorem dX0_hasA_10 : decode cX0_hasA 10 = .ok (.if_icmp .eq 13, 3) := by decide +kernel
theorem dX0_hasA_13 : decode cX0_hasA 13 = .ok (.iload_n 0, 1) := by decide +kernel
theorem dX0_hasA_14 : decode cX0_hasA 14 = .ok (.bipush 36, 2) := by decide +kernel
theorem dX0_hasA_16 : decode cX0_hasA 16 = .ok (.if_icmp .eq 7, 3) := by decide +kernel
theorem dX0_hasA_19 : decode cX0_hasA 19 = .ok (.iconst 1, 1) := by decide +kernel
theorem dX0_hasA_20 : decode cX0_hasA 20 = .ok (.goto 4, 3) := by decide +kernel
theorem dX0_hasA_23 : decode cX0_hasA 23 = .ok (.iconst 0, 1) := by decide +kernel
theorem dX0_hasA_24 : decode cX0_hasA 24 = .ok (.ireturn, 1) := by decide +kernel
theorem cc_X0_hasA : Cond.code yX0_hasA cX0_hasA 1 (some .boolean) ∈ rf_tb := rf_at 873 (by decide +kernel) (by decide +kernel)
theorem cw_RX0_143 : cl_wS RX0 yX0_hasD cX0_hasD 1 (some .boolean) 143 1 := ⟨⟨rf_at 858 (by decide +kernel) (by decide +kernel), rf_at 859 (by decide +kernel) (by decide +kernel), cc_X0_hasD, rf_at 3 (by decide +kernel) (by decide +kernel)⟩, ⟨by decide, by decide, by decide +kernel⟩⟩
noncomputable def bc_X0_hasA_0 (x0 : Int32) (σ : cl_S) : Option (Int32 × cl_S) := bd2 (fc_X0_hasD x0 σ) (fun r_2 σ_1 => (if r_2 = 0 then some ((0:Int32), σ_1) else (if x0 = (21:Int32) then some ((0:Int32), σ_1) else (if x0 = (36:Int32) then some ((0:Int32), σ_1) else some ((1:Int32), σ_1)))))
set_option maxHeartbeats 4000000 in
theorem wc_X0_hasA_0 (C : cl_C D p s m args meth c cX0_hasA 1 (some .boolean) RX0) {r : Int32} {x0 : Int32} {σ0 σ σ' : cl_S} {T : Nat → Nat × Nat} {H : Heap} {locs : List Loc} {ls : Array Slot} {cells slots : Nat} (h : bc_X0_hasA_0 x0 σ = some (r, σ')) (G : cl_G true D c0 ({ frames := 1, cells := σ0.2.2.2.2.2.1, slots := σ0.2.2.2.2.2.2, locals := 20 }) s σ0.2.2.2.1 T σ H locs cells slots) (hl : lv_has ls 1 [(0, .int x0)]) : W p l e ({ frames := 1, cells := σ0.2.2.2.2.2.1, slots := σ0.2.2.2.2.2.2, locals := 20 }) s m args below meth c H locs cells slots (MQ below (cl_Q true D c0 (some (.int r)) cl_no σ0 σ') args s (σ0.2.2.2.2.2.1 - σ'.2.2.2.2.2.1) (σ0.2.2.2.2.2.2 - σ'.2.2.2.2.2.2) (cl_A c0 σ0.2.2.2.1 s.heap.size)) (F0 m 0 ls []) := by
  unfold bc_X0_hasA_0 at h
  refine lv_iload_n C.1 C.2.1 dX0_hasA_0 rfl (lv_at hl 0 rfl) ?_
  obtain ⟨r_2, σ_1, hq, h_3⟩ := bd2_some h
  refine cl_callS (rest := []) C G cw_RX0_143 [.int x0] _ (kc_X0_hasD l D c0 hq) (Nat.le_of_ble_eq_true rfl) (Nat.le_of_ble_eq_true rfl) rfl rfl hl.1 (Nat.le_of_ble_eq_true rfl) dX0_hasA_1 (fun T_4 H locs cells slots t_5 hu G_6 => ?_)
  refine W.eq (g2 := F0 m 4 ls [.int r_2]) rfl ?_
  refine lv_if_eq (tgt := 23) C.1 C.2.1 dX0_hasA_4 (by decide) (fun hc => ?_) (fun hc => ?_)
  · rw [if_pos hc] at h_3
    refine lv_iconst (v := (0:Int32)) C.1 C.2.1 dX0_hasA_23 (by decide) ?_
    exact cl_zret ⟨rfl, rfl⟩ rfl C G_6 h_3 rfl dX0_hasA_24
  · rw [if_neg hc] at h_3
    refine lv_iload_n C.1 C.2.1 dX0_hasA_7 rfl (lv_at hl 0 rfl) ?_
    refine lv_bipush (v := (21:Int32)) C.1 C.2.1 dX0_hasA_8 (by decide) ?_
    refine lv_icmp_eq (tgt := 23) C.1 C.2.1 dX0_hasA_10 (by decide) (fun hc => ?_) (fun hc => ?_)
    · rw [if_pos hc] at h_3
      refine lv_iconst (v := (0:Int32)) C.1 C.2.1 dX0_hasA_23 (by decide) ?_
      exact cl_zret ⟨rfl, rfl⟩ rfl C G_6 h_3 rfl dX0_hasA_24
    · rw [if_neg hc] at h_3
      refine lv_iload_n C.1 C.2.1 dX0_hasA_13 rfl (lv_at hl 0 rfl) ?_
      refine lv_bipush (v := (36:Int32)) C.1 C.2.1 dX0_hasA_14 (by decide) ?_
      refine lv_icmp_eq (tgt := 23) C.1 C.2.1 dX0_hasA_16 (by decide) (fun hc => ?_) (fun hc => ?_)
      · rw [if_pos hc] at h_3
        refine lv_iconst (v := (0:Int32)) C.1 C.2.1 dX0_hasA_23 (by decide) ?_
        exact cl_zret ⟨rfl, rfl⟩ rfl C G_6 h_3 rfl dX0_hasA_24
      · rw [if_neg hc] at h_3
        refine lv_iconst (v := (1:Int32)) C.1 C.2.1 dX0_hasA_19 (by decide) ?_
        refine lv_goto (tgt := 24) C.1 C.2.1 dX0_hasA_20 (by decide) ?_
        exact cl_zret ⟨rfl, rfl⟩ rfl C G_6 h_3 rfl dX0_hasA_24
noncomputable def fc_X0_hasA (x0 : Int32) (σ : cl_S) : Option (Int32 × cl_S) := bc_X0_hasA_0 x0 σ
theorem kc_X0_hasA (l : Launch) (D : cl_D) (c0 : Nat) {r : Int32} {x0 : Int32} {σ σ' : cl_S} (h : fc_X0_hasA x0 σ = some (r, σ')) : cl_Met true l D c0 yX0_hasA cX0_hasA 1 (some .boolean) 1 20 [.int x0] σ (some (.int r)) cl_no σ' :=
  cl_of (by decide) (Nat.le_of_ble_eq_true rfl) (fun p e s m args below meth c ls C hn G hl => wc_X0_hasA_0 C h G  hl)
abbrev cX0_readComma : ByteArray := prog_2_method_20_code
def yX0_readComma : MethodName := ⟨RX0, "readComma", "()V"⟩
theorem dX0_readComma_0 : decode cX0_readComma 0 = .ok (.aload_n 0, 1) := by decide +kernel
theorem dX0_readComma_1 : decode cX0_readComma 1 = .ok (.getfield 67, 3) := by decide +kernel
theorem dX0_readComma_4 : decode cX0_readComma 4 = .ok (.ifCond .eq 4, 3) := by decide +kernel
theorem dX0_readComma_7 : decode cX0_readComma 7 = .ok (.return_, 1) := by decide +kernel
theorem dX0_readComma_8 : decode cX0_readComma 8 = .ok (.aload_n 0, 1) := by decide +kernel
theorem dX0_readComma_9 : decode cX0_readComma 9 = .ok (.invokevirtual 78, 3) := by decide +kernel
theorem dX0_readComma_12 : decode cX0_readComma 12 = .ok (.iconst 4, 1) := by decide +kernel
theorem dX0_readComma_13 : decode cX0_readComma 13 = .ok (.if_icmp .ne 10, 3) := by decide +kernel
theorem dX0_readComma_16 : decode cX0_readComma 16 = .ok (.aload_n 0, 1) := by decide +kernel
theorem dX0_readComma_17 : decode cX0_readComma 17 = .ok (.invokevirtual 110, 3) := by decide +kernel
theorem dX0_readComma_20 : decode cX0_readComma 20 = .ok (.goto 7, 3) := by decide +kernel
theorem dX0_readComma_23 : decode cX0_readComma 23 = .ok (.aload_n 0, 1) := by decide +kernel
theorem dX0_readComma_24 : decode cX0_readComma 24 = .ok (.invokevirtual 116, 3) := by decide +kernel
theorem dX0_readComma_27 : decode cX0_readComma 27 = .ok (.return_, 1) := by decide +kernel
theorem cc_X0_readComma : Cond.code yX0_readComma cX0_readComma 1 none ∈ rf_tb := rf_at 877 (by decide +kernel) (by decide +kernel)
noncomputable def bc_X0_readComma_0 (a : Nat) (σ : cl_S) : Option (cl_S) := (if (σ.1 a 12) = 0 then bd2 (fc_X0_token a σ) (fun r_2 σ_1 => (if r_2 = (4:Int32) then bd1 (fc_X0_advance a σ_1) (fun σ_12 => some σ_12) else bd1 (fc_X0_failAtToken a σ_1) (fun σ_7 => some σ_7))) else some σ)
set_option maxHeartbeats 4000000 in
theorem wc_X0_readComma_0 (C : cl_C D p s m args meth c cX0_readComma 1 none RX0) {a : Nat} {σ0 σ σ' : cl_S} {T : Nat → Nat × Nat} {H : Heap} {locs : List Loc} {ls : Array Slot} {cells slots : Nat} (h : bc_X0_readComma_0 a σ = some σ') (G : cl_G true D c0 ({ frames := 2, cells := σ0.2.2.2.2.2.1, slots := σ0.2.2.2.2.2.2, locals := 42 }) s σ0.2.2.2.1 T σ H locs cells slots) (ha : (T a).1 = 16) (hl : lv_has ls 1 [(0, .ref (c0 + a))]) : W p l e ({ frames := 2, cells := σ0.2.2.2.2.2.1, slots := σ0.2.2.2.2.2.2, locals := 42 }) s m args below meth c H locs cells slots (MQ below (cl_Q true D c0 none cl_no σ0 σ') args s (σ0.2.2.2.2.2.1 - σ'.2.2.2.2.2.1) (σ0.2.2.2.2.2.2 - σ'.2.2.2.2.2.2) (cl_A c0 σ0.2.2.2.1 s.heap.size)) (F0 m 0 ls []) := by
  unfold bc_X0_readComma_0 at h
  refine lv_aload_n C.1 C.2.1 dX0_readComma_0 rfl (lv_at hl 0 rfl) ?_
  refine cg_0_67 C G ha dX0_readComma_1 ?_
  refine lv_if_eq (tgt := 8) C.1 C.2.1 dX0_readComma_4 (by decide) (fun hc => ?_) (fun hc => ?_)
  · rw [if_pos hc] at h
    refine lv_aload_n C.1 C.2.1 dX0_readComma_8 rfl (lv_at hl 0 rfl) ?_
    obtain ⟨r_2, σ_1, hq, h_3⟩ := bd2_some h
    refine cl_callV (ci := 0) (rest := []) C G rfl ha cw_RX0_78 [] _ (kc_X0_token l D c0 (by rw [G.1]; exact ha) hq) (Nat.le_of_ble_eq_true rfl) (Nat.le_of_ble_eq_true rfl) rfl rfl hl.1 (Nat.le_of_ble_eq_true rfl) dX0_readComma_9 (fun T_4 H locs cells slots t_5 hu G_6 => ?_)
    have ha := hu.kind ha (by decide)
    refine W.eq (g2 := F0 m 12 ls [.int r_2]) rfl ?_
    refine lv_iconst (v := (4:Int32)) C.1 C.2.1 dX0_readComma_12 (by decide) ?_
    refine lv_icmp_ne (tgt := 23) C.1 C.2.1 dX0_readComma_13 (by decide) (fun hc => ?_) (fun hc => ?_)
    · rw [if_neg hc] at h_3
      refine lv_aload_n C.1 C.2.1 dX0_readComma_23 rfl (lv_at hl 0 rfl) ?_
      obtain ⟨σ_7, hq, h_8⟩ := bd1_some h_3
      refine cl_callV (ci := 0) (rest := []) C G_6 rfl ha cw_RX0_116 [] _ (kc_X0_failAtToken l D c0 (by rw [G_6.1]; exact ha) hq) (Nat.le_of_ble_eq_true rfl) (Nat.le_of_ble_eq_true rfl) rfl rfl hl.1 (Nat.le_of_ble_eq_true rfl) dX0_readComma_24 (fun T_9 H locs cells slots t_10 hu G_11 => ?_)
      have ha := hu.kind ha (by decide)
      refine W.eq (g2 := F0 m 27 ls []) rfl ?_
      exact cl_vret ⟨rfl, rfl⟩ rfl C G_11 h_8 dX0_readComma_27
    · rw [if_pos hc] at h_3
      refine lv_aload_n C.1 C.2.1 dX0_readComma_16 rfl (lv_at hl 0 rfl) ?_
      obtain ⟨σ_12, hq, h_13⟩ := bd1_some h_3
      refine cl_callV (ci := 0) (rest := []) C G_6 rfl ha cw_RX0_110 [] _ (kc_X0_advance l D c0 (by rw [G_6.1]; exact ha) hq) (Nat.le_of_ble_eq_true rfl) (Nat.le_of_ble_eq_true rfl) rfl rfl hl.1 (Nat.le_of_ble_eq_true rfl) dX0_readComma_17 (fun T_14 H locs cells slots t_15 hu G_16 => ?_)
      have ha := hu.kind ha (by decide)
      refine W.eq (g2 := F0 m 20 ls []) rfl ?_
      refine lv_goto (tgt := 27) C.1 C.2.1 dX0_readComma_20 (by decide) ?_
      exact cl_vret ⟨rfl, rfl⟩ rfl C G_16 h_13 dX0_readComma_27
  · rw [if_neg hc] at h
    exact cl_vret ⟨rfl, rfl⟩ rfl C G h dX0_readComma_7
noncomputable def fc_X0_readComma (a : Nat) (σ : cl_S) : Option (cl_S) := bc_X0_readComma_0 a σ
theorem kc_X0_readComma (l : Launch) (D : cl_D) (c0 : Nat) {a : Nat} {σ σ' : cl_S} (ha : (σ.2.2.2.1 a).1 = 16) (h : fc_X0_readComma a σ = some σ') : cl_Met true l D c0 yX0_readComma cX0_readComma 1 none 2 42 [.ref (c0 + a)] σ none cl_no σ' :=
  cl_of (by decide) (Nat.le_of_ble_eq_true rfl) (fun p e s m args below meth c ls C hn G hl => wc_X0_readComma_0 C h G ha hl)
abbrev cX0_hasB : ByteArray := prog_2_method_17_code
def yX0_hasB : MethodName := ⟨RX0, "hasB", "(I)Z"⟩
theorem dX0_hasB_0 : decode cX0_hasB 0 = .ok (.iload_n 0, 1) := by decide +kernel
theorem dX0_hasB_1 : decode cX0_hasB 1 = .ok (.iconst 1, 1) := by decide +kernel
theorem dX0_hasB_2 : decode cX0_hasB 2 = .ok (.if_icmp .lt 13, 3) := by decide +kernel
theorem dX0_hasB_5 : decode cX0_hasB 5 = .ok (.iload_n 0, 1) := by decide +kernel
theorem dX0_hasB_6 : decode cX0_hasB 6 = .ok (.bipush 11, 2) := by decide +kernel
theorem dX0_hasB_8 : decode cX0_hasB 8 = .ok (.if_icmp .gt 7, 3) := by decide +kernel
theorem dX0_hasB_11 : decode cX0_hasB 11 = .ok (.iconst 1, 1) := by decide +kernel
theorem dX0_hasB_12 : decode cX0_hasB 12 = .ok (.goto 4, 3) := by decide +kernel
theorem dX0_hasB_15 : decode cX0_hasB 15 = .ok (.iconst 0, 1) := by decide +kernel
theorem dX0_hasB_16 : decode cX0_hasB 16 = .ok (.ireturn, 1) := by decide +kernel
theorem cc_X0_hasB : Cond.code yX0_hasB cX0_hasB 1 (some .boolean) ∈ rf_tb := rf_at 880 (by decide +kernel) (by decide +kernel)
noncomputable def bc_X0_hasB_0 (x0 : Int32) (σ : cl_S) : Option (Int32 × cl_S) := (if x0 < (1:Int32) then some ((0:Int32), σ) else (if (11:Int32) < x0 then some ((0:Int32), σ) else some ((1:Int32), σ)))
set_option maxHeartbeats 4000000 in
theorem wc_X0_hasB_0 (C : cl_C D p s m args meth c cX0_hasB 1 (some .boolean) RX0) {r : Int32} {x0 : Int32} {σ0 σ σ' : cl_S} {T : Nat → Nat × Nat} {H : Heap} {locs : List Loc} {ls : Array Slot} {cells slots : Nat} (h : bc_X0_hasB_0 x0 σ = some (r, σ')) (G : cl_G true D c0 ({ frames := 0, cells := σ0.2.2.2.2.2.1, slots := σ0.2.2.2.2.2.2, locals := 0 }) s σ0.2.2.2.1 T σ H locs cells slots) (hl : lv_has ls 1 [(0, .int x0)]) : W p l e ({ frames := 0, cells := σ0.2.2.2.2.2.1, slots := σ0.2.2.2.2.2.2, locals := 0 }) s m args below meth c H locs cells slots (MQ below (cl_Q true D c0 (some (.int r)) cl_no σ0 σ') args s (σ0.2.2.2.2.2.1 - σ'.2.2.2.2.2.1) (σ0.2.2.2.2.2.2 - σ'.2.2.2.2.2.2) (cl_A c0 σ0.2.2.2.1 s.heap.size)) (F0 m 0 ls []) := by
  unfold bc_X0_hasB_0 at h
  refine lv_iload_n C.1 C.2.1 dX0_hasB_0 rfl (lv_at hl 0 rfl) ?_
  refine lv_iconst (v := (1:Int32)) C.1 C.2.1 dX0_hasB_1 (by decide) ?_
  refine lv_icmp_lt (tgt := 15) C.1 C.2.1 dX0_hasB_2 (by decide) (fun hc => ?_) (fun hc => ?_)
  · rw [if_pos hc] at h
    refine lv_iconst (v := (0:Int32)) C.1 C.2.1 dX0_hasB_15 (by decide) ?_
    exact cl_zret ⟨rfl, rfl⟩ rfl C G h rfl dX0_hasB_16
  · rw [if_neg hc] at h
    refine lv_iload_n C.1 C.2.1 dX0_hasB_5 rfl (lv_at hl 0 rfl) ?_
    refine lv_bipush (v := (11:Int32)) C.1 C.2.1 dX0_hasB_6 (by decide) ?_
    refine lv_icmp_gt (tgt := 15) C.1 C.2.1 dX0_hasB_8 (by decide) (fun hc => ?_) (fun hc => ?_)
    · rw [if_pos hc] at h
      refine lv_iconst (v := (0:Int32)) C.1 C.2.1 dX0_hasB_15 (by decide) ?_
      exact cl_zret ⟨rfl, rfl⟩ rfl C G h rfl dX0_hasB_16
    · rw [if_neg hc] at h
      refine lv_iconst (v := (1:Int32)) C.1 C.2.1 dX0_hasB_11 (by decide) ?_
      refine lv_goto (tgt := 16) C.1 C.2.1 dX0_hasB_12 (by decide) ?_
      exact cl_zret ⟨rfl, rfl⟩ rfl C G h rfl dX0_hasB_16
noncomputable def fc_X0_hasB (x0 : Int32) (σ : cl_S) : Option (Int32 × cl_S) := bc_X0_hasB_0 x0 σ
theorem kc_X0_hasB (l : Launch) (D : cl_D) (c0 : Nat) {r : Int32} {x0 : Int32} {σ σ' : cl_S} (h : fc_X0_hasB x0 σ = some (r, σ')) : cl_Met true l D c0 yX0_hasB cX0_hasB 1 (some .boolean) 0 0 [.int x0] σ (some (.int r)) cl_no σ' :=
  cl_of (by decide) (Nat.le_of_ble_eq_true rfl) (fun p e s m args below meth c ls C hn G hl => wc_X0_hasB_0 C h G  hl)
abbrev cX0_hasM : ByteArray := prog_2_method_18_code
def yX0_hasM : MethodName := ⟨RX0, "hasM", "(I)Z"⟩
theorem dX0_hasM_0 : decode cX0_hasM 0 = .ok (.iload_n 0, 1) := by decide +kernel
theorem dX0_hasM_1 : decode cX0_hasM 1 = .ok (.bipush 12, 2) := by decide +kernel
theorem dX0_hasM_3 : decode cX0_hasM 3 = .ok (.if_icmp .lt 13, 3) := by decide +kernel
theorem dX0_hasM_6 : decode cX0_hasM 6 = .ok (.iload_n 0, 1) := by decide +kernel
theorem dX0_hasM_7 : decode cX0_hasM 7 = .ok (.bipush 38, 2) := by decide +kernel
theorem dX0_hasM_9 : decode cX0_hasM 9 = .ok (.if_icmp .gt 7, 3) := by decide +kernel
theorem dX0_hasM_12 : decode cX0_hasM 12 = .ok (.iconst 1, 1) := by decide +kernel
theorem dX0_hasM_13 : decode cX0_hasM 13 = .ok (.goto 4, 3) := by decide +kernel
theorem dX0_hasM_16 : decode cX0_hasM 16 = .ok (.iconst 0, 1) := by decide +kernel
theorem dX0_hasM_17 : decode cX0_hasM 17 = .ok (.ireturn, 1) := by decide +kernel
theorem cc_X0_hasM : Cond.code yX0_hasM cX0_hasM 1 (some .boolean) ∈ rf_tb := rf_at 883 (by decide +kernel) (by decide +kernel)
noncomputable def bc_X0_hasM_0 (x0 : Int32) (σ : cl_S) : Option (Int32 × cl_S) := (if x0 < (12:Int32) then some ((0:Int32), σ) else (if (38:Int32) < x0 then some ((0:Int32), σ) else some ((1:Int32), σ)))
set_option maxHeartbeats 4000000 in
theorem wc_X0_hasM_0 (C : cl_C D p s m args meth c cX0_hasM 1 (some .boolean) RX0) {r : Int32} {x0 : Int32} {σ0 σ σ' : cl_S} {T : Nat → Nat × Nat} {H : Heap} {locs : List Loc} {ls : Array Slot} {cells slots : Nat} (h : bc_X0_hasM_0 x0 σ = some (r, σ')) (G : cl_G true D c0 ({ frames := 0, cells := σ0.2.2.2.2.2.1, slots := σ0.2.2.2.2.2.2, locals := 0 }) s σ0.2.2.2.1 T σ H locs cells slots) (hl : lv_has ls 1 [(0, .int x0)]) : W p l e ({ frames := 0, cells := σ0.2.2.2.2.2.1, slots := σ0.2.2.2.2.2.2, locals := 0 }) s m args below meth c H locs cells slots (MQ below (cl_Q true D c0 (some (.int r)) cl_no σ0 σ') args s (σ0.2.2.2.2.2.1 - σ'.2.2.2.2.2.1) (σ0.2.2.2.2.2.2 - σ'.2.2.2.2.2.2) (cl_A c0 σ0.2.2.2.1 s.heap.size)) (F0 m 0 ls []) := by
  unfold bc_X0_hasM_0 at h
  refine lv_iload_n C.1 C.2.1 dX0_hasM_0 rfl (lv_at hl 0 rfl) ?_
  refine lv_bipush (v := (12:Int32)) C.1 C.2.1 dX0_hasM_1 (by decide) ?_
  refine lv_icmp_lt (tgt := 16) C.1 C.2.1 dX0_hasM_3 (by decide) (fun hc => ?_) (fun hc => ?_)
  · rw [if_pos hc] at h
    refine lv_iconst (v := (0:Int32)) C.1 C.2.1 dX0_hasM_16 (by decide) ?_
    exact cl_zret ⟨rfl, rfl⟩ rfl C G h rfl dX0_hasM_17
  · rw [if_neg hc] at h
    refine lv_iload_n C.1 C.2.1 dX0_hasM_6 rfl (lv_at hl 0 rfl) ?_
    refine lv_bipush (v := (38:Int32)) C.1 C.2.1 dX0_hasM_7 (by decide) ?_
    refine lv_icmp_gt (tgt := 16) C.1 C.2.1 dX0_hasM_9 (by decide) (fun hc => ?_) (fun hc => ?_)
    · rw [if_pos hc] at h
      refine lv_iconst (v := (0:Int32)) C.1 C.2.1 dX0_hasM_16 (by decide) ?_
      exact cl_zret ⟨rfl, rfl⟩ rfl C G h rfl dX0_hasM_17
    · rw [if_neg hc] at h
      refine lv_iconst (v := (1:Int32)) C.1 C.2.1 dX0_hasM_12 (by decide) ?_
      refine lv_goto (tgt := 17) C.1 C.2.1 dX0_hasM_13 (by decide) ?_
      exact cl_zret ⟨rfl, rfl⟩ rfl C G h rfl dX0_hasM_17
noncomputable def fc_X0_hasM (x0 : Int32) (σ : cl_S) : Option (Int32 × cl_S) := bc_X0_hasM_0 x0 σ
theorem kc_X0_hasM (l : Launch) (D : cl_D) (c0 : Nat) {r : Int32} {x0 : Int32} {σ σ' : cl_S} (h : fc_X0_hasM x0 σ = some (r, σ')) : cl_Met true l D c0 yX0_hasM cX0_hasM 1 (some .boolean) 0 0 [.int x0] σ (some (.int r)) cl_no σ' :=
  cl_of (by decide) (Nat.le_of_ble_eq_true rfl) (fun p e s m args below meth c ls C hn G hl => wc_X0_hasM_0 C h G  hl)
abbrev cX0_readInstruction : ByteArray := prog_2_method_14_code
def yX0_readInstruction : MethodName := ⟨RX0, "readInstruction", "(I)I"⟩
theorem dX0_readInstruction_0 : decode cX0_readInstruction 0 = .ok (.iload_n 1, 1) := by decide +kernel
theorem dX0_readInstruction_1 : decode cX0_readInstruction 1 = .ok (.bipush 26, 2) := by decide +kernel
theorem dX0_readInstruction_3 : decode cX0_readInstruction 3 = .ok (.ishl, 1) := by decide +kernel
theorem dX0_readInstruction_4 : decode cX0_readInstruction 4 = .ok (.istore_n 2, 1) := by decide +kernel
theorem dX0_readInstruction_5 : decode cX0_readInstruction 5 = .ok (.iload_n 1, 1) := by decide +kernel
theorem dX0_readInstruction_6 : decode cX0_readInstruction 6 = .ok (.invokestatic 143, 3) := by decide +kernel
theorem dX0_readInstruction_9 : decode cX0_readInstruction 9 = .ok (.ifCond .eq 13, 3) := by decide +kernel
theorem dX0_readInstruction_12 : decode cX0_readInstruction 12 = .ok (.iload_n 2, 1) := by decide +kernel
theorem dX0_readInstruction_13 : decode cX0_readInstruction 13 = .ok (.aload_n 0, 1) := by decide +kernel
theorem dX0_readInstruction_14 : decode cX0_readInstruction 14 = .ok (.invokevirtual 147, 3) := by decide +kernel
theorem dX0_readInstruction_17 : decode cX0_readInstruction 17 = .ok (.bipush 22, 2) := by decide +kernel
theorem dX0_readInstruction_19 : decode cX0_readInstruction 19 = .ok (.ishl, 1) := by decide +kernel
theorem dX0_readInstruction_20 : decode cX0_readInstruction 20 = .ok (.ior, 1) := by decide +kernel
theorem dX0_readInstruction_21 : decode cX0_readInstruction 21 = .ok (.istore_n 2, 1) := by decide +kernel
theorem dX0_readInstruction_22 : decode cX0_readInstruction 22 = .ok (.iload_n 1, 1) := by decide +kernel
theorem dX0_readInstruction_23 : decode cX0_readInstruction 23 = .ok (.invokestatic 150, 3) := by decide +kernel
theorem dX0_readInstruction_26 : decode cX0_readInstruction 26 = .ok (.ifCond .eq 17, 3) := by decide +kernel
theorem dX0_readInstruction_29 : decode cX0_readInstruction 29 = .ok (.aload_n 0, 1) := by decide +kernel
theorem dX0_readInstruction_30 : decode cX0_readInstruction 30 = .ok (.invokevirtual 153, 3) := by decide +kernel
theorem dX0_readInstruction_33 : decode cX0_readInstruction 33 = .ok (.iload_n 2, 1) := by decide +kernel
theorem dX0_readInstruction_34 : decode cX0_readInstruction 34 = .ok (.aload_n 0, 1) := by decide +kernel
theorem dX0_readInstruction_35 : decode cX0_readInstruction 35 = .ok (.invokevirtual 147, 3) := by decide +kernel
theorem dX0_readInstruction_38 : decode cX0_readInstruction 38 = .ok (.bipush 18, 2) := by decide +kernel
theorem dX0_readInstruction_40 : decode cX0_readInstruction 40 = .ok (.ishl, 1) := by decide +kernel
theorem dX0_readInstruction_41 : decode cX0_readInstruction 41 = .ok (.ior, 1) := by decide +kernel
theorem dX0_readInstruction_42 : decode cX0_readInstruction 42 = .ok (.istore_n 2, 1) := by decide +kernel
theorem dX0_readInstruction_43 : decode cX0_readInstruction 43 = .ok (.iload_n 1, 1) := by decide +kernel
theorem dX0_readInstruction_44 : decode cX0_readInstruction 44 = .ok (.invokestatic 156, 3) := by decide +kernel
theorem dX0_readInstruction_47 : decode cX0_readInstruction 47 = .ok (.ifCond .eq 17, 3) := by decide +kernel
theorem dX0_readInstruction_50 : decode cX0_readInstruction 50 = .ok (.aload_n 0, 1) := by decide +kernel
theorem dX0_readInstruction_51 : decode cX0_readInstruction 51 = .ok (.invokevirtual 153, 3) := by decide +kernel
theorem dX0_readInstruction_54 : decode cX0_readInstruction 54 = .ok (.iload_n 2, 1) := by decide +kernel
theorem dX0_readInstruction_55 : decode cX0_readInstruction 55 = .ok (.aload_n 0, 1) := by decide +kernel
theorem dX0_readInstruction_56 : decode cX0_readInstruction 56 = .ok (.invokevirtual 147, 3) := by decide +kernel
theorem dX0_readInstruction_59 : decode cX0_readInstruction 59 = .ok (.bipush 14, 2) := by decide +kernel
theorem dX0_readInstruction_61 : decode cX0_readInstruction 61 = .ok (.ishl, 1) := by decide +kernel
theorem dX0_readInstruction_62 : decode cX0_readInstruction 62 = .ok (.ior, 1) := by decide +kernel
theorem dX0_readInstruction_63 : decode cX0_readInstruction 63 = .ok (.istore_n 2, 1) := by decide +kernel
theorem dX0_readInstruction_64 : decode cX0_readInstruction 64 = .ok (.iload_n 1, 1) := by decide +kernel
theorem dX0_readInstruction_65 : decode cX0_readInstruction 65 = .ok (.invokestatic 159, 3) := by decide +kernel
theorem dX0_readInstruction_68 : decode cX0_readInstruction 68 = .ok (.ifCond .eq 26, 3) := by decide +kernel
theorem dX0_readInstruction_71 : decode cX0_readInstruction 71 = .ok (.iload_n 1, 1) := by decide +kernel
theorem dX0_readInstruction_72 : decode cX0_readInstruction 72 = .ok (.invokestatic 143, 3) := by decide +kernel
theorem dX0_readInstruction_75 : decode cX0_readInstruction 75 = .ok (.ifCond .eq 7, 3) := by decide +kernel
theorem dX0_readInstruction_78 : decode cX0_readInstruction 78 = .ok (.aload_n 0, 1) := by decide +kernel
theorem dX0_readInstruction_79 : decode cX0_readInstruction 79 = .ok (.invokevirtual 153, 3) := by decide +kernel
theorem dX0_readInstruction_82 : decode cX0_readInstruction 82 = .ok (.iload_n 2, 1) := by decide +kernel
theorem dX0_readInstruction_83 : decode cX0_readInstruction 83 = .ok (.aload_n 0, 1) := by decide +kernel
theorem dX0_readInstruction_84 : decode cX0_readInstruction 84 = .ok (.iload_n 1, 1) := by decide +kernel
theorem dX0_readInstruction_85 : decode cX0_readInstruction 85 = .ok (.invokevirtual 126, 3) := by decide +kernel
theorem dX0_readInstruction_88 : decode cX0_readInstruction 88 = .ok (.l2i, 1) := by decide +kernel
theorem dX0_readInstruction_89 : decode cX0_readInstruction 89 = .ok (.ldc 162, 2) := by decide +kernel
theorem dX0_readInstruction_91 : decode cX0_readInstruction 91 = .ok (.iand, 1) := by decide +kernel
theorem dX0_readInstruction_92 : decode cX0_readInstruction 92 = .ok (.ior, 1) := by decide +kernel
theorem dX0_readInstruction_93 : decode cX0_readInstruction 93 = .ok (.istore_n 2, 1) := by decide +kernel
theorem dX0_readInstruction_94 : decode cX0_readInstruction 94 = .ok (.iload_n 2, 1) := by decide +kernel
theorem dX0_readInstruction_95 : decode cX0_readInstruction 95 = .ok (.ireturn, 1) := by decide +kernel
theorem cc_X0_readInstruction : Cond.code yX0_readInstruction cX0_readInstruction 3 (some .int) ∈ rf_tb := rf_at 857 (by decide +kernel) (by decide +kernel)
theorem cw_RX0_126 : cl_wV RX0 RX0 yX0_readValue cX0_readValue 5 (some .long) 126 1 := ⟨⟨rf_at 817 (by decide +kernel) (by decide +kernel), rf_at 819 (by decide +kernel) (by decide +kernel), rf_sel (q := (yX0_readValue, 16)) 13 (by decide +kernel) (by decide +kernel), cc_X0_readValue, rf_at 3 (by decide +kernel) (by decide +kernel)⟩, ⟨by decide, by decide, by decide +kernel⟩⟩
theorem cw_RX0_147 : cl_wV RX0 RX0 yX0_readRegister cX0_readRegister 2 (some .int) 147 0 := ⟨⟨rf_at 861 (by decide +kernel) (by decide +kernel), rf_at 863 (by decide +kernel) (by decide +kernel), rf_sel (q := (yX0_readRegister, 16)) 18 (by decide +kernel) (by decide +kernel), cc_X0_readRegister, rf_at 3 (by decide +kernel) (by decide +kernel)⟩, ⟨by decide, by decide, by decide +kernel⟩⟩
theorem cw_RX0_150 : cl_wS RX0 yX0_hasA cX0_hasA 1 (some .boolean) 150 1 := ⟨⟨rf_at 871 (by decide +kernel) (by decide +kernel), rf_at 872 (by decide +kernel) (by decide +kernel), cc_X0_hasA, rf_at 3 (by decide +kernel) (by decide +kernel)⟩, ⟨by decide, by decide, by decide +kernel⟩⟩
theorem cw_RX0_153 : cl_wV RX0 RX0 yX0_readComma cX0_readComma 1 none 153 0 := ⟨⟨rf_at 874 (by decide +kernel) (by decide +kernel), rf_at 876 (by decide +kernel) (by decide +kernel), rf_sel (q := (yX0_readComma, 16)) 19 (by decide +kernel) (by decide +kernel), cc_X0_readComma, rf_at 3 (by decide +kernel) (by decide +kernel)⟩, ⟨by decide, by decide, by decide +kernel⟩⟩
theorem cw_RX0_156 : cl_wS RX0 yX0_hasB cX0_hasB 1 (some .boolean) 156 1 := ⟨⟨rf_at 878 (by decide +kernel) (by decide +kernel), rf_at 879 (by decide +kernel) (by decide +kernel), cc_X0_hasB, rf_at 3 (by decide +kernel) (by decide +kernel)⟩, ⟨by decide, by decide, by decide +kernel⟩⟩
theorem cw_RX0_159 : cl_wS RX0 yX0_hasM cX0_hasM 1 (some .boolean) 159 1 := ⟨⟨rf_at 881 (by decide +kernel) (by decide +kernel), rf_at 882 (by decide +kernel) (by decide +kernel), cc_X0_hasM, rf_at 3 (by decide +kernel) (by decide +kernel)⟩, ⟨by decide, by decide, by decide +kernel⟩⟩
theorem kc_RX0_162 : Cond.constant RX0 162 (262143 : Int32) ∈ rf_tb := rf_at 884 (by decide +kernel) (by decide +kernel)
noncomputable def bc_X0_readInstruction_82 (a : Nat) (x1 : Int32) (x2 : Int32) (σ : cl_S) : Option (Int32 × cl_S) := bd2 (fc_X0_readValue a x1 σ) (fun r_35 σ_34 => vl (x2 ||| ((r_35.toInt32) &&& (262143:Int32))) (fun x2_40 => some (x2_40, σ_34)))
set_option maxHeartbeats 4000000 in
theorem wc_X0_readInstruction_82 (C : cl_C D p s m args meth c cX0_readInstruction 3 (some .int) RX0) {r : Int32} {a : Nat} {x1 : Int32} {x2 : Int32} {σ0 σ σ' : cl_S} {T : Nat → Nat × Nat} {H : Heap} {locs : List Loc} {ls : Array Slot} {cells slots : Nat} (h : bc_X0_readInstruction_82 a x1 x2 σ = some (r, σ')) (G : cl_G true D c0 ({ frames := 3, cells := σ0.2.2.2.2.2.1, slots := σ0.2.2.2.2.2.2, locals := 66 }) s σ0.2.2.2.1 T σ H locs cells slots) (ha : (T a).1 = 16) (hl : lv_has ls 3 [(0, .ref (c0 + a)), (1, .int x1), (2, .int x2)]) : W p l e ({ frames := 3, cells := σ0.2.2.2.2.2.1, slots := σ0.2.2.2.2.2.2, locals := 66 }) s m args below meth c H locs cells slots (MQ below (cl_Q true D c0 (some (.int r)) cl_no σ0 σ') args s (σ0.2.2.2.2.2.1 - σ'.2.2.2.2.2.1) (σ0.2.2.2.2.2.2 - σ'.2.2.2.2.2.2) (cl_A c0 σ0.2.2.2.1 s.heap.size)) (F0 m 82 ls []) := by
  unfold bc_X0_readInstruction_82 at h
  refine lv_iload_n C.1 C.2.1 dX0_readInstruction_82 rfl (lv_at hl 2 rfl) ?_
  refine lv_aload_n C.1 C.2.1 dX0_readInstruction_83 rfl (lv_at hl 0 rfl) ?_
  refine lv_iload_n C.1 C.2.1 dX0_readInstruction_84 rfl (lv_at hl 1 rfl) ?_
  obtain ⟨r_35, σ_34, hq, h_36⟩ := bd2_some h
  refine cl_callV (ci := 0) (rest := [.int x2]) C G rfl ha cw_RX0_126 [.int x1] _ (kc_X0_readValue l D c0 (by rw [G.1]; exact ha) hq) (Nat.le_of_ble_eq_true rfl) (Nat.le_of_ble_eq_true rfl) rfl rfl hl.1 (Nat.le_of_ble_eq_true rfl) dX0_readInstruction_85 (fun T_37 H locs cells slots t_38 hu G_39 => ?_)
  have ha := hu.kind ha (by decide)
  refine W.eq (g2 := F0 m 88 ls [.long r_35, .int x2]) rfl ?_
  refine lv_l2i C.1 C.2.1 dX0_readInstruction_88 rfl ?_
  refine lv_ldc (v := (262143:Int32)) C.1 C.2.1 C.2.2.2.1 (C.2.2.2.2.1 _ kc_RX0_162) dX0_readInstruction_89 ?_
  refine lv_iand C.1 C.2.1 dX0_readInstruction_91 ?_
  refine lv_ior C.1 C.2.1 dX0_readInstruction_92 ?_
  refine vt_i h_36 (fun x2_40 h_41 => ?_)
  refine lv_istore_n (lv' := [(2, .int x2_40), (0, .ref (c0 + a)), (1, .int x1)]) C.1 C.2.1 dX0_readInstruction_93 rfl hl (by decide) rfl (fun ls hl_42 => ?_)
  refine lv_iload_n C.1 C.2.1 dX0_readInstruction_94 rfl (lv_at hl_42 0 rfl) ?_
  exact cl_iret ⟨rfl, rfl⟩ rfl C G_39 h_41 dX0_readInstruction_95
noncomputable def bc_X0_readInstruction_64 (a : Nat) (x1 : Int32) (x2 : Int32) (σ : cl_S) : Option (Int32 × cl_S) := bd2 (fc_X0_hasM x1 σ) (fun r_23 σ_22 => (if r_23 = 0 then some (x2, σ_22) else bd2 (fc_X0_hasD x1 σ_22) (fun r_29 σ_28 => (if r_29 = 0 then bc_X0_readInstruction_82 a x1 x2 σ_28 else bd1 (fc_X0_readComma a σ_28) (fun σ_43 => bc_X0_readInstruction_82 a x1 x2 σ_43)))))
set_option maxHeartbeats 4000000 in
theorem wc_X0_readInstruction_64 (C : cl_C D p s m args meth c cX0_readInstruction 3 (some .int) RX0) {r : Int32} {a : Nat} {x1 : Int32} {x2 : Int32} {σ0 σ σ' : cl_S} {T : Nat → Nat × Nat} {H : Heap} {locs : List Loc} {ls : Array Slot} {cells slots : Nat} (h : bc_X0_readInstruction_64 a x1 x2 σ = some (r, σ')) (G : cl_G true D c0 ({ frames := 3, cells := σ0.2.2.2.2.2.1, slots := σ0.2.2.2.2.2.2, locals := 66 }) s σ0.2.2.2.1 T σ H locs cells slots) (ha : (T a).1 = 16) (hl : lv_has ls 3 [(0, .ref (c0 + a)), (1, .int x1), (2, .int x2)]) : W p l e ({ frames := 3, cells := σ0.2.2.2.2.2.1, slots := σ0.2.2.2.2.2.2, locals := 66 }) s m args below meth c H locs cells slots (MQ below (cl_Q true D c0 (some (.int r)) cl_no σ0 σ') args s (σ0.2.2.2.2.2.1 - σ'.2.2.2.2.2.1) (σ0.2.2.2.2.2.2 - σ'.2.2.2.2.2.2) (cl_A c0 σ0.2.2.2.1 s.heap.size)) (F0 m 64 ls []) := by
  unfold bc_X0_readInstruction_64 at h
  refine lv_iload_n C.1 C.2.1 dX0_readInstruction_64 rfl (lv_at hl 1 rfl) ?_
  obtain ⟨r_23, σ_22, hq, h_24⟩ := bd2_some h
  refine cl_callS (rest := []) C G cw_RX0_159 [.int x1] _ (kc_X0_hasM l D c0 hq) (Nat.le_of_ble_eq_true rfl) (Nat.le_of_ble_eq_true rfl) rfl rfl hl.1 (Nat.le_of_ble_eq_true rfl) dX0_readInstruction_65 (fun T_25 H locs cells slots t_26 hu G_27 => ?_)
  have ha := hu.kind ha (by decide)
  refine W.eq (g2 := F0 m 68 ls [.int r_23]) rfl ?_
  refine lv_if_eq (tgt := 94) C.1 C.2.1 dX0_readInstruction_68 (by decide) (fun hc => ?_) (fun hc => ?_)
  · rw [if_pos hc] at h_24
    refine lv_iload_n C.1 C.2.1 dX0_readInstruction_94 rfl (lv_at hl 2 rfl) ?_
    exact cl_iret ⟨rfl, rfl⟩ rfl C G_27 h_24 dX0_readInstruction_95
  · rw [if_neg hc] at h_24
    refine lv_iload_n C.1 C.2.1 dX0_readInstruction_71 rfl (lv_at hl 1 rfl) ?_
    obtain ⟨r_29, σ_28, hq, h_30⟩ := bd2_some h_24
    refine cl_callS (rest := []) C G_27 cw_RX0_143 [.int x1] _ (kc_X0_hasD l D c0 hq) (Nat.le_of_ble_eq_true rfl) (Nat.le_of_ble_eq_true rfl) rfl rfl hl.1 (Nat.le_of_ble_eq_true rfl) dX0_readInstruction_72 (fun T_31 H locs cells slots t_32 hu G_33 => ?_)
    have ha := hu.kind ha (by decide)
    refine W.eq (g2 := F0 m 75 ls [.int r_29]) rfl ?_
    refine lv_if_eq (tgt := 82) C.1 C.2.1 dX0_readInstruction_75 (by decide) (fun hc => ?_) (fun hc => ?_)
    · rw [if_pos hc] at h_30
      exact wc_X0_readInstruction_82 C h_30 G_33 ha (lv_sub hl [0, 1, 2] rfl)
    · rw [if_neg hc] at h_30
      refine lv_aload_n C.1 C.2.1 dX0_readInstruction_78 rfl (lv_at hl 0 rfl) ?_
      obtain ⟨σ_43, hq, h_44⟩ := bd1_some h_30
      refine cl_callV (ci := 0) (rest := []) C G_33 rfl ha cw_RX0_153 [] _ (kc_X0_readComma l D c0 (by rw [G_33.1]; exact ha) hq) (Nat.le_of_ble_eq_true rfl) (Nat.le_of_ble_eq_true rfl) rfl rfl hl.1 (Nat.le_of_ble_eq_true rfl) dX0_readInstruction_79 (fun T_45 H locs cells slots t_46 hu G_47 => ?_)
      have ha := hu.kind ha (by decide)
      refine W.eq (g2 := F0 m 82 ls []) rfl ?_
      exact wc_X0_readInstruction_82 C h_44 G_47 ha (lv_sub hl [0, 1, 2] rfl)
noncomputable def bc_X0_readInstruction_43 (a : Nat) (x1 : Int32) (x2 : Int32) (σ : cl_S) : Option (Int32 × cl_S) := bd2 (fc_X0_hasB x1 σ) (fun r_17 σ_16 => (if r_17 = 0 then bc_X0_readInstruction_64 a x1 x2 σ_16 else bd1 (fc_X0_readComma a σ_16) (fun σ_48 => bd2 (fc_X0_readRegister a σ_48) (fun r_54 σ_53 => vl (x2 ||| (r_54 <<< ((14:Int32) &&& 31))) (fun x2_59 => bc_X0_readInstruction_64 a x1 x2_59 σ_53)))))
set_option maxHeartbeats 4000000 in
theorem wc_X0_readInstruction_43 (C : cl_C D p s m args meth c cX0_readInstruction 3 (some .int) RX0) {r : Int32} {a : Nat} {x1 : Int32} {x2 : Int32} {σ0 σ σ' : cl_S} {T : Nat → Nat × Nat} {H : Heap} {locs : List Loc} {ls : Array Slot} {cells slots : Nat} (h : bc_X0_readInstruction_43 a x1 x2 σ = some (r, σ')) (G : cl_G true D c0 ({ frames := 3, cells := σ0.2.2.2.2.2.1, slots := σ0.2.2.2.2.2.2, locals := 66 }) s σ0.2.2.2.1 T σ H locs cells slots) (ha : (T a).1 = 16) (hl : lv_has ls 3 [(0, .ref (c0 + a)), (1, .int x1), (2, .int x2)]) : W p l e ({ frames := 3, cells := σ0.2.2.2.2.2.1, slots := σ0.2.2.2.2.2.2, locals := 66 }) s m args below meth c H locs cells slots (MQ below (cl_Q true D c0 (some (.int r)) cl_no σ0 σ') args s (σ0.2.2.2.2.2.1 - σ'.2.2.2.2.2.1) (σ0.2.2.2.2.2.2 - σ'.2.2.2.2.2.2) (cl_A c0 σ0.2.2.2.1 s.heap.size)) (F0 m 43 ls []) := by
  unfold bc_X0_readInstruction_43 at h
  refine lv_iload_n C.1 C.2.1 dX0_readInstruction_43 rfl (lv_at hl 1 rfl) ?_
  obtain ⟨r_17, σ_16, hq, h_18⟩ := bd2_some h
  refine cl_callS (rest := []) C G cw_RX0_156 [.int x1] _ (kc_X0_hasB l D c0 hq) (Nat.le_of_ble_eq_true rfl) (Nat.le_of_ble_eq_true rfl) rfl rfl hl.1 (Nat.le_of_ble_eq_true rfl) dX0_readInstruction_44 (fun T_19 H locs cells slots t_20 hu G_21 => ?_)
  have ha := hu.kind ha (by decide)
  refine W.eq (g2 := F0 m 47 ls [.int r_17]) rfl ?_
  refine lv_if_eq (tgt := 64) C.1 C.2.1 dX0_readInstruction_47 (by decide) (fun hc => ?_) (fun hc => ?_)
  · rw [if_pos hc] at h_18
    exact wc_X0_readInstruction_64 C h_18 G_21 ha (lv_sub hl [0, 1, 2] rfl)
  · rw [if_neg hc] at h_18
    refine lv_aload_n C.1 C.2.1 dX0_readInstruction_50 rfl (lv_at hl 0 rfl) ?_
    obtain ⟨σ_48, hq, h_49⟩ := bd1_some h_18
    refine cl_callV (ci := 0) (rest := []) C G_21 rfl ha cw_RX0_153 [] _ (kc_X0_readComma l D c0 (by rw [G_21.1]; exact ha) hq) (Nat.le_of_ble_eq_true rfl) (Nat.le_of_ble_eq_true rfl) rfl rfl hl.1 (Nat.le_of_ble_eq_true rfl) dX0_readInstruction_51 (fun T_50 H locs cells slots t_51 hu G_52 => ?_)
    have ha := hu.kind ha (by decide)
    refine W.eq (g2 := F0 m 54 ls []) rfl ?_
    refine lv_iload_n C.1 C.2.1 dX0_readInstruction_54 rfl (lv_at hl 2 rfl) ?_
    refine lv_aload_n C.1 C.2.1 dX0_readInstruction_55 rfl (lv_at hl 0 rfl) ?_
    obtain ⟨r_54, σ_53, hq, h_55⟩ := bd2_some h_49
    refine cl_callV (ci := 0) (rest := [.int x2]) C G_52 rfl ha cw_RX0_147 [] _ (kc_X0_readRegister l D c0 (by rw [G_52.1]; exact ha) hq) (Nat.le_of_ble_eq_true rfl) (Nat.le_of_ble_eq_true rfl) rfl rfl hl.1 (Nat.le_of_ble_eq_true rfl) dX0_readInstruction_56 (fun T_56 H locs cells slots t_57 hu G_58 => ?_)
    have ha := hu.kind ha (by decide)
    refine W.eq (g2 := F0 m 59 ls [.int r_54, .int x2]) rfl ?_
    refine lv_bipush (v := (14:Int32)) C.1 C.2.1 dX0_readInstruction_59 (by decide) ?_
    refine lv_ishl C.1 C.2.1 dX0_readInstruction_61 ?_
    refine lv_ior C.1 C.2.1 dX0_readInstruction_62 ?_
    refine vt_i h_55 (fun x2_59 h_60 => ?_)
    refine lv_istore_n (lv' := [(2, .int x2_59), (0, .ref (c0 + a)), (1, .int x1)]) C.1 C.2.1 dX0_readInstruction_63 rfl hl (by decide) rfl (fun ls hl_61 => ?_)
    exact wc_X0_readInstruction_64 C h_60 G_58 ha (lv_sub hl_61 [1, 2, 0] rfl)
noncomputable def bc_X0_readInstruction_22 (a : Nat) (x1 : Int32) (x2 : Int32) (σ : cl_S) : Option (Int32 × cl_S) := bd2 (fc_X0_hasA x1 σ) (fun r_11 σ_10 => (if r_11 = 0 then bc_X0_readInstruction_43 a x1 x2 σ_10 else bd1 (fc_X0_readComma a σ_10) (fun σ_62 => bd2 (fc_X0_readRegister a σ_62) (fun r_68 σ_67 => vl (x2 ||| (r_68 <<< ((18:Int32) &&& 31))) (fun x2_73 => bc_X0_readInstruction_43 a x1 x2_73 σ_67)))))
set_option maxHeartbeats 4000000 in
theorem wc_X0_readInstruction_22 (C : cl_C D p s m args meth c cX0_readInstruction 3 (some .int) RX0) {r : Int32} {a : Nat} {x1 : Int32} {x2 : Int32} {σ0 σ σ' : cl_S} {T : Nat → Nat × Nat} {H : Heap} {locs : List Loc} {ls : Array Slot} {cells slots : Nat} (h : bc_X0_readInstruction_22 a x1 x2 σ = some (r, σ')) (G : cl_G true D c0 ({ frames := 3, cells := σ0.2.2.2.2.2.1, slots := σ0.2.2.2.2.2.2, locals := 66 }) s σ0.2.2.2.1 T σ H locs cells slots) (ha : (T a).1 = 16) (hl : lv_has ls 3 [(0, .ref (c0 + a)), (1, .int x1), (2, .int x2)]) : W p l e ({ frames := 3, cells := σ0.2.2.2.2.2.1, slots := σ0.2.2.2.2.2.2, locals := 66 }) s m args below meth c H locs cells slots (MQ below (cl_Q true D c0 (some (.int r)) cl_no σ0 σ') args s (σ0.2.2.2.2.2.1 - σ'.2.2.2.2.2.1) (σ0.2.2.2.2.2.2 - σ'.2.2.2.2.2.2) (cl_A c0 σ0.2.2.2.1 s.heap.size)) (F0 m 22 ls []) := by
  unfold bc_X0_readInstruction_22 at h
  refine lv_iload_n C.1 C.2.1 dX0_readInstruction_22 rfl (lv_at hl 1 rfl) ?_
  obtain ⟨r_11, σ_10, hq, h_12⟩ := bd2_some h
  refine cl_callS (rest := []) C G cw_RX0_150 [.int x1] _ (kc_X0_hasA l D c0 hq) (Nat.le_of_ble_eq_true rfl) (Nat.le_of_ble_eq_true rfl) rfl rfl hl.1 (Nat.le_of_ble_eq_true rfl) dX0_readInstruction_23 (fun T_13 H locs cells slots t_14 hu G_15 => ?_)
  have ha := hu.kind ha (by decide)
  refine W.eq (g2 := F0 m 26 ls [.int r_11]) rfl ?_
  refine lv_if_eq (tgt := 43) C.1 C.2.1 dX0_readInstruction_26 (by decide) (fun hc => ?_) (fun hc => ?_)
  · rw [if_pos hc] at h_12
    exact wc_X0_readInstruction_43 C h_12 G_15 ha (lv_sub hl [0, 1, 2] rfl)
  · rw [if_neg hc] at h_12
    refine lv_aload_n C.1 C.2.1 dX0_readInstruction_29 rfl (lv_at hl 0 rfl) ?_
    obtain ⟨σ_62, hq, h_63⟩ := bd1_some h_12
    refine cl_callV (ci := 0) (rest := []) C G_15 rfl ha cw_RX0_153 [] _ (kc_X0_readComma l D c0 (by rw [G_15.1]; exact ha) hq) (Nat.le_of_ble_eq_true rfl) (Nat.le_of_ble_eq_true rfl) rfl rfl hl.1 (Nat.le_of_ble_eq_true rfl) dX0_readInstruction_30 (fun T_64 H locs cells slots t_65 hu G_66 => ?_)
    have ha := hu.kind ha (by decide)
    refine W.eq (g2 := F0 m 33 ls []) rfl ?_
    refine lv_iload_n C.1 C.2.1 dX0_readInstruction_33 rfl (lv_at hl 2 rfl) ?_
    refine lv_aload_n C.1 C.2.1 dX0_readInstruction_34 rfl (lv_at hl 0 rfl) ?_
    obtain ⟨r_68, σ_67, hq, h_69⟩ := bd2_some h_63
    refine cl_callV (ci := 0) (rest := [.int x2]) C G_66 rfl ha cw_RX0_147 [] _ (kc_X0_readRegister l D c0 (by rw [G_66.1]; exact ha) hq) (Nat.le_of_ble_eq_true rfl) (Nat.le_of_ble_eq_true rfl) rfl rfl hl.1 (Nat.le_of_ble_eq_true rfl) dX0_readInstruction_35 (fun T_70 H locs cells slots t_71 hu G_72 => ?_)
    have ha := hu.kind ha (by decide)
    refine W.eq (g2 := F0 m 38 ls [.int r_68, .int x2]) rfl ?_
    refine lv_bipush (v := (18:Int32)) C.1 C.2.1 dX0_readInstruction_38 (by decide) ?_
    refine lv_ishl C.1 C.2.1 dX0_readInstruction_40 ?_
    refine lv_ior C.1 C.2.1 dX0_readInstruction_41 ?_
    refine vt_i h_69 (fun x2_73 h_74 => ?_)
    refine lv_istore_n (lv' := [(2, .int x2_73), (0, .ref (c0 + a)), (1, .int x1)]) C.1 C.2.1 dX0_readInstruction_42 rfl hl (by decide) rfl (fun ls hl_75 => ?_)
    exact wc_X0_readInstruction_43 C h_74 G_72 ha (lv_sub hl_75 [1, 2, 0] rfl)
noncomputable def bc_X0_readInstruction_0 (a : Nat) (x1 : Int32) (σ : cl_S) : Option (Int32 × cl_S) := vl (x1 <<< ((26:Int32) &&& 31)) (fun x2_1 => bd2 (fc_X0_hasD x1 σ) (fun r_5 σ_4 => (if r_5 = 0 then bc_X0_readInstruction_22 a x1 x2_1 σ_4 else bd2 (fc_X0_readRegister a σ_4) (fun r_77 σ_76 => vl (x2_1 ||| (r_77 <<< ((22:Int32) &&& 31))) (fun x2_82 => bc_X0_readInstruction_22 a x1 x2_82 σ_76)))))
set_option maxHeartbeats 4000000 in
theorem wc_X0_readInstruction_0 (C : cl_C D p s m args meth c cX0_readInstruction 3 (some .int) RX0) {r : Int32} {a : Nat} {x1 : Int32} {σ0 σ σ' : cl_S} {T : Nat → Nat × Nat} {H : Heap} {locs : List Loc} {ls : Array Slot} {cells slots : Nat} (h : bc_X0_readInstruction_0 a x1 σ = some (r, σ')) (G : cl_G true D c0 ({ frames := 3, cells := σ0.2.2.2.2.2.1, slots := σ0.2.2.2.2.2.2, locals := 66 }) s σ0.2.2.2.1 T σ H locs cells slots) (ha : (T a).1 = 16) (hl : lv_has ls 3 [(0, .ref (c0 + a)), (1, .int x1)]) : W p l e ({ frames := 3, cells := σ0.2.2.2.2.2.1, slots := σ0.2.2.2.2.2.2, locals := 66 }) s m args below meth c H locs cells slots (MQ below (cl_Q true D c0 (some (.int r)) cl_no σ0 σ') args s (σ0.2.2.2.2.2.1 - σ'.2.2.2.2.2.1) (σ0.2.2.2.2.2.2 - σ'.2.2.2.2.2.2) (cl_A c0 σ0.2.2.2.1 s.heap.size)) (F0 m 0 ls []) := by
  unfold bc_X0_readInstruction_0 at h
  refine lv_iload_n C.1 C.2.1 dX0_readInstruction_0 rfl (lv_at hl 1 rfl) ?_
  refine lv_bipush (v := (26:Int32)) C.1 C.2.1 dX0_readInstruction_1 (by decide) ?_
  refine lv_ishl C.1 C.2.1 dX0_readInstruction_3 ?_
  refine vt_i h (fun x2_1 h_2 => ?_)
  refine lv_istore_n (lv' := [(2, .int x2_1), (0, .ref (c0 + a)), (1, .int x1)]) C.1 C.2.1 dX0_readInstruction_4 rfl hl (by decide) rfl (fun ls hl_3 => ?_)
  refine lv_iload_n C.1 C.2.1 dX0_readInstruction_5 rfl (lv_at hl_3 2 rfl) ?_
  obtain ⟨r_5, σ_4, hq, h_6⟩ := bd2_some h_2
  refine cl_callS (rest := []) C G cw_RX0_143 [.int x1] _ (kc_X0_hasD l D c0 hq) (Nat.le_of_ble_eq_true rfl) (Nat.le_of_ble_eq_true rfl) rfl rfl hl_3.1 (Nat.le_of_ble_eq_true rfl) dX0_readInstruction_6 (fun T_7 H locs cells slots t_8 hu G_9 => ?_)
  have ha := hu.kind ha (by decide)
  refine W.eq (g2 := F0 m 9 ls [.int r_5]) rfl ?_
  refine lv_if_eq (tgt := 22) C.1 C.2.1 dX0_readInstruction_9 (by decide) (fun hc => ?_) (fun hc => ?_)
  · rw [if_pos hc] at h_6
    exact wc_X0_readInstruction_22 C h_6 G_9 ha (lv_sub hl_3 [1, 2, 0] rfl)
  · rw [if_neg hc] at h_6
    refine lv_iload_n C.1 C.2.1 dX0_readInstruction_12 rfl (lv_at hl_3 0 rfl) ?_
    refine lv_aload_n C.1 C.2.1 dX0_readInstruction_13 rfl (lv_at hl_3 1 rfl) ?_
    obtain ⟨r_77, σ_76, hq, h_78⟩ := bd2_some h_6
    refine cl_callV (ci := 0) (rest := [.int x2_1]) C G_9 rfl ha cw_RX0_147 [] _ (kc_X0_readRegister l D c0 (by rw [G_9.1]; exact ha) hq) (Nat.le_of_ble_eq_true rfl) (Nat.le_of_ble_eq_true rfl) rfl rfl hl_3.1 (Nat.le_of_ble_eq_true rfl) dX0_readInstruction_14 (fun T_79 H locs cells slots t_80 hu G_81 => ?_)
    have ha := hu.kind ha (by decide)
    refine W.eq (g2 := F0 m 17 ls [.int r_77, .int x2_1]) rfl ?_
    refine lv_bipush (v := (22:Int32)) C.1 C.2.1 dX0_readInstruction_17 (by decide) ?_
    refine lv_ishl C.1 C.2.1 dX0_readInstruction_19 ?_
    refine lv_ior C.1 C.2.1 dX0_readInstruction_20 ?_
    refine vt_i h_78 (fun x2_82 h_83 => ?_)
    refine lv_istore_n (lv' := [(2, .int x2_82), (0, .ref (c0 + a)), (1, .int x1)]) C.1 C.2.1 dX0_readInstruction_21 rfl hl_3 (by decide) rfl (fun ls hl_84 => ?_)
    exact wc_X0_readInstruction_22 C h_83 G_81 ha (lv_sub hl_84 [1, 2, 0] rfl)
noncomputable def fc_X0_readInstruction (a : Nat) (x1 : Int32) (σ : cl_S) : Option (Int32 × cl_S) := bc_X0_readInstruction_0 a x1 σ
theorem kc_X0_readInstruction (l : Launch) (D : cl_D) (c0 : Nat) {r : Int32} {a : Nat} {x1 : Int32} {σ σ' : cl_S} (ha : (σ.2.2.2.1 a).1 = 16) (h : fc_X0_readInstruction a x1 σ = some (r, σ')) : cl_Met true l D c0 yX0_readInstruction cX0_readInstruction 3 (some .int) 3 66 [.ref (c0 + a), .int x1] σ (some (.int r)) cl_no σ' :=
  cl_of (by decide) (Nat.le_of_ble_eq_true rfl) (fun p e s m args below meth c ls C hn G hl => wc_X0_readInstruction_0 C h G ha hl)
abbrev cX0_readStatement : ByteArray := prog_2_method_11_code
def yX0_readStatement : MethodName := ⟨RX0, "readStatement", "(JI)V"⟩
theorem dX0_readStatement_0 : decode cX0_readStatement 0 = .ok (.aload_n 0, 1) := by decide +kernel
theorem dX0_readStatement_1 : decode cX0_readStatement 1 = .ok (.lload_n 1, 1) := by decide +kernel
theorem dX0_readStatement_2 : decode cX0_readStatement 2 = .ok (.invokevirtual 123, 3) := by decide +kernel
theorem dX0_readStatement_5 : decode cX0_readStatement 5 = .ok (.istore 4, 2) := by decide +kernel
theorem dX0_readStatement_7 : decode cX0_readStatement 7 = .ok (.iload 4, 2) := by decide +kernel
theorem dX0_readStatement_9 : decode cX0_readStatement 9 = .ok (.ifCond .ne 12, 3) := by decide +kernel
theorem dX0_readStatement_12 : decode cX0_readStatement 12 = .ok (.aload_n 0, 1) := by decide +kernel
theorem dX0_readStatement_13 : decode cX0_readStatement 13 = .ok (.iconst 3, 1) := by decide +kernel
theorem dX0_readStatement_14 : decode cX0_readStatement 14 = .ok (.iload_n 3, 1) := by decide +kernel
theorem dX0_readStatement_15 : decode cX0_readStatement 15 = .ok (.invokevirtual 99, 3) := by decide +kernel
theorem dX0_readStatement_18 : decode cX0_readStatement 18 = .ok (.goto 98, 3) := by decide +kernel
theorem dX0_readStatement_21 : decode cX0_readStatement 21 = .ok (.iload 4, 2) := by decide +kernel
theorem dX0_readStatement_23 : decode cX0_readStatement 23 = .ok (.bipush 41, 2) := by decide +kernel
theorem dX0_readStatement_25 : decode cX0_readStatement 25 = .ok (.if_icmp .ne 18, 3) := by decide +kernel
theorem dX0_readStatement_28 : decode cX0_readStatement 28 = .ok (.aload_n 0, 1) := by decide +kernel
theorem dX0_readStatement_29 : decode cX0_readStatement 29 = .ok (.aload_n 0, 1) := by decide +kernel
theorem dX0_readStatement_30 : decode cX0_readStatement 30 = .ok (.iload 4, 2) := by decide +kernel
theorem dX0_readStatement_32 : decode cX0_readStatement 32 = .ok (.invokevirtual 126, 3) := by decide +kernel
theorem dX0_readStatement_35 : decode cX0_readStatement 35 = .ok (.l2i, 1) := by decide +kernel
theorem dX0_readStatement_36 : decode cX0_readStatement 36 = .ok (.iload_n 3, 1) := by decide +kernel
theorem dX0_readStatement_37 : decode cX0_readStatement 37 = .ok (.invokevirtual 130, 3) := by decide +kernel
theorem dX0_readStatement_40 : decode cX0_readStatement 40 = .ok (.goto 76, 3) := by decide +kernel
theorem dX0_readStatement_43 : decode cX0_readStatement 43 = .ok (.aload_n 0, 1) := by decide +kernel
theorem dX0_readStatement_44 : decode cX0_readStatement 44 = .ok (.getfield 58, 3) := by decide +kernel
theorem dX0_readStatement_47 : decode cX0_readStatement 47 = .ok (.sipush 2048, 3) := by decide +kernel
theorem dX0_readStatement_50 : decode cX0_readStatement 50 = .ok (.if_icmp .lt 13, 3) := by decide +kernel
theorem dX0_readStatement_53 : decode cX0_readStatement 53 = .ok (.aload_n 0, 1) := by decide +kernel
theorem dX0_readStatement_54 : decode cX0_readStatement 54 = .ok (.bipush 6, 2) := by decide +kernel
theorem dX0_readStatement_56 : decode cX0_readStatement 56 = .ok (.iload_n 3, 1) := by decide +kernel
theorem dX0_readStatement_57 : decode cX0_readStatement 57 = .ok (.invokevirtual 99, 3) := by decide +kernel
theorem dX0_readStatement_60 : decode cX0_readStatement 60 = .ok (.goto 56, 3) := by decide +kernel
theorem dX0_readStatement_63 : decode cX0_readStatement 63 = .ok (.iload 4, 2) := by decide +kernel
theorem dX0_readStatement_65 : decode cX0_readStatement 65 = .ok (.bipush 40, 2) := by decide +kernel
theorem dX0_readStatement_67 : decode cX0_readStatement 67 = .ok (.if_icmp .ne 13, 3) := by decide +kernel
theorem dX0_readStatement_70 : decode cX0_readStatement 70 = .ok (.aload_n 0, 1) := by decide +kernel
theorem dX0_readStatement_71 : decode cX0_readStatement 71 = .ok (.iload 4, 2) := by decide +kernel
theorem dX0_readStatement_73 : decode cX0_readStatement 73 = .ok (.invokevirtual 126, 3) := by decide +kernel
theorem dX0_readStatement_76 : decode cX0_readStatement 76 = .ok (.l2i, 1) := by decide +kernel
theorem dX0_readStatement_77 : decode cX0_readStatement 77 = .ok (.goto 9, 3) := by decide +kernel
theorem dX0_readStatement_80 : decode cX0_readStatement 80 = .ok (.aload_n 0, 1) := by decide +kernel
theorem dX0_readStatement_81 : decode cX0_readStatement 81 = .ok (.iload 4, 2) := by decide +kernel
theorem dX0_readStatement_83 : decode cX0_readStatement 83 = .ok (.invokevirtual 133, 3) := by decide +kernel
theorem dX0_readStatement_86 : decode cX0_readStatement 86 = .ok (.istore 5, 2) := by decide +kernel
theorem dX0_readStatement_88 : decode cX0_readStatement 88 = .ok (.aload_n 0, 1) := by decide +kernel
theorem dX0_readStatement_89 : decode cX0_readStatement 89 = .ok (.getfield 67, 3) := by decide +kernel
theorem dX0_readStatement_92 : decode cX0_readStatement 92 = .ok (.ifCond .ne 24, 3) := by decide +kernel
theorem dX0_readStatement_95 : decode cX0_readStatement 95 = .ok (.aload_n 0, 1) := by decide +kernel
theorem dX0_readStatement_96 : decode cX0_readStatement 96 = .ok (.getfield 15, 3) := by decide +kernel
theorem dX0_readStatement_99 : decode cX0_readStatement 99 = .ok (.aload_n 0, 1) := by decide +kernel
theorem dX0_readStatement_100 : decode cX0_readStatement 100 = .ok (.getfield 58, 3) := by decide +kernel
theorem dX0_readStatement_103 : decode cX0_readStatement 103 = .ok (.iload 5, 2) := by decide +kernel
theorem dX0_readStatement_105 : decode cX0_readStatement 105 = .ok (.iastore, 1) := by decide +kernel
theorem dX0_readStatement_106 : decode cX0_readStatement 106 = .ok (.aload_n 0, 1) := by decide +kernel
theorem dX0_readStatement_107 : decode cX0_readStatement 107 = .ok (.dup, 1) := by decide +kernel
theorem dX0_readStatement_108 : decode cX0_readStatement 108 = .ok (.getfield 58, 3) := by decide +kernel
theorem dX0_readStatement_111 : decode cX0_readStatement 111 = .ok (.iconst 1, 1) := by decide +kernel
theorem dX0_readStatement_112 : decode cX0_readStatement 112 = .ok (.iadd, 1) := by decide +kernel
theorem dX0_readStatement_113 : decode cX0_readStatement 113 = .ok (.putfield 58, 3) := by decide +kernel
theorem dX0_readStatement_116 : decode cX0_readStatement 116 = .ok (.return_, 1) := by decide +kernel
theorem cc_X0_readStatement : Cond.code yX0_readStatement cX0_readStatement 6 none ∈ rf_tb := rf_at 812 (by decide +kernel) (by decide +kernel)
theorem cw_RX0_123 : cl_wV RX0 RX0 yX0_opOf cX0_opOf 4 (some .int) 123 1 := ⟨⟨rf_at 813 (by decide +kernel) (by decide +kernel), rf_at 815 (by decide +kernel) (by decide +kernel), rf_sel (q := (yX0_opOf, 16)) 12 (by decide +kernel) (by decide +kernel), cc_X0_opOf, rf_at 3 (by decide +kernel) (by decide +kernel)⟩, ⟨by decide, by decide, by decide +kernel⟩⟩
theorem cw_RX0_130 : cl_wV RX0 RX0 yX0_makeRoom cX0_makeRoom 3 none 130 2 := ⟨⟨rf_at 844 (by decide +kernel) (by decide +kernel), rf_at 846 (by decide +kernel) (by decide +kernel), rf_sel (q := (yX0_makeRoom, 16)) 16 (by decide +kernel) (by decide +kernel), cc_X0_makeRoom, rf_at 3 (by decide +kernel) (by decide +kernel)⟩, ⟨by decide, by decide, by decide +kernel⟩⟩
theorem cw_RX0_133 : cl_wV RX0 RX0 yX0_readInstruction cX0_readInstruction 3 (some .int) 133 1 := ⟨⟨rf_at 854 (by decide +kernel) (by decide +kernel), rf_at 856 (by decide +kernel) (by decide +kernel), rf_sel (q := (yX0_readInstruction, 16)) 17 (by decide +kernel) (by decide +kernel), cc_X0_readInstruction, rf_at 3 (by decide +kernel) (by decide +kernel)⟩, ⟨by decide, by decide, by decide +kernel⟩⟩
noncomputable def bc_X0_readStatement_86 (a : Nat) (v0 : Int32) (σ : cl_S) : Option (cl_S) := (if (σ.1 a 12) = 0 then ix (σ.1 a 4) 2048 (vl (cl_w σ (a + 2) (σ.1 a 4).toNatClampNeg v0) (fun σ_16 => vl (cl_w σ_16 a 4 ((σ_16.1 a 4) + (1:Int32))) (fun σ_21 => some σ_21))) else some σ)
set_option maxHeartbeats 4000000 in
theorem wc_X0_readStatement_86 (C : cl_C D p s m args meth c cX0_readStatement 6 none RX0) {a : Nat} {v0 : Int32} {σ0 σ σ' : cl_S} {T : Nat → Nat × Nat} {H : Heap} {locs : List Loc} {ls : Array Slot} {cells slots : Nat} (h : bc_X0_readStatement_86 a v0 σ = some σ') (G : cl_G true D c0 ({ frames := 4, cells := σ0.2.2.2.2.2.1, slots := σ0.2.2.2.2.2.2, locals := 88 }) s σ0.2.2.2.1 T σ H locs cells slots) (ha : (T a).1 = 16) (hl : lv_has ls 6 [(0, .ref (c0 + a))]) : W p l e ({ frames := 4, cells := σ0.2.2.2.2.2.1, slots := σ0.2.2.2.2.2.2, locals := 88 }) s m args below meth c H locs cells slots (MQ below (cl_Q true D c0 none cl_no σ0 σ') args s (σ0.2.2.2.2.2.1 - σ'.2.2.2.2.2.1) (σ0.2.2.2.2.2.2 - σ'.2.2.2.2.2.2) (cl_A c0 σ0.2.2.2.1 s.heap.size)) (F0 m 86 ls [.int v0]) := by
  unfold bc_X0_readStatement_86 at h
  refine lv_istore (lv' := [(5, .int v0), (0, .ref (c0 + a))]) C.1 C.2.1 dX0_readStatement_86 hl (by decide) rfl (fun ls hl_14 => ?_)
  refine lv_aload_n C.1 C.2.1 dX0_readStatement_88 rfl (lv_at hl_14 1 rfl) ?_
  refine cg_0_67 C G ha dX0_readStatement_89 ?_
  refine lv_if_ne (tgt := 116) C.1 C.2.1 dX0_readStatement_92 (by decide) (fun hc => ?_) (fun hc => ?_)
  · rw [if_neg hc] at h
    exact cl_vret ⟨rfl, rfl⟩ rfl C G h dX0_readStatement_116
  · rw [if_pos hc] at h
    refine lv_aload_n C.1 C.2.1 dX0_readStatement_95 rfl (lv_at hl_14 1 rfl) ?_
    refine cg_0_15 C G ha dX0_readStatement_96 (fun t_15 => ?_)
    refine lv_aload_n C.1 C.2.1 dX0_readStatement_99 rfl (lv_at hl_14 1 rfl) ?_
    refine cg_0_58 C G ha dX0_readStatement_100 ?_
    refine lv_iload C.1 C.2.1 dX0_readStatement_103 (lv_at hl_14 0 rfl) ?_
    obtain ⟨hi, h_17⟩ := ix_some h
    refine cl_iast C G t_15 hi dX0_readStatement_105 (fun H locs G_18 => ?_)
    refine cl_nm G_18 h_17 (fun σ_16 G_19 h_20 => ?_)
    refine lv_aload_n C.1 C.2.1 dX0_readStatement_106 rfl (lv_at hl_14 1 rfl) ?_
    refine lv_dup C.1 C.2.1 dX0_readStatement_107 rfl ?_
    refine cg_0_58 C G_19 ha dX0_readStatement_108 ?_
    refine lv_iconst (v := (1:Int32)) C.1 C.2.1 dX0_readStatement_111 (by decide) ?_
    refine lv_iadd C.1 C.2.1 dX0_readStatement_112 ?_
    refine cp_0_58 C G_19 ha dX0_readStatement_113 (fun H locs G_22 => ?_)
    refine cl_nm G_22 h_20 (fun σ_21 G_23 h_24 => ?_)
    exact cl_vret ⟨rfl, rfl⟩ rfl C G_23 h_24 dX0_readStatement_116
noncomputable def bc_X0_readStatement_0 (a : Nat) (x1 : Int64) (x3 : Int32) (σ : cl_S) : Option (cl_S) := bd2 (fc_X0_opOf a x1 σ) (fun r_2 σ_1 => (if r_2 = 0 then bd1 (fc_X0_fail a (3:Int32) x3 σ_1) (fun σ_47 => some σ_47) else (if r_2 = (41:Int32) then bd2 (fc_X0_readValue a r_2 σ_1) (fun r_37 σ_36 => bd1 (fc_X0_makeRoom a (r_37.toInt32) x3 σ_36) (fun σ_42 => some σ_42)) else (if (σ_1.1 a 4) < (2048:Int32) then (if r_2 = (40:Int32) then bd2 (fc_X0_readValue a r_2 σ_1) (fun r_26 σ_25 => bc_X0_readStatement_86 a (r_26.toInt32) σ_25) else bd2 (fc_X0_readInstruction a r_2 σ_1) (fun r_9 σ_8 => bc_X0_readStatement_86 a r_9 σ_8)) else bd1 (fc_X0_fail a (6:Int32) x3 σ_1) (fun σ_31 => some σ_31)))))
set_option maxHeartbeats 4000000 in
theorem wc_X0_readStatement_0 (C : cl_C D p s m args meth c cX0_readStatement 6 none RX0) {a : Nat} {x1 : Int64} {x3 : Int32} {σ0 σ σ' : cl_S} {T : Nat → Nat × Nat} {H : Heap} {locs : List Loc} {ls : Array Slot} {cells slots : Nat} (h : bc_X0_readStatement_0 a x1 x3 σ = some σ') (G : cl_G true D c0 ({ frames := 4, cells := σ0.2.2.2.2.2.1, slots := σ0.2.2.2.2.2.2, locals := 88 }) s σ0.2.2.2.1 T σ H locs cells slots) (ha : (T a).1 = 16) (hl : lv_has ls 6 [(0, .ref (c0 + a)), (1, .long x1), (3, .int x3)]) : W p l e ({ frames := 4, cells := σ0.2.2.2.2.2.1, slots := σ0.2.2.2.2.2.2, locals := 88 }) s m args below meth c H locs cells slots (MQ below (cl_Q true D c0 none cl_no σ0 σ') args s (σ0.2.2.2.2.2.1 - σ'.2.2.2.2.2.1) (σ0.2.2.2.2.2.2 - σ'.2.2.2.2.2.2) (cl_A c0 σ0.2.2.2.1 s.heap.size)) (F0 m 0 ls []) := by
  unfold bc_X0_readStatement_0 at h
  refine lv_aload_n C.1 C.2.1 dX0_readStatement_0 rfl (lv_at hl 0 rfl) ?_
  refine lv_lload_n C.1 C.2.1 dX0_readStatement_1 rfl (lv_at hl 1 rfl) ?_
  obtain ⟨r_2, σ_1, hq, h_3⟩ := bd2_some h
  refine cl_callV (ci := 0) (rest := []) C G rfl ha cw_RX0_123 [.long x1] _ (kc_X0_opOf l D c0 (by rw [G.1]; exact ha) hq) (Nat.le_of_ble_eq_true rfl) (Nat.le_of_ble_eq_true rfl) rfl rfl hl.1 (Nat.le_of_ble_eq_true rfl) dX0_readStatement_2 (fun T_4 H locs cells slots t_5 hu G_6 => ?_)
  have ha := hu.kind ha (by decide)
  refine W.eq (g2 := F0 m 5 ls [.int r_2]) rfl ?_
  refine lv_istore (lv' := [(4, .int r_2), (0, .ref (c0 + a)), (1, .long x1), (3, .int x3)]) C.1 C.2.1 dX0_readStatement_5 hl (by decide) rfl (fun ls hl_7 => ?_)
  refine lv_iload C.1 C.2.1 dX0_readStatement_7 (lv_at hl_7 0 rfl) ?_
  refine lv_if_ne (tgt := 21) C.1 C.2.1 dX0_readStatement_9 (by decide) (fun hc => ?_) (fun hc => ?_)
  · rw [if_neg hc] at h_3
    refine lv_iload C.1 C.2.1 dX0_readStatement_21 (lv_at hl_7 0 rfl) ?_
    refine lv_bipush (v := (41:Int32)) C.1 C.2.1 dX0_readStatement_23 (by decide) ?_
    refine lv_icmp_ne (tgt := 43) C.1 C.2.1 dX0_readStatement_25 (by decide) (fun hc => ?_) (fun hc => ?_)
    · rw [if_neg hc] at h_3
      refine lv_aload_n C.1 C.2.1 dX0_readStatement_43 rfl (lv_at hl_7 1 rfl) ?_
      refine cg_0_58 C G_6 ha dX0_readStatement_44 ?_
      refine lv_sipush (v := (2048:Int32)) C.1 C.2.1 dX0_readStatement_47 (by decide) ?_
      refine lv_icmp_lt (tgt := 63) C.1 C.2.1 dX0_readStatement_50 (by decide) (fun hc => ?_) (fun hc => ?_)
      · rw [if_pos hc] at h_3
        refine lv_iload C.1 C.2.1 dX0_readStatement_63 (lv_at hl_7 0 rfl) ?_
        refine lv_bipush (v := (40:Int32)) C.1 C.2.1 dX0_readStatement_65 (by decide) ?_
        refine lv_icmp_ne (tgt := 80) C.1 C.2.1 dX0_readStatement_67 (by decide) (fun hc => ?_) (fun hc => ?_)
        · rw [if_neg hc] at h_3
          refine lv_aload_n C.1 C.2.1 dX0_readStatement_80 rfl (lv_at hl_7 1 rfl) ?_
          refine lv_iload C.1 C.2.1 dX0_readStatement_81 (lv_at hl_7 0 rfl) ?_
          obtain ⟨r_9, σ_8, hq, h_10⟩ := bd2_some h_3
          refine cl_callV (ci := 0) (rest := []) C G_6 rfl ha cw_RX0_133 [.int r_2] _ (kc_X0_readInstruction l D c0 (by rw [G_6.1]; exact ha) hq) (Nat.le_of_ble_eq_true rfl) (Nat.le_of_ble_eq_true rfl) rfl rfl hl_7.1 (Nat.le_of_ble_eq_true rfl) dX0_readStatement_83 (fun T_11 H locs cells slots t_12 hu G_13 => ?_)
          have ha := hu.kind ha (by decide)
          refine W.eq (g2 := F0 m 86 ls [.int r_9]) rfl ?_
          exact wc_X0_readStatement_86 C h_10 G_13 ha (lv_sub hl_7 [1] rfl)
        · rw [if_pos hc] at h_3
          refine lv_aload_n C.1 C.2.1 dX0_readStatement_70 rfl (lv_at hl_7 1 rfl) ?_
          refine lv_iload C.1 C.2.1 dX0_readStatement_71 (lv_at hl_7 0 rfl) ?_
          obtain ⟨r_26, σ_25, hq, h_27⟩ := bd2_some h_3
          refine cl_callV (ci := 0) (rest := []) C G_6 rfl ha cw_RX0_126 [.int r_2] _ (kc_X0_readValue l D c0 (by rw [G_6.1]; exact ha) hq) (Nat.le_of_ble_eq_true rfl) (Nat.le_of_ble_eq_true rfl) rfl rfl hl_7.1 (Nat.le_of_ble_eq_true rfl) dX0_readStatement_73 (fun T_28 H locs cells slots t_29 hu G_30 => ?_)
          have ha := hu.kind ha (by decide)
          refine W.eq (g2 := F0 m 76 ls [.long r_26]) rfl ?_
          refine lv_l2i C.1 C.2.1 dX0_readStatement_76 rfl ?_
          refine lv_goto (tgt := 86) C.1 C.2.1 dX0_readStatement_77 (by decide) ?_
          exact wc_X0_readStatement_86 C h_27 G_30 ha (lv_sub hl_7 [1] rfl)
      · rw [if_neg hc] at h_3
        refine lv_aload_n C.1 C.2.1 dX0_readStatement_53 rfl (lv_at hl_7 1 rfl) ?_
        refine lv_bipush (v := (6:Int32)) C.1 C.2.1 dX0_readStatement_54 (by decide) ?_
        refine lv_iload_n C.1 C.2.1 dX0_readStatement_56 rfl (lv_at hl_7 3 rfl) ?_
        obtain ⟨σ_31, hq, h_32⟩ := bd1_some h_3
        refine cl_callV (ci := 0) (rest := []) C G_6 rfl ha cw_RX0_99 [.int (6:Int32), .int x3] _ (kc_X0_fail l D c0 (by rw [G_6.1]; exact ha) hq) (Nat.le_of_ble_eq_true rfl) (Nat.le_of_ble_eq_true rfl) rfl rfl hl_7.1 (Nat.le_of_ble_eq_true rfl) dX0_readStatement_57 (fun T_33 H locs cells slots t_34 hu G_35 => ?_)
        have ha := hu.kind ha (by decide)
        refine W.eq (g2 := F0 m 60 ls []) rfl ?_
        refine lv_goto (tgt := 116) C.1 C.2.1 dX0_readStatement_60 (by decide) ?_
        exact cl_vret ⟨rfl, rfl⟩ rfl C G_35 h_32 dX0_readStatement_116
    · rw [if_pos hc] at h_3
      refine lv_aload_n C.1 C.2.1 dX0_readStatement_28 rfl (lv_at hl_7 1 rfl) ?_
      refine lv_aload_n C.1 C.2.1 dX0_readStatement_29 rfl (lv_at hl_7 1 rfl) ?_
      refine lv_iload C.1 C.2.1 dX0_readStatement_30 (lv_at hl_7 0 rfl) ?_
      obtain ⟨r_37, σ_36, hq, h_38⟩ := bd2_some h_3
      refine cl_callV (ci := 0) (rest := [.ref (c0 + a)]) C G_6 rfl ha cw_RX0_126 [.int r_2] _ (kc_X0_readValue l D c0 (by rw [G_6.1]; exact ha) hq) (Nat.le_of_ble_eq_true rfl) (Nat.le_of_ble_eq_true rfl) rfl rfl hl_7.1 (Nat.le_of_ble_eq_true rfl) dX0_readStatement_32 (fun T_39 H locs cells slots t_40 hu G_41 => ?_)
      have ha := hu.kind ha (by decide)
      refine W.eq (g2 := F0 m 35 ls [.long r_37, .ref (c0 + a)]) rfl ?_
      refine lv_l2i C.1 C.2.1 dX0_readStatement_35 rfl ?_
      refine lv_iload_n C.1 C.2.1 dX0_readStatement_36 rfl (lv_at hl_7 3 rfl) ?_
      obtain ⟨σ_42, hq, h_43⟩ := bd1_some h_38
      refine cl_callV (ci := 0) (rest := []) C G_41 rfl ha cw_RX0_130 [.int (r_37.toInt32), .int x3] _ (kc_X0_makeRoom l D c0 (by rw [G_41.1]; exact ha) hq) (Nat.le_of_ble_eq_true rfl) (Nat.le_of_ble_eq_true rfl) rfl rfl hl_7.1 (Nat.le_of_ble_eq_true rfl) dX0_readStatement_37 (fun T_44 H locs cells slots t_45 hu G_46 => ?_)
      have ha := hu.kind ha (by decide)
      refine W.eq (g2 := F0 m 40 ls []) rfl ?_
      refine lv_goto (tgt := 116) C.1 C.2.1 dX0_readStatement_40 (by decide) ?_
      exact cl_vret ⟨rfl, rfl⟩ rfl C G_46 h_43 dX0_readStatement_116
  · rw [if_pos hc] at h_3
    refine lv_aload_n C.1 C.2.1 dX0_readStatement_12 rfl (lv_at hl_7 1 rfl) ?_
    refine lv_iconst (v := (3:Int32)) C.1 C.2.1 dX0_readStatement_13 (by decide) ?_
    refine lv_iload_n C.1 C.2.1 dX0_readStatement_14 rfl (lv_at hl_7 3 rfl) ?_
    obtain ⟨σ_47, hq, h_48⟩ := bd1_some h_3
    refine cl_callV (ci := 0) (rest := []) C G_6 rfl ha cw_RX0_99 [.int (3:Int32), .int x3] _ (kc_X0_fail l D c0 (by rw [G_6.1]; exact ha) hq) (Nat.le_of_ble_eq_true rfl) (Nat.le_of_ble_eq_true rfl) rfl rfl hl_7.1 (Nat.le_of_ble_eq_true rfl) dX0_readStatement_15 (fun T_49 H locs cells slots t_50 hu G_51 => ?_)
    have ha := hu.kind ha (by decide)
    refine W.eq (g2 := F0 m 18 ls []) rfl ?_
    refine lv_goto (tgt := 116) C.1 C.2.1 dX0_readStatement_18 (by decide) ?_
    exact cl_vret ⟨rfl, rfl⟩ rfl C G_51 h_48 dX0_readStatement_116
noncomputable def fc_X0_readStatement (a : Nat) (x1 : Int64) (x3 : Int32) (σ : cl_S) : Option (cl_S) := bc_X0_readStatement_0 a x1 x3 σ
theorem kc_X0_readStatement (l : Launch) (D : cl_D) (c0 : Nat) {a : Nat} {x1 : Int64} {x3 : Int32} {σ σ' : cl_S} (ha : (σ.2.2.2.1 a).1 = 16) (h : fc_X0_readStatement a x1 x3 σ = some σ') : cl_Met true l D c0 yX0_readStatement cX0_readStatement 6 none 4 88 [.ref (c0 + a), .long x1, .int x3] σ none cl_no σ' :=
  cl_of (by decide) (Nat.le_of_ble_eq_true rfl) (fun p e s m args below meth c ls C hn G hl => wc_X0_readStatement_0 C h G ha hl)
abbrev cX0_readLine : ByteArray := prog_2_method_8_code
def yX0_readLine : MethodName := ⟨RX0, "readLine", "()V"⟩
theorem dX0_readLine_0 : decode cX0_readLine 0 = .ok (.aload_n 0, 1) := by decide +kernel
theorem dX0_readLine_1 : decode cX0_readLine 1 = .ok (.getfield 70, 3) := by decide +kernel
theorem dX0_readLine_4 : decode cX0_readLine 4 = .ok (.iconst 1, 1) := by decide +kernel
theorem dX0_readLine_5 : decode cX0_readLine 5 = .ok (.iadd, 1) := by decide +kernel
theorem dX0_readLine_6 : decode cX0_readLine 6 = .ok (.aload_n 0, 1) := by decide +kernel
theorem dX0_readLine_7 : decode cX0_readLine 7 = .ok (.getfield 42, 3) := by decide +kernel
theorem dX0_readLine_10 : decode cX0_readLine 10 = .ok (.getfield 95, 3) := by decide +kernel
theorem dX0_readLine_13 : decode cX0_readLine 13 = .ok (.if_icmp .ge 25, 3) := by decide +kernel
theorem dX0_readLine_16 : decode cX0_readLine 16 = .ok (.aload_n 0, 1) := by decide +kernel
theorem dX0_readLine_17 : decode cX0_readLine 17 = .ok (.getfield 42, 3) := by decide +kernel
theorem dX0_readLine_20 : decode cX0_readLine 20 = .ok (.getfield 92, 3) := by decide +kernel
theorem dX0_readLine_23 : decode cX0_readLine 23 = .ok (.aload_n 0, 1) := by decide +kernel
theorem dX0_readLine_24 : decode cX0_readLine 24 = .ok (.getfield 70, 3) := by decide +kernel
theorem dX0_readLine_27 : decode cX0_readLine 27 = .ok (.iconst 1, 1) := by decide +kernel
theorem dX0_readLine_28 : decode cX0_readLine 28 = .ok (.iadd, 1) := by decide +kernel
theorem dX0_readLine_29 : decode cX0_readLine 29 = .ok (.iaload, 1) := by decide +kernel
theorem dX0_readLine_30 : decode cX0_readLine 30 = .ok (.iconst 5, 1) := by decide +kernel
theorem dX0_readLine_31 : decode cX0_readLine 31 = .ok (.if_icmp .ne 7, 3) := by decide +kernel
theorem dX0_readLine_34 : decode cX0_readLine 34 = .ok (.iconst 1, 1) := by decide +kernel
theorem dX0_readLine_35 : decode cX0_readLine 35 = .ok (.goto 4, 3) := by decide +kernel
theorem dX0_readLine_38 : decode cX0_readLine 38 = .ok (.iconst 0, 1) := by decide +kernel
theorem dX0_readLine_39 : decode cX0_readLine 39 = .ok (.istore_n 1, 1) := by decide +kernel
theorem dX0_readLine_40 : decode cX0_readLine 40 = .ok (.aload_n 0, 1) := by decide +kernel
theorem dX0_readLine_41 : decode cX0_readLine 41 = .ok (.invokevirtual 78, 3) := by decide +kernel
theorem dX0_readLine_44 : decode cX0_readLine 44 = .ok (.iconst 2, 1) := by decide +kernel
theorem dX0_readLine_45 : decode cX0_readLine 45 = .ok (.if_icmp .ne 43, 3) := by decide +kernel
theorem dX0_readLine_48 : decode cX0_readLine 48 = .ok (.iload_n 1, 1) := by decide +kernel
theorem dX0_readLine_49 : decode cX0_readLine 49 = .ok (.ifCond .eq 39, 3) := by decide +kernel
theorem dX0_readLine_52 : decode cX0_readLine 52 = .ok (.aload_n 0, 1) := by decide +kernel
theorem dX0_readLine_53 : decode cX0_readLine 53 = .ok (.aload_n 0, 1) := by decide +kernel
theorem dX0_readLine_54 : decode cX0_readLine 54 = .ok (.getfield 42, 3) := by decide +kernel
theorem dX0_readLine_57 : decode cX0_readLine 57 = .ok (.getfield 103, 3) := by decide +kernel
theorem dX0_readLine_60 : decode cX0_readLine 60 = .ok (.aload_n 0, 1) := by decide +kernel
theorem dX0_readLine_61 : decode cX0_readLine 61 = .ok (.getfield 70, 3) := by decide +kernel
theorem dX0_readLine_64 : decode cX0_readLine 64 = .ok (.laload, 1) := by decide +kernel
theorem dX0_readLine_65 : decode cX0_readLine 65 = .ok (.aload_n 0, 1) := by decide +kernel
theorem dX0_readLine_66 : decode cX0_readLine 66 = .ok (.getfield 42, 3) := by decide +kernel
theorem dX0_readLine_69 : decode cX0_readLine 69 = .ok (.getfield 96, 3) := by decide +kernel
theorem dX0_readLine_72 : decode cX0_readLine 72 = .ok (.aload_n 0, 1) := by decide +kernel
theorem dX0_readLine_73 : decode cX0_readLine 73 = .ok (.getfield 70, 3) := by decide +kernel
theorem dX0_readLine_76 : decode cX0_readLine 76 = .ok (.iaload, 1) := by decide +kernel
theorem dX0_readLine_77 : decode cX0_readLine 77 = .ok (.invokevirtual 106, 3) := by decide +kernel
theorem dX0_readLine_80 : decode cX0_readLine 80 = .ok (.aload_n 0, 1) := by decide +kernel
theorem dX0_readLine_81 : decode cX0_readLine 81 = .ok (.invokevirtual 110, 3) := by decide +kernel
theorem dX0_readLine_84 : decode cX0_readLine 84 = .ok (.aload_n 0, 1) := by decide +kernel
theorem dX0_readLine_85 : decode cX0_readLine 85 = .ok (.invokevirtual 110, 3) := by decide +kernel
theorem dX0_readLine_88 : decode cX0_readLine 88 = .ok (.aload_n 0, 1) := by decide +kernel
theorem dX0_readLine_89 : decode cX0_readLine 89 = .ok (.invokevirtual 78, 3) := by decide +kernel
theorem dX0_readLine_92 : decode cX0_readLine 92 = .ok (.iconst 2, 1) := by decide +kernel
theorem dX0_readLine_93 : decode cX0_readLine 93 = .ok (.if_icmp .ne 48, 3) := by decide +kernel
theorem dX0_readLine_96 : decode cX0_readLine 96 = .ok (.aload_n 0, 1) := by decide +kernel
theorem dX0_readLine_97 : decode cX0_readLine 97 = .ok (.getfield 67, 3) := by decide +kernel
theorem dX0_readLine_100 : decode cX0_readLine 100 = .ok (.ifCond .ne 41, 3) := by decide +kernel
theorem dX0_readLine_103 : decode cX0_readLine 103 = .ok (.aload_n 0, 1) := by decide +kernel
theorem dX0_readLine_104 : decode cX0_readLine 104 = .ok (.getfield 42, 3) := by decide +kernel
theorem dX0_readLine_107 : decode cX0_readLine 107 = .ok (.getfield 103, 3) := by decide +kernel
theorem dX0_readLine_110 : decode cX0_readLine 110 = .ok (.aload_n 0, 1) := by decide +kernel
theorem dX0_readLine_111 : decode cX0_readLine 111 = .ok (.getfield 70, 3) := by decide +kernel
theorem dX0_readLine_114 : decode cX0_readLine 114 = .ok (.laload, 1) := by decide +kernel
theorem dX0_readLine_115 : decode cX0_readLine 115 = .ok (.lstore_n 2, 1) := by decide +kernel
theorem dX0_readLine_116 : decode cX0_readLine 116 = .ok (.aload_n 0, 1) := by decide +kernel
theorem dX0_readLine_117 : decode cX0_readLine 117 = .ok (.getfield 42, 3) := by decide +kernel
theorem dX0_readLine_120 : decode cX0_readLine 120 = .ok (.getfield 96, 3) := by decide +kernel
theorem dX0_readLine_123 : decode cX0_readLine 123 = .ok (.aload_n 0, 1) := by decide +kernel
theorem dX0_readLine_124 : decode cX0_readLine 124 = .ok (.getfield 70, 3) := by decide +kernel
theorem dX0_readLine_127 : decode cX0_readLine 127 = .ok (.iaload, 1) := by decide +kernel
theorem dX0_readLine_128 : decode cX0_readLine 128 = .ok (.istore 4, 2) := by decide +kernel
theorem dX0_readLine_130 : decode cX0_readLine 130 = .ok (.aload_n 0, 1) := by decide +kernel
theorem dX0_readLine_131 : decode cX0_readLine 131 = .ok (.invokevirtual 110, 3) := by decide +kernel
theorem dX0_readLine_134 : decode cX0_readLine 134 = .ok (.aload_n 0, 1) := by decide +kernel
theorem dX0_readLine_135 : decode cX0_readLine 135 = .ok (.lload_n 2, 1) := by decide +kernel
theorem dX0_readLine_136 : decode cX0_readLine 136 = .ok (.iload 4, 2) := by decide +kernel
theorem dX0_readLine_138 : decode cX0_readLine 138 = .ok (.invokevirtual 113, 3) := by decide +kernel
theorem dX0_readLine_141 : decode cX0_readLine 141 = .ok (.aload_n 0, 1) := by decide +kernel
theorem dX0_readLine_142 : decode cX0_readLine 142 = .ok (.invokevirtual 78, 3) := by decide +kernel
theorem dX0_readLine_145 : decode cX0_readLine 145 = .ok (.iconst 1, 1) := by decide +kernel
theorem dX0_readLine_146 : decode cX0_readLine 146 = .ok (.if_icmp .ne 10, 3) := by decide +kernel
theorem dX0_readLine_149 : decode cX0_readLine 149 = .ok (.aload_n 0, 1) := by decide +kernel
theorem dX0_readLine_150 : decode cX0_readLine 150 = .ok (.invokevirtual 110, 3) := by decide +kernel
theorem dX0_readLine_153 : decode cX0_readLine 153 = .ok (.goto 14, 3) := by decide +kernel
theorem dX0_readLine_156 : decode cX0_readLine 156 = .ok (.aload_n 0, 1) := by decide +kernel
theorem dX0_readLine_157 : decode cX0_readLine 157 = .ok (.invokevirtual 78, 3) := by decide +kernel
theorem dX0_readLine_160 : decode cX0_readLine 160 = .ok (.ifCond .eq 7, 3) := by decide +kernel
theorem dX0_readLine_163 : decode cX0_readLine 163 = .ok (.aload_n 0, 1) := by decide +kernel
theorem dX0_readLine_164 : decode cX0_readLine 164 = .ok (.invokevirtual 116, 3) := by decide +kernel
theorem dX0_readLine_167 : decode cX0_readLine 167 = .ok (.return_, 1) := by decide +kernel
theorem cc_X0_readLine : Cond.code yX0_readLine cX0_readLine 5 none ∈ rf_tb := rf_at 792 (by decide +kernel) (by decide +kernel)
theorem cw_RX0_106 : cl_wV RX0 RX0 yX0_tellLabel cX0_tellLabel 4 none 106 2 := ⟨⟨rf_at 793 (by decide +kernel) (by decide +kernel), rf_at 795 (by decide +kernel) (by decide +kernel), rf_sel (q := (yX0_tellLabel, 16)) 7 (by decide +kernel) (by decide +kernel), cc_X0_tellLabel, rf_at 3 (by decide +kernel) (by decide +kernel)⟩, ⟨by decide, by decide, by decide +kernel⟩⟩
theorem cw_RX0_113 : cl_wV RX0 RX0 yX0_readStatement cX0_readStatement 6 none 113 2 := ⟨⟨rf_at 809 (by decide +kernel) (by decide +kernel), rf_at 811 (by decide +kernel) (by decide +kernel), rf_sel (q := (yX0_readStatement, 16)) 11 (by decide +kernel) (by decide +kernel), cc_X0_readStatement, rf_at 3 (by decide +kernel) (by decide +kernel)⟩, ⟨by decide, by decide, by decide +kernel⟩⟩
noncomputable def bc_X0_readLine_141 (a : Nat) (σ : cl_S) : Option (cl_S) := bd2 (fc_X0_token a σ) (fun r_16 σ_15 => (if r_16 = (1:Int32) then bd1 (fc_X0_advance a σ_15) (fun σ_32 => some σ_32) else bd2 (fc_X0_token a σ_15) (fun r_22 σ_21 => (if r_22 = 0 then some σ_21 else bd1 (fc_X0_failAtToken a σ_21) (fun σ_27 => some σ_27)))))
set_option maxHeartbeats 4000000 in
theorem wc_X0_readLine_141 (C : cl_C D p s m args meth c cX0_readLine 5 none RX0) {a : Nat} {σ0 σ σ' : cl_S} {T : Nat → Nat × Nat} {H : Heap} {locs : List Loc} {ls : Array Slot} {cells slots : Nat} (h : bc_X0_readLine_141 a σ = some σ') (G : cl_G true D c0 ({ frames := 5, cells := σ0.2.2.2.2.2.1, slots := σ0.2.2.2.2.2.2, locals := 113 }) s σ0.2.2.2.1 T σ H locs cells slots) (ha : (T a).1 = 16) (hl : lv_has ls 5 [(0, .ref (c0 + a))]) : W p l e ({ frames := 5, cells := σ0.2.2.2.2.2.1, slots := σ0.2.2.2.2.2.2, locals := 113 }) s m args below meth c H locs cells slots (MQ below (cl_Q true D c0 none cl_no σ0 σ') args s (σ0.2.2.2.2.2.1 - σ'.2.2.2.2.2.1) (σ0.2.2.2.2.2.2 - σ'.2.2.2.2.2.2) (cl_A c0 σ0.2.2.2.1 s.heap.size)) (F0 m 141 ls []) := by
  unfold bc_X0_readLine_141 at h
  refine lv_aload_n C.1 C.2.1 dX0_readLine_141 rfl (lv_at hl 0 rfl) ?_
  obtain ⟨r_16, σ_15, hq, h_17⟩ := bd2_some h
  refine cl_callV (ci := 0) (rest := []) C G rfl ha cw_RX0_78 [] _ (kc_X0_token l D c0 (by rw [G.1]; exact ha) hq) (Nat.le_of_ble_eq_true rfl) (Nat.le_of_ble_eq_true rfl) rfl rfl hl.1 (Nat.le_of_ble_eq_true rfl) dX0_readLine_142 (fun T_18 H locs cells slots t_19 hu G_20 => ?_)
  have ha := hu.kind ha (by decide)
  refine W.eq (g2 := F0 m 145 ls [.int r_16]) rfl ?_
  refine lv_iconst (v := (1:Int32)) C.1 C.2.1 dX0_readLine_145 (by decide) ?_
  refine lv_icmp_ne (tgt := 156) C.1 C.2.1 dX0_readLine_146 (by decide) (fun hc => ?_) (fun hc => ?_)
  · rw [if_neg hc] at h_17
    refine lv_aload_n C.1 C.2.1 dX0_readLine_156 rfl (lv_at hl 0 rfl) ?_
    obtain ⟨r_22, σ_21, hq, h_23⟩ := bd2_some h_17
    refine cl_callV (ci := 0) (rest := []) C G_20 rfl ha cw_RX0_78 [] _ (kc_X0_token l D c0 (by rw [G_20.1]; exact ha) hq) (Nat.le_of_ble_eq_true rfl) (Nat.le_of_ble_eq_true rfl) rfl rfl hl.1 (Nat.le_of_ble_eq_true rfl) dX0_readLine_157 (fun T_24 H locs cells slots t_25 hu G_26 => ?_)
    have ha := hu.kind ha (by decide)
    refine W.eq (g2 := F0 m 160 ls [.int r_22]) rfl ?_
    refine lv_if_eq (tgt := 167) C.1 C.2.1 dX0_readLine_160 (by decide) (fun hc => ?_) (fun hc => ?_)
    · rw [if_pos hc] at h_23
      exact cl_vret ⟨rfl, rfl⟩ rfl C G_26 h_23 dX0_readLine_167
    · rw [if_neg hc] at h_23
      refine lv_aload_n C.1 C.2.1 dX0_readLine_163 rfl (lv_at hl 0 rfl) ?_
      obtain ⟨σ_27, hq, h_28⟩ := bd1_some h_23
      refine cl_callV (ci := 0) (rest := []) C G_26 rfl ha cw_RX0_116 [] _ (kc_X0_failAtToken l D c0 (by rw [G_26.1]; exact ha) hq) (Nat.le_of_ble_eq_true rfl) (Nat.le_of_ble_eq_true rfl) rfl rfl hl.1 (Nat.le_of_ble_eq_true rfl) dX0_readLine_164 (fun T_29 H locs cells slots t_30 hu G_31 => ?_)
      have ha := hu.kind ha (by decide)
      refine W.eq (g2 := F0 m 167 ls []) rfl ?_
      exact cl_vret ⟨rfl, rfl⟩ rfl C G_31 h_28 dX0_readLine_167
  · rw [if_pos hc] at h_17
    refine lv_aload_n C.1 C.2.1 dX0_readLine_149 rfl (lv_at hl 0 rfl) ?_
    obtain ⟨σ_32, hq, h_33⟩ := bd1_some h_17
    refine cl_callV (ci := 0) (rest := []) C G_20 rfl ha cw_RX0_110 [] _ (kc_X0_advance l D c0 (by rw [G_20.1]; exact ha) hq) (Nat.le_of_ble_eq_true rfl) (Nat.le_of_ble_eq_true rfl) rfl rfl hl.1 (Nat.le_of_ble_eq_true rfl) dX0_readLine_150 (fun T_34 H locs cells slots t_35 hu G_36 => ?_)
    have ha := hu.kind ha (by decide)
    refine W.eq (g2 := F0 m 153 ls []) rfl ?_
    refine lv_goto (tgt := 167) C.1 C.2.1 dX0_readLine_153 (by decide) ?_
    exact cl_vret ⟨rfl, rfl⟩ rfl C G_36 h_33 dX0_readLine_167
noncomputable def bc_X0_readLine_88 (a : Nat) (σ : cl_S) : Option (cl_S) := bd2 (fc_X0_token a σ) (fun r_10 σ_9 => (if r_10 = (2:Int32) then (if (σ_9.1 a 12) = 0 then ix (σ_9.1 a 2) 6001 (vl (σ_9.2.1 (1 + 4) (σ_9.1 a 2).toNatClampNeg) (fun x2_40 => ix (σ_9.1 a 2) 6001 (vl (σ_9.1 (1 + 3) (σ_9.1 a 2).toNatClampNeg) (fun x4_46 => bd1 (fc_X0_advance a σ_9) (fun σ_49 => bd1 (fc_X0_readStatement a x2_40 x4_46 σ_49) (fun σ_54 => bc_X0_readLine_141 a σ_54)))))) else bc_X0_readLine_141 a σ_9) else bc_X0_readLine_141 a σ_9))
set_option maxHeartbeats 4000000 in
theorem wc_X0_readLine_88 (C : cl_C D p s m args meth c cX0_readLine 5 none RX0) {a : Nat} {σ0 σ σ' : cl_S} {T : Nat → Nat × Nat} {H : Heap} {locs : List Loc} {ls : Array Slot} {cells slots : Nat} (h : bc_X0_readLine_88 a σ = some σ') (G : cl_G true D c0 ({ frames := 5, cells := σ0.2.2.2.2.2.1, slots := σ0.2.2.2.2.2.2, locals := 113 }) s σ0.2.2.2.1 T σ H locs cells slots) (ha : (T a).1 = 16) (hl : lv_has ls 5 [(0, .ref (c0 + a))]) : W p l e ({ frames := 5, cells := σ0.2.2.2.2.2.1, slots := σ0.2.2.2.2.2.2, locals := 113 }) s m args below meth c H locs cells slots (MQ below (cl_Q true D c0 none cl_no σ0 σ') args s (σ0.2.2.2.2.2.1 - σ'.2.2.2.2.2.1) (σ0.2.2.2.2.2.2 - σ'.2.2.2.2.2.2) (cl_A c0 σ0.2.2.2.1 s.heap.size)) (F0 m 88 ls []) := by
  unfold bc_X0_readLine_88 at h
  refine lv_aload_n C.1 C.2.1 dX0_readLine_88 rfl (lv_at hl 0 rfl) ?_
  obtain ⟨r_10, σ_9, hq, h_11⟩ := bd2_some h
  refine cl_callV (ci := 0) (rest := []) C G rfl ha cw_RX0_78 [] _ (kc_X0_token l D c0 (by rw [G.1]; exact ha) hq) (Nat.le_of_ble_eq_true rfl) (Nat.le_of_ble_eq_true rfl) rfl rfl hl.1 (Nat.le_of_ble_eq_true rfl) dX0_readLine_89 (fun T_12 H locs cells slots t_13 hu G_14 => ?_)
  have ha := hu.kind ha (by decide)
  refine W.eq (g2 := F0 m 92 ls [.int r_10]) rfl ?_
  refine lv_iconst (v := (2:Int32)) C.1 C.2.1 dX0_readLine_92 (by decide) ?_
  refine lv_icmp_ne (tgt := 141) C.1 C.2.1 dX0_readLine_93 (by decide) (fun hc => ?_) (fun hc => ?_)
  · rw [if_neg hc] at h_11
    exact wc_X0_readLine_141 C h_11 G_14 ha (lv_sub hl [0] rfl)
  · rw [if_pos hc] at h_11
    refine lv_aload_n C.1 C.2.1 dX0_readLine_96 rfl (lv_at hl 0 rfl) ?_
    refine cg_0_67 C G_14 ha dX0_readLine_97 ?_
    refine lv_if_ne (tgt := 141) C.1 C.2.1 dX0_readLine_100 (by decide) (fun hc => ?_) (fun hc => ?_)
    · rw [if_neg hc] at h_11
      exact wc_X0_readLine_141 C h_11 G_14 ha (lv_sub hl [0] rfl)
    · rw [if_pos hc] at h_11
      refine lv_aload_n C.1 C.2.1 dX0_readLine_103 rfl (lv_at hl 0 rfl) ?_
      refine cg_0_42 C G_14 ha dX0_readLine_104 (fun t_37 => ?_)
      have t_37 : (T_12 1).1 = 20 := by rw [t_37]
      refine cg_0_103 C G_14 t_37 dX0_readLine_107 (fun t_38 => ?_)
      refine lv_aload_n C.1 C.2.1 dX0_readLine_110 rfl (lv_at hl 0 rfl) ?_
      refine cg_0_70 C G_14 ha dX0_readLine_111 ?_
      obtain ⟨hi, h_39⟩ := ix_some h_11
      refine cl_lald C G_14 t_38 hi dX0_readLine_114 ?_
      refine vt_l h_39 (fun x2_40 h_41 => ?_)
      refine lv_lstore_n (lv' := [(2, .long x2_40), (0, .ref (c0 + a))]) C.1 C.2.1 dX0_readLine_115 rfl hl (by decide) rfl (fun ls hl_42 => ?_)
      refine lv_aload_n C.1 C.2.1 dX0_readLine_116 rfl (lv_at hl_42 1 rfl) ?_
      refine cg_0_42 C G_14 ha dX0_readLine_117 (fun t_43 => ?_)
      have t_43 : (T_12 1).1 = 20 := by rw [t_43]
      refine cg_0_96 C G_14 t_43 dX0_readLine_120 (fun t_44 => ?_)
      refine lv_aload_n C.1 C.2.1 dX0_readLine_123 rfl (lv_at hl_42 1 rfl) ?_
      refine cg_0_70 C G_14 ha dX0_readLine_124 ?_
      obtain ⟨hi, h_45⟩ := ix_some h_41
      refine cl_iald C G_14 t_44 hi dX0_readLine_127 ?_
      refine vt_i h_45 (fun x4_46 h_47 => ?_)
      refine lv_istore (lv' := [(4, .int x4_46), (2, .long x2_40), (0, .ref (c0 + a))]) C.1 C.2.1 dX0_readLine_128 hl_42 (by decide) rfl (fun ls hl_48 => ?_)
      refine lv_aload_n C.1 C.2.1 dX0_readLine_130 rfl (lv_at hl_48 2 rfl) ?_
      obtain ⟨σ_49, hq, h_50⟩ := bd1_some h_47
      refine cl_callV (ci := 0) (rest := []) C G_14 rfl ha cw_RX0_110 [] _ (kc_X0_advance l D c0 (by rw [G_14.1]; exact ha) hq) (Nat.le_of_ble_eq_true rfl) (Nat.le_of_ble_eq_true rfl) rfl rfl hl_48.1 (Nat.le_of_ble_eq_true rfl) dX0_readLine_131 (fun T_51 H locs cells slots t_52 hu G_53 => ?_)
      have ha := hu.kind ha (by decide)
      refine W.eq (g2 := F0 m 134 ls []) rfl ?_
      refine lv_aload_n C.1 C.2.1 dX0_readLine_134 rfl (lv_at hl_48 2 rfl) ?_
      refine lv_lload_n C.1 C.2.1 dX0_readLine_135 rfl (lv_at hl_48 1 rfl) ?_
      refine lv_iload C.1 C.2.1 dX0_readLine_136 (lv_at hl_48 0 rfl) ?_
      obtain ⟨σ_54, hq, h_55⟩ := bd1_some h_50
      refine cl_callV (ci := 0) (rest := []) C G_53 rfl ha cw_RX0_113 [.long x2_40, .int x4_46] _ (kc_X0_readStatement l D c0 (by rw [G_53.1]; exact ha) hq) (Nat.le_of_ble_eq_true rfl) (Nat.le_of_ble_eq_true rfl) rfl rfl hl_48.1 (Nat.le_of_ble_eq_true rfl) dX0_readLine_138 (fun T_56 H locs cells slots t_57 hu G_58 => ?_)
      have ha := hu.kind ha (by decide)
      refine W.eq (g2 := F0 m 141 ls []) rfl ?_
      exact wc_X0_readLine_141 C h_55 G_58 ha (lv_sub hl_48 [2] rfl)
noncomputable def bc_X0_readLine_39 (a : Nat) (v0 : Int32) (σ : cl_S) : Option (cl_S) := bd2 (fc_X0_token a σ) (fun r_4 σ_3 => (if r_4 = (2:Int32) then (if v0 = 0 then bc_X0_readLine_88 a σ_3 else ix (σ_3.1 a 2) 6001 (ix (σ_3.1 a 2) 6001 (bd1 (fc_X0_tellLabel a (σ_3.2.1 (1 + 4) (σ_3.1 a 2).toNatClampNeg) (σ_3.1 (1 + 3) (σ_3.1 a 2).toNatClampNeg) σ_3) (fun σ_65 => bd1 (fc_X0_advance a σ_65) (fun σ_70 => bd1 (fc_X0_advance a σ_70) (fun σ_75 => bc_X0_readLine_88 a σ_75)))))) else bc_X0_readLine_88 a σ_3))
set_option maxHeartbeats 4000000 in
theorem wc_X0_readLine_39 (C : cl_C D p s m args meth c cX0_readLine 5 none RX0) {a : Nat} {v0 : Int32} {σ0 σ σ' : cl_S} {T : Nat → Nat × Nat} {H : Heap} {locs : List Loc} {ls : Array Slot} {cells slots : Nat} (h : bc_X0_readLine_39 a v0 σ = some σ') (G : cl_G true D c0 ({ frames := 5, cells := σ0.2.2.2.2.2.1, slots := σ0.2.2.2.2.2.2, locals := 113 }) s σ0.2.2.2.1 T σ H locs cells slots) (ha : (T a).1 = 16) (hl : lv_has ls 5 [(0, .ref (c0 + a))]) : W p l e ({ frames := 5, cells := σ0.2.2.2.2.2.1, slots := σ0.2.2.2.2.2.2, locals := 113 }) s m args below meth c H locs cells slots (MQ below (cl_Q true D c0 none cl_no σ0 σ') args s (σ0.2.2.2.2.2.1 - σ'.2.2.2.2.2.1) (σ0.2.2.2.2.2.2 - σ'.2.2.2.2.2.2) (cl_A c0 σ0.2.2.2.1 s.heap.size)) (F0 m 39 ls [.int v0]) := by
  unfold bc_X0_readLine_39 at h
  refine lv_istore_n (lv' := [(1, .int v0), (0, .ref (c0 + a))]) C.1 C.2.1 dX0_readLine_39 rfl hl (by decide) rfl (fun ls hl_2 => ?_)
  refine lv_aload_n C.1 C.2.1 dX0_readLine_40 rfl (lv_at hl_2 1 rfl) ?_
  obtain ⟨r_4, σ_3, hq, h_5⟩ := bd2_some h
  refine cl_callV (ci := 0) (rest := []) C G rfl ha cw_RX0_78 [] _ (kc_X0_token l D c0 (by rw [G.1]; exact ha) hq) (Nat.le_of_ble_eq_true rfl) (Nat.le_of_ble_eq_true rfl) rfl rfl hl_2.1 (Nat.le_of_ble_eq_true rfl) dX0_readLine_41 (fun T_6 H locs cells slots t_7 hu G_8 => ?_)
  have ha := hu.kind ha (by decide)
  refine W.eq (g2 := F0 m 44 ls [.int r_4]) rfl ?_
  refine lv_iconst (v := (2:Int32)) C.1 C.2.1 dX0_readLine_44 (by decide) ?_
  refine lv_icmp_ne (tgt := 88) C.1 C.2.1 dX0_readLine_45 (by decide) (fun hc => ?_) (fun hc => ?_)
  · rw [if_neg hc] at h_5
    exact wc_X0_readLine_88 C h_5 G_8 ha (lv_sub hl_2 [1] rfl)
  · rw [if_pos hc] at h_5
    refine lv_iload_n C.1 C.2.1 dX0_readLine_48 rfl (lv_at hl_2 0 rfl) ?_
    refine lv_if_eq (tgt := 88) C.1 C.2.1 dX0_readLine_49 (by decide) (fun hc => ?_) (fun hc => ?_)
    · rw [if_pos hc] at h_5
      exact wc_X0_readLine_88 C h_5 G_8 ha (lv_sub hl_2 [1] rfl)
    · rw [if_neg hc] at h_5
      refine lv_aload_n C.1 C.2.1 dX0_readLine_52 rfl (lv_at hl_2 1 rfl) ?_
      refine lv_aload_n C.1 C.2.1 dX0_readLine_53 rfl (lv_at hl_2 1 rfl) ?_
      refine cg_0_42 C G_8 ha dX0_readLine_54 (fun t_59 => ?_)
      have t_59 : (T_6 1).1 = 20 := by rw [t_59]
      refine cg_0_103 C G_8 t_59 dX0_readLine_57 (fun t_60 => ?_)
      refine lv_aload_n C.1 C.2.1 dX0_readLine_60 rfl (lv_at hl_2 1 rfl) ?_
      refine cg_0_70 C G_8 ha dX0_readLine_61 ?_
      obtain ⟨hi, h_61⟩ := ix_some h_5
      refine cl_lald C G_8 t_60 hi dX0_readLine_64 ?_
      refine lv_aload_n C.1 C.2.1 dX0_readLine_65 rfl (lv_at hl_2 1 rfl) ?_
      refine cg_0_42 C G_8 ha dX0_readLine_66 (fun t_62 => ?_)
      have t_62 : (T_6 1).1 = 20 := by rw [t_62]
      refine cg_0_96 C G_8 t_62 dX0_readLine_69 (fun t_63 => ?_)
      refine lv_aload_n C.1 C.2.1 dX0_readLine_72 rfl (lv_at hl_2 1 rfl) ?_
      refine cg_0_70 C G_8 ha dX0_readLine_73 ?_
      obtain ⟨hi, h_64⟩ := ix_some h_61
      refine cl_iald C G_8 t_63 hi dX0_readLine_76 ?_
      obtain ⟨σ_65, hq, h_66⟩ := bd1_some h_64
      refine cl_callV (ci := 0) (rest := []) C G_8 rfl ha cw_RX0_106 [.long (σ_3.2.1 (1 + 4) (σ_3.1 a 2).toNatClampNeg), .int (σ_3.1 (1 + 3) (σ_3.1 a 2).toNatClampNeg)] _ (kc_X0_tellLabel l D c0 (by rw [G_8.1]; exact ha) hq) (Nat.le_of_ble_eq_true rfl) (Nat.le_of_ble_eq_true rfl) rfl rfl hl_2.1 (Nat.le_of_ble_eq_true rfl) dX0_readLine_77 (fun T_67 H locs cells slots t_68 hu G_69 => ?_)
      have ha := hu.kind ha (by decide)
      refine W.eq (g2 := F0 m 80 ls []) rfl ?_
      refine lv_aload_n C.1 C.2.1 dX0_readLine_80 rfl (lv_at hl_2 1 rfl) ?_
      obtain ⟨σ_70, hq, h_71⟩ := bd1_some h_66
      refine cl_callV (ci := 0) (rest := []) C G_69 rfl ha cw_RX0_110 [] _ (kc_X0_advance l D c0 (by rw [G_69.1]; exact ha) hq) (Nat.le_of_ble_eq_true rfl) (Nat.le_of_ble_eq_true rfl) rfl rfl hl_2.1 (Nat.le_of_ble_eq_true rfl) dX0_readLine_81 (fun T_72 H locs cells slots t_73 hu G_74 => ?_)
      have ha := hu.kind ha (by decide)
      refine W.eq (g2 := F0 m 84 ls []) rfl ?_
      refine lv_aload_n C.1 C.2.1 dX0_readLine_84 rfl (lv_at hl_2 1 rfl) ?_
      obtain ⟨σ_75, hq, h_76⟩ := bd1_some h_71
      refine cl_callV (ci := 0) (rest := []) C G_74 rfl ha cw_RX0_110 [] _ (kc_X0_advance l D c0 (by rw [G_74.1]; exact ha) hq) (Nat.le_of_ble_eq_true rfl) (Nat.le_of_ble_eq_true rfl) rfl rfl hl_2.1 (Nat.le_of_ble_eq_true rfl) dX0_readLine_85 (fun T_77 H locs cells slots t_78 hu G_79 => ?_)
      have ha := hu.kind ha (by decide)
      refine W.eq (g2 := F0 m 88 ls []) rfl ?_
      exact wc_X0_readLine_88 C h_76 G_79 ha (lv_sub hl_2 [1] rfl)
noncomputable def bc_X0_readLine_38 (a : Nat) (σ : cl_S) : Option (cl_S) := bc_X0_readLine_39 a (0:Int32) σ
set_option maxHeartbeats 4000000 in
theorem wc_X0_readLine_38 (C : cl_C D p s m args meth c cX0_readLine 5 none RX0) {a : Nat} {σ0 σ σ' : cl_S} {T : Nat → Nat × Nat} {H : Heap} {locs : List Loc} {ls : Array Slot} {cells slots : Nat} (h : bc_X0_readLine_38 a σ = some σ') (G : cl_G true D c0 ({ frames := 5, cells := σ0.2.2.2.2.2.1, slots := σ0.2.2.2.2.2.2, locals := 113 }) s σ0.2.2.2.1 T σ H locs cells slots) (ha : (T a).1 = 16) (hl : lv_has ls 5 [(0, .ref (c0 + a))]) : W p l e ({ frames := 5, cells := σ0.2.2.2.2.2.1, slots := σ0.2.2.2.2.2.2, locals := 113 }) s m args below meth c H locs cells slots (MQ below (cl_Q true D c0 none cl_no σ0 σ') args s (σ0.2.2.2.2.2.1 - σ'.2.2.2.2.2.1) (σ0.2.2.2.2.2.2 - σ'.2.2.2.2.2.2) (cl_A c0 σ0.2.2.2.1 s.heap.size)) (F0 m 38 ls []) := by
  unfold bc_X0_readLine_38 at h
  refine lv_iconst (v := (0:Int32)) C.1 C.2.1 dX0_readLine_38 (by decide) ?_
  exact wc_X0_readLine_39 C h G ha (lv_sub hl [0] rfl)
noncomputable def bc_X0_readLine_0 (a : Nat) (σ : cl_S) : Option (cl_S) := (if (σ.1 1 6) ≤ ((σ.1 a 2) + (1:Int32)) then bc_X0_readLine_38 a σ else ix ((σ.1 a 2) + (1:Int32)) 6001 ((if (σ.1 (1 + 2) ((σ.1 a 2) + (1:Int32)).toNatClampNeg) = (5:Int32) then bc_X0_readLine_39 a (1:Int32) σ else bc_X0_readLine_38 a σ)))
set_option maxHeartbeats 4000000 in
theorem wc_X0_readLine_0 (C : cl_C D p s m args meth c cX0_readLine 5 none RX0) {a : Nat} {σ0 σ σ' : cl_S} {T : Nat → Nat × Nat} {H : Heap} {locs : List Loc} {ls : Array Slot} {cells slots : Nat} (h : bc_X0_readLine_0 a σ = some σ') (G : cl_G true D c0 ({ frames := 5, cells := σ0.2.2.2.2.2.1, slots := σ0.2.2.2.2.2.2, locals := 113 }) s σ0.2.2.2.1 T σ H locs cells slots) (ha : (T a).1 = 16) (hl : lv_has ls 5 [(0, .ref (c0 + a))]) : W p l e ({ frames := 5, cells := σ0.2.2.2.2.2.1, slots := σ0.2.2.2.2.2.2, locals := 113 }) s m args below meth c H locs cells slots (MQ below (cl_Q true D c0 none cl_no σ0 σ') args s (σ0.2.2.2.2.2.1 - σ'.2.2.2.2.2.1) (σ0.2.2.2.2.2.2 - σ'.2.2.2.2.2.2) (cl_A c0 σ0.2.2.2.1 s.heap.size)) (F0 m 0 ls []) := by
  unfold bc_X0_readLine_0 at h
  refine lv_aload_n C.1 C.2.1 dX0_readLine_0 rfl (lv_at hl 0 rfl) ?_
  refine cg_0_70 C G ha dX0_readLine_1 ?_
  refine lv_iconst (v := (1:Int32)) C.1 C.2.1 dX0_readLine_4 (by decide) ?_
  refine lv_iadd C.1 C.2.1 dX0_readLine_5 ?_
  refine lv_aload_n C.1 C.2.1 dX0_readLine_6 rfl (lv_at hl 0 rfl) ?_
  refine cg_0_42 C G ha dX0_readLine_7 (fun t_1 => ?_)
  have t_1 : (T 1).1 = 20 := by rw [t_1]
  refine cg_0_95 C G t_1 dX0_readLine_10 ?_
  refine lv_icmp_ge (tgt := 38) C.1 C.2.1 dX0_readLine_13 (by decide) (fun hc => ?_) (fun hc => ?_)
  · rw [if_pos hc] at h
    exact wc_X0_readLine_38 C h G ha (lv_sub hl [0] rfl)
  · rw [if_neg hc] at h
    refine lv_aload_n C.1 C.2.1 dX0_readLine_16 rfl (lv_at hl 0 rfl) ?_
    refine cg_0_42 C G ha dX0_readLine_17 (fun t_80 => ?_)
    have t_80 : (T 1).1 = 20 := by rw [t_80]
    refine cg_0_92 C G t_80 dX0_readLine_20 (fun t_81 => ?_)
    refine lv_aload_n C.1 C.2.1 dX0_readLine_23 rfl (lv_at hl 0 rfl) ?_
    refine cg_0_70 C G ha dX0_readLine_24 ?_
    refine lv_iconst (v := (1:Int32)) C.1 C.2.1 dX0_readLine_27 (by decide) ?_
    refine lv_iadd C.1 C.2.1 dX0_readLine_28 ?_
    obtain ⟨hi, h_82⟩ := ix_some h
    refine cl_iald C G t_81 hi dX0_readLine_29 ?_
    refine lv_iconst (v := (5:Int32)) C.1 C.2.1 dX0_readLine_30 (by decide) ?_
    refine lv_icmp_ne (tgt := 38) C.1 C.2.1 dX0_readLine_31 (by decide) (fun hc => ?_) (fun hc => ?_)
    · rw [if_neg hc] at h_82
      exact wc_X0_readLine_38 C h_82 G ha (lv_sub hl [0] rfl)
    · rw [if_pos hc] at h_82
      refine lv_iconst (v := (1:Int32)) C.1 C.2.1 dX0_readLine_34 (by decide) ?_
      refine lv_goto (tgt := 39) C.1 C.2.1 dX0_readLine_35 (by decide) ?_
      exact wc_X0_readLine_39 C h_82 G ha (lv_sub hl [0] rfl)
noncomputable def fc_X0_readLine (a : Nat) (σ : cl_S) : Option (cl_S) := bc_X0_readLine_0 a σ
theorem kc_X0_readLine (l : Launch) (D : cl_D) (c0 : Nat) {a : Nat} {σ σ' : cl_S} (ha : (σ.2.2.2.1 a).1 = 16) (h : fc_X0_readLine a σ = some σ') : cl_Met true l D c0 yX0_readLine cX0_readLine 5 none 5 113 [.ref (c0 + a)] σ none cl_no σ' :=
  cl_of (by decide) (Nat.le_of_ble_eq_true rfl) (fun p e s m args below meth c ls C hn G hl => wc_X0_readLine_0 C h G ha hl)
abbrev cX0_settleUse : ByteArray := prog_2_method_27_code
def yX0_settleUse : MethodName := ⟨RX0, "settleUse", "(I)V"⟩
theorem dX0_settleUse_0 : decode cX0_settleUse 0 = .ok (.aload_n 0, 1) := by decide +kernel
theorem dX0_settleUse_1 : decode cX0_settleUse 1 = .ok (.aload_n 0, 1) := by decide +kernel
theorem dX0_settleUse_2 : decode cX0_settleUse 2 = .ok (.getfield 25, 3) := by decide +kernel
theorem dX0_settleUse_5 : decode cX0_settleUse 5 = .ok (.iload_n 1, 1) := by decide +kernel
theorem dX0_settleUse_6 : decode cX0_settleUse 6 = .ok (.laload, 1) := by decide +kernel
theorem dX0_settleUse_7 : decode cX0_settleUse 7 = .ok (.invokevirtual 119, 3) := by decide +kernel
theorem dX0_settleUse_10 : decode cX0_settleUse 10 = .ok (.istore_n 2, 1) := by decide +kernel
theorem dX0_settleUse_11 : decode cX0_settleUse 11 = .ok (.iload_n 2, 1) := by decide +kernel
theorem dX0_settleUse_12 : decode cX0_settleUse 12 = .ok (.ifCond .ge 16, 3) := by decide +kernel
theorem dX0_settleUse_15 : decode cX0_settleUse 15 = .ok (.aload_n 0, 1) := by decide +kernel
theorem dX0_settleUse_16 : decode cX0_settleUse 16 = .ok (.bipush 7, 2) := by decide +kernel
theorem dX0_settleUse_18 : decode cX0_settleUse 18 = .ok (.aload_n 0, 1) := by decide +kernel
theorem dX0_settleUse_19 : decode cX0_settleUse 19 = .ok (.getfield 31, 3) := by decide +kernel
theorem dX0_settleUse_22 : decode cX0_settleUse 22 = .ok (.iload_n 1, 1) := by decide +kernel
theorem dX0_settleUse_23 : decode cX0_settleUse 23 = .ok (.iaload, 1) := by decide +kernel
theorem dX0_settleUse_24 : decode cX0_settleUse 24 = .ok (.invokevirtual 99, 3) := by decide +kernel
theorem dX0_settleUse_27 : decode cX0_settleUse 27 = .ok (.return_, 1) := by decide +kernel
theorem dX0_settleUse_28 : decode cX0_settleUse 28 = .ok (.aload_n 0, 1) := by decide +kernel
theorem dX0_settleUse_29 : decode cX0_settleUse 29 = .ok (.getfield 28, 3) := by decide +kernel
theorem dX0_settleUse_32 : decode cX0_settleUse 32 = .ok (.iload_n 1, 1) := by decide +kernel
theorem dX0_settleUse_33 : decode cX0_settleUse 33 = .ok (.iaload, 1) := by decide +kernel
theorem dX0_settleUse_34 : decode cX0_settleUse 34 = .ok (.istore_n 3, 1) := by decide +kernel
theorem dX0_settleUse_35 : decode cX0_settleUse 35 = .ok (.aload_n 0, 1) := by decide +kernel
theorem dX0_settleUse_36 : decode cX0_settleUse 36 = .ok (.getfield 22, 3) := by decide +kernel
theorem dX0_settleUse_39 : decode cX0_settleUse 39 = .ok (.iload_n 2, 1) := by decide +kernel
theorem dX0_settleUse_40 : decode cX0_settleUse 40 = .ok (.iaload, 1) := by decide +kernel
theorem dX0_settleUse_41 : decode cX0_settleUse 41 = .ok (.istore 4, 2) := by decide +kernel
theorem dX0_settleUse_43 : decode cX0_settleUse 43 = .ok (.aload_n 0, 1) := by decide +kernel
theorem dX0_settleUse_44 : decode cX0_settleUse 44 = .ok (.getfield 15, 3) := by decide +kernel
theorem dX0_settleUse_47 : decode cX0_settleUse 47 = .ok (.iload_n 3, 1) := by decide +kernel
theorem dX0_settleUse_48 : decode cX0_settleUse 48 = .ok (.iaload, 1) := by decide +kernel
theorem dX0_settleUse_49 : decode cX0_settleUse 49 = .ok (.ifCond .ne 16, 3) := by decide +kernel
theorem dX0_settleUse_52 : decode cX0_settleUse 52 = .ok (.aload_n 0, 1) := by decide +kernel
theorem dX0_settleUse_53 : decode cX0_settleUse 53 = .ok (.getfield 15, 3) := by decide +kernel
theorem dX0_settleUse_56 : decode cX0_settleUse 56 = .ok (.iload_n 3, 1) := by decide +kernel
theorem dX0_settleUse_57 : decode cX0_settleUse 57 = .ok (.iconst 4, 1) := by decide +kernel
theorem dX0_settleUse_58 : decode cX0_settleUse 58 = .ok (.iload 4, 2) := by decide +kernel
theorem dX0_settleUse_60 : decode cX0_settleUse 60 = .ok (.imul, 1) := by decide +kernel
theorem dX0_settleUse_61 : decode cX0_settleUse 61 = .ok (.iastore, 1) := by decide +kernel
theorem dX0_settleUse_62 : decode cX0_settleUse 62 = .ok (.goto 19, 3) := by decide +kernel
theorem dX0_settleUse_65 : decode cX0_settleUse 65 = .ok (.aload_n 0, 1) := by decide +kernel
theorem dX0_settleUse_66 : decode cX0_settleUse 66 = .ok (.getfield 15, 3) := by decide +kernel
theorem dX0_settleUse_69 : decode cX0_settleUse 69 = .ok (.iload_n 3, 1) := by decide +kernel
theorem dX0_settleUse_70 : decode cX0_settleUse 70 = .ok (.dup2, 1) := by decide +kernel
theorem dX0_settleUse_71 : decode cX0_settleUse 71 = .ok (.iaload, 1) := by decide +kernel
theorem dX0_settleUse_72 : decode cX0_settleUse 72 = .ok (.iload 4, 2) := by decide +kernel
theorem dX0_settleUse_74 : decode cX0_settleUse 74 = .ok (.iload_n 3, 1) := by decide +kernel
theorem dX0_settleUse_75 : decode cX0_settleUse 75 = .ok (.isub, 1) := by decide +kernel
theorem dX0_settleUse_76 : decode cX0_settleUse 76 = .ok (.ldc 162, 2) := by decide +kernel
theorem dX0_settleUse_78 : decode cX0_settleUse 78 = .ok (.iand, 1) := by decide +kernel
theorem dX0_settleUse_79 : decode cX0_settleUse 79 = .ok (.ior, 1) := by decide +kernel
theorem dX0_settleUse_80 : decode cX0_settleUse 80 = .ok (.iastore, 1) := by decide +kernel
theorem dX0_settleUse_81 : decode cX0_settleUse 81 = .ok (.return_, 1) := by decide +kernel
theorem cc_X0_settleUse : Cond.code yX0_settleUse cX0_settleUse 5 none ∈ rf_tb := rf_at 888 (by decide +kernel) (by decide +kernel)
noncomputable def bc_X0_settleUse_0 (a : Nat) (x1 : Int32) (σ : cl_S) : Option (cl_S) := ix x1 2048 (bd2 (fc_X0_labelOf a (σ.2.1 (a + 5) x1.toNatClampNeg) σ) (fun r_4 σ_3 => (if 0 ≤ r_4 then ix x1 2048 (vl (σ_3.1 (a + 6) x1.toNatClampNeg) (fun x3_12 => ix r_4 200 (vl (σ_3.1 (a + 4) r_4.toNatClampNeg) (fun x4_17 => ix x3_12 2048 ((if (σ_3.1 (a + 2) x3_12.toNatClampNeg) = 0 then ix x3_12 2048 (vl (cl_w σ_3 (a + 2) x3_12.toNatClampNeg ((4:Int32) * x4_17)) (fun σ_30 => some σ_30)) else ix x3_12 2048 (ix x3_12 2048 (vl (cl_w σ_3 (a + 2) x3_12.toNatClampNeg ((σ_3.1 (a + 2) x3_12.toNatClampNeg) ||| ((x4_17 - x3_12) &&& (262143:Int32)))) (fun σ_24 => some σ_24))))))))) else ix x1 2048 (bd1 (fc_X0_fail a (7:Int32) (σ_3.1 (a + 7) x1.toNatClampNeg) σ_3) (fun σ_37 => some σ_37)))))
set_option maxHeartbeats 4000000 in
theorem wc_X0_settleUse_0 (C : cl_C D p s m args meth c cX0_settleUse 5 none RX0) {a : Nat} {x1 : Int32} {σ0 σ σ' : cl_S} {T : Nat → Nat × Nat} {H : Heap} {locs : List Loc} {ls : Array Slot} {cells slots : Nat} (h : bc_X0_settleUse_0 a x1 σ = some σ') (G : cl_G true D c0 ({ frames := 1, cells := σ0.2.2.2.2.2.1, slots := σ0.2.2.2.2.2.2, locals := 23 }) s σ0.2.2.2.1 T σ H locs cells slots) (ha : (T a).1 = 16) (hl : lv_has ls 5 [(0, .ref (c0 + a)), (1, .int x1)]) : W p l e ({ frames := 1, cells := σ0.2.2.2.2.2.1, slots := σ0.2.2.2.2.2.2, locals := 23 }) s m args below meth c H locs cells slots (MQ below (cl_Q true D c0 none cl_no σ0 σ') args s (σ0.2.2.2.2.2.1 - σ'.2.2.2.2.2.1) (σ0.2.2.2.2.2.2 - σ'.2.2.2.2.2.2) (cl_A c0 σ0.2.2.2.1 s.heap.size)) (F0 m 0 ls []) := by
  unfold bc_X0_settleUse_0 at h
  refine lv_aload_n C.1 C.2.1 dX0_settleUse_0 rfl (lv_at hl 0 rfl) ?_
  refine lv_aload_n C.1 C.2.1 dX0_settleUse_1 rfl (lv_at hl 0 rfl) ?_
  refine cg_0_25 C G ha dX0_settleUse_2 (fun t_1 => ?_)
  refine lv_iload_n C.1 C.2.1 dX0_settleUse_5 rfl (lv_at hl 1 rfl) ?_
  obtain ⟨hi, h_2⟩ := ix_some h
  refine cl_lald C G t_1 hi dX0_settleUse_6 ?_
  obtain ⟨r_4, σ_3, hq, h_5⟩ := bd2_some h_2
  refine cl_callV (ci := 0) (rest := []) C G rfl ha cw_RX0_119 [.long (σ.2.1 (a + 5) x1.toNatClampNeg)] _ (kc_X0_labelOf l D c0 (by rw [G.1]; exact ha) hq) (Nat.le_of_ble_eq_true rfl) (Nat.le_of_ble_eq_true rfl) rfl rfl hl.1 (Nat.le_of_ble_eq_true rfl) dX0_settleUse_7 (fun T_6 H locs cells slots t_7 hu G_8 => ?_)
  have ha := hu.kind ha (by decide)
  refine W.eq (g2 := F0 m 10 ls [.int r_4]) rfl ?_
  refine lv_istore_n (lv' := [(2, .int r_4), (0, .ref (c0 + a)), (1, .int x1)]) C.1 C.2.1 dX0_settleUse_10 rfl hl (by decide) rfl (fun ls hl_9 => ?_)
  refine lv_iload_n C.1 C.2.1 dX0_settleUse_11 rfl (lv_at hl_9 0 rfl) ?_
  refine lv_if_ge (tgt := 28) C.1 C.2.1 dX0_settleUse_12 (by decide) (fun hc => ?_) (fun hc => ?_)
  · rw [if_pos hc] at h_5
    refine lv_aload_n C.1 C.2.1 dX0_settleUse_28 rfl (lv_at hl_9 1 rfl) ?_
    refine cg_0_28 C G_8 ha dX0_settleUse_29 (fun t_10 => ?_)
    refine lv_iload_n C.1 C.2.1 dX0_settleUse_32 rfl (lv_at hl_9 2 rfl) ?_
    obtain ⟨hi, h_11⟩ := ix_some h_5
    refine cl_iald C G_8 t_10 hi dX0_settleUse_33 ?_
    refine vt_i h_11 (fun x3_12 h_13 => ?_)
    refine lv_istore_n (lv' := [(3, .int x3_12), (2, .int r_4), (0, .ref (c0 + a)), (1, .int x1)]) C.1 C.2.1 dX0_settleUse_34 rfl hl_9 (by decide) rfl (fun ls hl_14 => ?_)
    refine lv_aload_n C.1 C.2.1 dX0_settleUse_35 rfl (lv_at hl_14 2 rfl) ?_
    refine cg_0_22 C G_8 ha dX0_settleUse_36 (fun t_15 => ?_)
    refine lv_iload_n C.1 C.2.1 dX0_settleUse_39 rfl (lv_at hl_14 1 rfl) ?_
    obtain ⟨hi, h_16⟩ := ix_some h_13
    refine cl_iald C G_8 t_15 hi dX0_settleUse_40 ?_
    refine vt_i h_16 (fun x4_17 h_18 => ?_)
    refine lv_istore (lv' := [(4, .int x4_17), (3, .int x3_12), (2, .int r_4), (0, .ref (c0 + a)), (1, .int x1)]) C.1 C.2.1 dX0_settleUse_41 hl_14 (by decide) rfl (fun ls hl_19 => ?_)
    refine lv_aload_n C.1 C.2.1 dX0_settleUse_43 rfl (lv_at hl_19 3 rfl) ?_
    refine cg_0_15 C G_8 ha dX0_settleUse_44 (fun t_20 => ?_)
    refine lv_iload_n C.1 C.2.1 dX0_settleUse_47 rfl (lv_at hl_19 1 rfl) ?_
    obtain ⟨hi, h_21⟩ := ix_some h_18
    refine cl_iald C G_8 t_20 hi dX0_settleUse_48 ?_
    refine lv_if_ne (tgt := 65) C.1 C.2.1 dX0_settleUse_49 (by decide) (fun hc => ?_) (fun hc => ?_)
    · rw [if_neg hc] at h_21
      refine lv_aload_n C.1 C.2.1 dX0_settleUse_65 rfl (lv_at hl_19 3 rfl) ?_
      refine cg_0_15 C G_8 ha dX0_settleUse_66 (fun t_22 => ?_)
      refine lv_iload_n C.1 C.2.1 dX0_settleUse_69 rfl (lv_at hl_19 1 rfl) ?_
      refine lv_dup2_11 C.1 C.2.1 dX0_settleUse_70 rfl rfl ?_
      obtain ⟨hi, h_23⟩ := ix_some h_21
      refine cl_iald C G_8 t_22 hi dX0_settleUse_71 ?_
      refine lv_iload C.1 C.2.1 dX0_settleUse_72 (lv_at hl_19 0 rfl) ?_
      refine lv_iload_n C.1 C.2.1 dX0_settleUse_74 rfl (lv_at hl_19 1 rfl) ?_
      refine lv_isub C.1 C.2.1 dX0_settleUse_75 ?_
      refine lv_ldc (v := (262143:Int32)) C.1 C.2.1 C.2.2.2.1 (C.2.2.2.2.1 _ kc_RX0_162) dX0_settleUse_76 ?_
      refine lv_iand C.1 C.2.1 dX0_settleUse_78 ?_
      refine lv_ior C.1 C.2.1 dX0_settleUse_79 ?_
      obtain ⟨hi, h_25⟩ := ix_some h_23
      refine cl_iast C G_8 t_22 hi dX0_settleUse_80 (fun H locs G_26 => ?_)
      refine cl_nm G_26 h_25 (fun σ_24 G_27 h_28 => ?_)
      exact cl_vret ⟨rfl, rfl⟩ rfl C G_27 h_28 dX0_settleUse_81
    · rw [if_pos hc] at h_21
      refine lv_aload_n C.1 C.2.1 dX0_settleUse_52 rfl (lv_at hl_19 3 rfl) ?_
      refine cg_0_15 C G_8 ha dX0_settleUse_53 (fun t_29 => ?_)
      refine lv_iload_n C.1 C.2.1 dX0_settleUse_56 rfl (lv_at hl_19 1 rfl) ?_
      refine lv_iconst (v := (4:Int32)) C.1 C.2.1 dX0_settleUse_57 (by decide) ?_
      refine lv_iload C.1 C.2.1 dX0_settleUse_58 (lv_at hl_19 0 rfl) ?_
      refine lv_imul C.1 C.2.1 dX0_settleUse_60 ?_
      obtain ⟨hi, h_31⟩ := ix_some h_21
      refine cl_iast C G_8 t_29 hi dX0_settleUse_61 (fun H locs G_32 => ?_)
      refine cl_nm G_32 h_31 (fun σ_30 G_33 h_34 => ?_)
      refine lv_goto (tgt := 81) C.1 C.2.1 dX0_settleUse_62 (by decide) ?_
      exact cl_vret ⟨rfl, rfl⟩ rfl C G_33 h_34 dX0_settleUse_81
  · rw [if_neg hc] at h_5
    refine lv_aload_n C.1 C.2.1 dX0_settleUse_15 rfl (lv_at hl_9 1 rfl) ?_
    refine lv_bipush (v := (7:Int32)) C.1 C.2.1 dX0_settleUse_16 (by decide) ?_
    refine lv_aload_n C.1 C.2.1 dX0_settleUse_18 rfl (lv_at hl_9 1 rfl) ?_
    refine cg_0_31 C G_8 ha dX0_settleUse_19 (fun t_35 => ?_)
    refine lv_iload_n C.1 C.2.1 dX0_settleUse_22 rfl (lv_at hl_9 2 rfl) ?_
    obtain ⟨hi, h_36⟩ := ix_some h_5
    refine cl_iald C G_8 t_35 hi dX0_settleUse_23 ?_
    obtain ⟨σ_37, hq, h_38⟩ := bd1_some h_36
    refine cl_callV (ci := 0) (rest := []) C G_8 rfl ha cw_RX0_99 [.int (7:Int32), .int (σ_3.1 (a + 7) x1.toNatClampNeg)] _ (kc_X0_fail l D c0 (by rw [G_8.1]; exact ha) hq) (Nat.le_of_ble_eq_true rfl) (Nat.le_of_ble_eq_true rfl) rfl rfl hl_9.1 (Nat.le_of_ble_eq_true rfl) dX0_settleUse_24 (fun T_39 H locs cells slots t_40 hu G_41 => ?_)
    have ha := hu.kind ha (by decide)
    refine W.eq (g2 := F0 m 27 ls []) rfl ?_
    exact cl_vret ⟨rfl, rfl⟩ rfl C G_41 h_38 dX0_settleUse_27
noncomputable def fc_X0_settleUse (a : Nat) (x1 : Int32) (σ : cl_S) : Option (cl_S) := bc_X0_settleUse_0 a x1 σ
theorem kc_X0_settleUse (l : Launch) (D : cl_D) (c0 : Nat) {a : Nat} {x1 : Int32} {σ σ' : cl_S} (ha : (σ.2.2.2.1 a).1 = 16) (h : fc_X0_settleUse a x1 σ = some σ') : cl_Met true l D c0 yX0_settleUse cX0_settleUse 5 none 1 23 [.ref (c0 + a), .int x1] σ none cl_no σ' :=
  cl_of (by decide) (Nat.le_of_ble_eq_true rfl) (fun p e s m args below meth c ls C hn G hl => wc_X0_settleUse_0 C h G ha hl)
abbrev cX0_translate : ByteArray := prog_2_method_3_code
def yX0_translate : MethodName := ⟨RX0, "translate", "()I"⟩
theorem dX0_translate_0 : decode cX0_translate 0 = .ok (.aload_n 0, 1) := by decide +kernel
theorem dX0_translate_1 : decode cX0_translate 1 = .ok (.iconst 0, 1) := by decide +kernel
theorem dX0_translate_2 : decode cX0_translate 2 = .ok (.putfield 58, 3) := by decide +kernel
theorem dX0_translate_5 : decode cX0_translate 5 = .ok (.aload_n 0, 1) := by decide +kernel
theorem dX0_translate_6 : decode cX0_translate 6 = .ok (.iconst 0, 1) := by decide +kernel
theorem dX0_translate_7 : decode cX0_translate 7 = .ok (.putfield 61, 3) := by decide +kernel
theorem dX0_translate_10 : decode cX0_translate 10 = .ok (.aload_n 0, 1) := by decide +kernel
theorem dX0_translate_11 : decode cX0_translate 11 = .ok (.iconst 0, 1) := by decide +kernel
theorem dX0_translate_12 : decode cX0_translate 12 = .ok (.putfield 64, 3) := by decide +kernel
theorem dX0_translate_15 : decode cX0_translate 15 = .ok (.aload_n 0, 1) := by decide +kernel
theorem dX0_translate_16 : decode cX0_translate 16 = .ok (.iconst 0, 1) := by decide +kernel
theorem dX0_translate_17 : decode cX0_translate 17 = .ok (.putfield 67, 3) := by decide +kernel
theorem dX0_translate_20 : decode cX0_translate 20 = .ok (.aload_n 0, 1) := by decide +kernel
theorem dX0_translate_21 : decode cX0_translate 21 = .ok (.iconst (-1), 1) := by decide +kernel
theorem dX0_translate_22 : decode cX0_translate 22 = .ok (.putfield 34, 3) := by decide +kernel
theorem dX0_translate_25 : decode cX0_translate 25 = .ok (.aload_n 0, 1) := by decide +kernel
theorem dX0_translate_26 : decode cX0_translate 26 = .ok (.iconst 0, 1) := by decide +kernel
theorem dX0_translate_27 : decode cX0_translate 27 = .ok (.putfield 70, 3) := by decide +kernel
theorem dX0_translate_30 : decode cX0_translate 30 = .ok (.aload_n 0, 1) := by decide +kernel
theorem dX0_translate_31 : decode cX0_translate 31 = .ok (.getfield 42, 3) := by decide +kernel
theorem dX0_translate_34 : decode cX0_translate 34 = .ok (.invokevirtual 73, 3) := by decide +kernel
theorem dX0_translate_37 : decode cX0_translate 37 = .ok (.iconst 0, 1) := by decide +kernel
theorem dX0_translate_38 : decode cX0_translate 38 = .ok (.istore_n 1, 1) := by decide +kernel
theorem dX0_translate_39 : decode cX0_translate 39 = .ok (.iload_n 1, 1) := by decide +kernel
theorem dX0_translate_40 : decode cX0_translate 40 = .ok (.sipush 6000, 3) := by decide +kernel
theorem dX0_translate_43 : decode cX0_translate 43 = .ok (.if_icmp .gt 27, 3) := by decide +kernel
theorem dX0_translate_46 : decode cX0_translate 46 = .ok (.aload_n 0, 1) := by decide +kernel
theorem dX0_translate_47 : decode cX0_translate 47 = .ok (.getfield 67, 3) := by decide +kernel
theorem dX0_translate_50 : decode cX0_translate 50 = .ok (.ifCond .ne 20, 3) := by decide +kernel
theorem dX0_translate_53 : decode cX0_translate 53 = .ok (.aload_n 0, 1) := by decide +kernel
theorem dX0_translate_54 : decode cX0_translate 54 = .ok (.invokevirtual 78, 3) := by decide +kernel
theorem dX0_translate_57 : decode cX0_translate 57 = .ok (.ifCond .eq 13, 3) := by decide +kernel
theorem dX0_translate_60 : decode cX0_translate 60 = .ok (.aload_n 0, 1) := by decide +kernel
theorem dX0_translate_61 : decode cX0_translate 61 = .ok (.invokevirtual 82, 3) := by decide +kernel
theorem dX0_translate_64 : decode cX0_translate 64 = .ok (.iinc 1 1, 3) := by decide +kernel
theorem dX0_translate_67 : decode cX0_translate 67 = .ok (.goto (-28), 3) := by decide +kernel
theorem dX0_translate_70 : decode cX0_translate 70 = .ok (.iconst 0, 1) := by decide +kernel
theorem dX0_translate_71 : decode cX0_translate 71 = .ok (.istore_n 1, 1) := by decide +kernel
theorem dX0_translate_72 : decode cX0_translate 72 = .ok (.iload_n 1, 1) := by decide +kernel
theorem dX0_translate_73 : decode cX0_translate 73 = .ok (.aload_n 0, 1) := by decide +kernel
theorem dX0_translate_74 : decode cX0_translate 74 = .ok (.getfield 64, 3) := by decide +kernel
theorem dX0_translate_77 : decode cX0_translate 77 = .ok (.if_icmp .ge 21, 3) := by decide +kernel
theorem dX0_translate_80 : decode cX0_translate 80 = .ok (.aload_n 0, 1) := by decide +kernel
theorem dX0_translate_81 : decode cX0_translate 81 = .ok (.getfield 67, 3) := by decide +kernel
theorem dX0_translate_84 : decode cX0_translate 84 = .ok (.ifCond .ne 14, 3) := by decide +kernel
theorem dX0_translate_87 : decode cX0_translate 87 = .ok (.aload_n 0, 1) := by decide +kernel
theorem dX0_translate_88 : decode cX0_translate 88 = .ok (.iload_n 1, 1) := by decide +kernel
theorem dX0_translate_89 : decode cX0_translate 89 = .ok (.invokevirtual 85, 3) := by decide +kernel
theorem dX0_translate_92 : decode cX0_translate 92 = .ok (.iinc 1 1, 3) := by decide +kernel
theorem dX0_translate_95 : decode cX0_translate 95 = .ok (.goto (-23), 3) := by decide +kernel
theorem dX0_translate_98 : decode cX0_translate 98 = .ok (.aload_n 0, 1) := by decide +kernel
theorem dX0_translate_99 : decode cX0_translate 99 = .ok (.getfield 42, 3) := by decide +kernel
theorem dX0_translate_102 : decode cX0_translate 102 = .ok (.iconst 0, 1) := by decide +kernel
theorem dX0_translate_103 : decode cX0_translate 103 = .ok (.putfield 89, 3) := by decide +kernel
theorem dX0_translate_106 : decode cX0_translate 106 = .ok (.aload_n 0, 1) := by decide +kernel
theorem dX0_translate_107 : decode cX0_translate 107 = .ok (.getfield 67, 3) := by decide +kernel
theorem dX0_translate_110 : decode cX0_translate 110 = .ok (.ireturn, 1) := by decide +kernel
theorem cc_X0_translate : Cond.code yX0_translate cX0_translate 2 (some .int) ∈ rf_tb := rf_at 755 (by decide +kernel) (by decide +kernel)
theorem cw_RX0_73 : cl_wV RX0 RX4 yX4_readTokens cX4_readTokens 3 none 73 0 := ⟨⟨rf_at 756 (by decide +kernel) (by decide +kernel), rf_at 757 (by decide +kernel) (by decide +kernel), rf_at 758 (by decide +kernel) (by decide +kernel), cc_X4_readTokens, rf_at 2 (by decide +kernel) (by decide +kernel)⟩, ⟨by decide, by decide, by decide +kernel⟩⟩
theorem cw_RX0_82 : cl_wV RX0 RX0 yX0_readLine cX0_readLine 5 none 82 0 := ⟨⟨rf_at 789 (by decide +kernel) (by decide +kernel), rf_at 791 (by decide +kernel) (by decide +kernel), rf_sel (q := (yX0_readLine, 16)) 6 (by decide +kernel) (by decide +kernel), cc_X0_readLine, rf_at 3 (by decide +kernel) (by decide +kernel)⟩, ⟨by decide, by decide, by decide +kernel⟩⟩
theorem cw_RX0_85 : cl_wV RX0 RX0 yX0_settleUse cX0_settleUse 5 none 85 1 := ⟨⟨rf_at 885 (by decide +kernel) (by decide +kernel), rf_at 887 (by decide +kernel) (by decide +kernel), rf_sel (q := (yX0_settleUse, 16)) 20 (by decide +kernel) (by decide +kernel), cc_X0_settleUse, rf_at 3 (by decide +kernel) (by decide +kernel)⟩, ⟨by decide, by decide, by decide +kernel⟩⟩
noncomputable def lc_X0_translate_39 (a : Nat) (x1 : Int32) (σ : cl_S) : Option ((Int32 × cl_S) ⊕ (Int32 × cl_S)) := (if (6000:Int32) < x1 then some (.inr (x1, σ)) else (if (σ.1 a 12) = 0 then bd2 (fc_X0_token a σ) (fun r_33 σ_32 => (if r_33 = 0 then some (.inr (x1, σ_32)) else bd1 (fc_X0_readLine a σ_32) (fun σ_38 => vl (x1 + (1:Int32)) (fun x1_43 => some (.inl (x1_43, σ_38)))))) else some (.inr (x1, σ))))
noncomputable def lc_X0_translate_72 (a : Nat) (x1 : Int32) (σ : cl_S) : Option ((Int32 × cl_S) ⊕ (Int32 × cl_S)) := (if (σ.1 a 11) ≤ x1 then some (.inr (x1, σ)) else (if (σ.1 a 12) = 0 then bd1 (fc_X0_settleUse a x1 σ) (fun σ_47 => vl (x1 + (1:Int32)) (fun x1_52 => some (.inl (x1_52, σ_47)))) else some (.inr (x1, σ))))
noncomputable def bc_X0_translate_98 (a : Nat) (σ : cl_S) : Option (Int32 × cl_S) := vl (cl_w σ 1 1 (0:Int32)) (fun σ_56 => some ((σ_56.1 a 12), σ_56))
set_option maxHeartbeats 4000000 in
theorem wc_X0_translate_98 (C : cl_C D p s m args meth c cX0_translate 2 (some .int) RX0) {r : Int32} {a : Nat} {σ0 σ σ' : cl_S} {T : Nat → Nat × Nat} {H : Heap} {locs : List Loc} {ls : Array Slot} {cells slots : Nat} (h : bc_X0_translate_98 a σ = some (r, σ')) (G : cl_G true D c0 ({ frames := 6, cells := σ0.2.2.2.2.2.1, slots := σ0.2.2.2.2.2.2, locals := 137 }) s σ0.2.2.2.1 T σ H locs cells slots) (ha : (T a).1 = 16) (hl : lv_has ls 2 [(0, .ref (c0 + a))]) : W p l e ({ frames := 6, cells := σ0.2.2.2.2.2.1, slots := σ0.2.2.2.2.2.2, locals := 137 }) s m args below meth c H locs cells slots (MQ below (cl_Q true D c0 (some (.int r)) cl_no σ0 σ') args s (σ0.2.2.2.2.2.1 - σ'.2.2.2.2.2.1) (σ0.2.2.2.2.2.2 - σ'.2.2.2.2.2.2) (cl_A c0 σ0.2.2.2.1 s.heap.size)) (F0 m 98 ls []) := by
  unfold bc_X0_translate_98 at h
  refine lv_aload_n C.1 C.2.1 dX0_translate_98 rfl (lv_at hl 0 rfl) ?_
  refine cg_0_42 C G ha dX0_translate_99 (fun t_55 => ?_)
  have t_55 : (T 1).1 = 20 := by rw [t_55]
  refine lv_iconst (v := (0:Int32)) C.1 C.2.1 dX0_translate_102 (by decide) ?_
  refine cp_0_89 C G t_55 dX0_translate_103 (fun H locs G_57 => ?_)
  refine cl_nm G_57 h (fun σ_56 G_58 h_59 => ?_)
  refine lv_aload_n C.1 C.2.1 dX0_translate_106 rfl (lv_at hl 0 rfl) ?_
  refine cg_0_67 C G_58 ha dX0_translate_107 ?_
  exact cl_iret ⟨rfl, rfl⟩ rfl C G_58 h_59 dX0_translate_110
noncomputable def ec_X0_translate_72 (a : Nat) (x1 : Int32) (σ : cl_S) : Option (Int32 × cl_S) := bc_X0_translate_98 a σ
noncomputable def bc_X0_translate_72 (a : Nat) (x1 : Int32) (σ : cl_S) : Option (Int32 × cl_S) := (lp (fun z : (Int32 × cl_S) => lc_X0_translate_72 a z.1 z.2) (x1, σ)).bind (fun z => ec_X0_translate_72 a z.1 z.2)
set_option maxHeartbeats 4000000 in
theorem wc_X0_translate_72 (C : cl_C D p s m args meth c cX0_translate 2 (some .int) RX0) {r : Int32} {a : Nat} {x1 : Int32} {σ0 σ σ' : cl_S} {T : Nat → Nat × Nat} {H : Heap} {locs : List Loc} {ls : Array Slot} {cells slots : Nat} (h : bc_X0_translate_72 a x1 σ = some (r, σ')) (G : cl_G true D c0 ({ frames := 6, cells := σ0.2.2.2.2.2.1, slots := σ0.2.2.2.2.2.2, locals := 137 }) s σ0.2.2.2.1 T σ H locs cells slots) (ha : (T a).1 = 16) (hl : lv_has ls 2 [(0, .ref (c0 + a)), (1, .int x1)]) : W p l e ({ frames := 6, cells := σ0.2.2.2.2.2.1, slots := σ0.2.2.2.2.2.2, locals := 137 }) s m args below meth c H locs cells slots (MQ below (cl_Q true D c0 (some (.int r)) cl_no σ0 σ') args s (σ0.2.2.2.2.2.1 - σ'.2.2.2.2.2.1) (σ0.2.2.2.2.2.2 - σ'.2.2.2.2.2.2) (cl_A c0 σ0.2.2.2.1 s.heap.size)) (F0 m 72 ls []) := by
  unfold bc_X0_translate_72 at h
  obtain ⟨y, hy, h⟩ := bd_some h
  have hE : (fun z : (Int32 × cl_S) => ∀ (T : Nat → Nat × Nat) (H : Heap) (locs : List Loc) (ls : Array Slot) (cells slots : Nat), cl_G true D c0 ({ frames := 6, cells := σ0.2.2.2.2.2.1, slots := σ0.2.2.2.2.2.2, locals := 137 }) s σ0.2.2.2.1 T z.2 H locs cells slots → (T a).1 = 16 → lv_has ls 2 [(0, .ref (c0 + a)), (1, .int (z.1))] → W p l e ({ frames := 6, cells := σ0.2.2.2.2.2.1, slots := σ0.2.2.2.2.2.2, locals := 137 }) s m args below meth c H locs cells slots (MQ below (cl_Q true D c0 (some (.int r)) cl_no σ0 σ') args s (σ0.2.2.2.2.2.1 - σ'.2.2.2.2.2.1) (σ0.2.2.2.2.2.2 - σ'.2.2.2.2.2.2) (cl_A c0 σ0.2.2.2.1 s.heap.size)) (F0 m 98 ls [])) y := by
    clear hy G ha hl
    intro T H locs ls cells slots G ha hl
    obtain ⟨x1, σ⟩ := y
    dsimp only at h G ha hl
    unfold ec_X0_translate_72 at h
    exact wc_X0_translate_98 C h G ha (lv_sub hl [0] rfl)
  refine lp_recE (fun z : (Int32 × cl_S) => ∀ (T : Nat → Nat × Nat) (H : Heap) (locs : List Loc) (ls : Array Slot) (cells slots : Nat), cl_G true D c0 ({ frames := 6, cells := σ0.2.2.2.2.2.1, slots := σ0.2.2.2.2.2.2, locals := 137 }) s σ0.2.2.2.1 T z.2 H locs cells slots → (T a).1 = 16 → lv_has ls 2 [(0, .ref (c0 + a)), (1, .int (z.1))] → W p l e ({ frames := 6, cells := σ0.2.2.2.2.2.1, slots := σ0.2.2.2.2.2.2, locals := 137 }) s m args below meth c H locs cells slots (MQ below (cl_Q true D c0 (some (.int r)) cl_no σ0 σ') args s (σ0.2.2.2.2.2.1 - σ'.2.2.2.2.2.1) (σ0.2.2.2.2.2.2 - σ'.2.2.2.2.2.2) (cl_A c0 σ0.2.2.2.1 s.heap.size)) (F0 m 72 ls [])) (fun z : (Int32 × cl_S) => ∀ (T : Nat → Nat × Nat) (H : Heap) (locs : List Loc) (ls : Array Slot) (cells slots : Nat), cl_G true D c0 ({ frames := 6, cells := σ0.2.2.2.2.2.1, slots := σ0.2.2.2.2.2.2, locals := 137 }) s σ0.2.2.2.1 T z.2 H locs cells slots → (T a).1 = 16 → lv_has ls 2 [(0, .ref (c0 + a)), (1, .int (z.1))] → W p l e ({ frames := 6, cells := σ0.2.2.2.2.2.1, slots := σ0.2.2.2.2.2.2, locals := 137 }) s m args below meth c H locs cells slots (MQ below (cl_Q true D c0 (some (.int r)) cl_no σ0 σ') args s (σ0.2.2.2.2.2.1 - σ'.2.2.2.2.2.1) (σ0.2.2.2.2.2.2 - σ'.2.2.2.2.2.2) (cl_A c0 σ0.2.2.2.1 s.heap.size)) (F0 m 98 ls [])) ?_ _ _ hy hE _ _ _ _ _ _ G ha hl
  clear hE hy G ha hl h
  intro z o h hP T H locs ls cells slots G ha hl
  obtain ⟨x1, σ⟩ := z
  dsimp only at h G ha hl
  unfold lc_X0_translate_72 at h
  refine lv_iload_n C.1 C.2.1 dX0_translate_72 rfl (lv_at hl 1 rfl) ?_
  refine lv_aload_n C.1 C.2.1 dX0_translate_73 rfl (lv_at hl 0 rfl) ?_
  refine cg_0_64 C G ha dX0_translate_74 ?_
  refine lv_icmp_ge (tgt := 98) C.1 C.2.1 dX0_translate_77 (by decide) (fun hc => ?_) (fun hc => ?_)
  · rw [if_pos hc] at h
    cases h
    exact hP _ _ _ _ _ _ G ha (lv_sub hl [0, 1] rfl)
  · rw [if_neg hc] at h
    refine lv_aload_n C.1 C.2.1 dX0_translate_80 rfl (lv_at hl 0 rfl) ?_
    refine cg_0_67 C G ha dX0_translate_81 ?_
    refine lv_if_ne (tgt := 98) C.1 C.2.1 dX0_translate_84 (by decide) (fun hc => ?_) (fun hc => ?_)
    · rw [if_neg hc] at h
      cases h
      exact hP _ _ _ _ _ _ G ha (lv_sub hl [0, 1] rfl)
    · rw [if_pos hc] at h
      refine lv_aload_n C.1 C.2.1 dX0_translate_87 rfl (lv_at hl 0 rfl) ?_
      refine lv_iload_n C.1 C.2.1 dX0_translate_88 rfl (lv_at hl 1 rfl) ?_
      obtain ⟨σ_47, hq, h_48⟩ := bd1_some h
      refine cl_callV (ci := 0) (rest := []) C G rfl ha cw_RX0_85 [.int x1] _ (kc_X0_settleUse l D c0 (by rw [G.1]; exact ha) hq) (Nat.le_of_ble_eq_true rfl) (Nat.le_of_ble_eq_true rfl) rfl rfl hl.1 (Nat.le_of_ble_eq_true rfl) dX0_translate_89 (fun T_49 H locs cells slots t_50 hu G_51 => ?_)
      have ha := hu.kind ha (by decide)
      refine W.eq (g2 := F0 m 92 ls []) rfl ?_
      refine vl_ex h_48 (fun x1_52 ey h_53 => ?_)
      refine lv_iinc (v := x1_52) (lv' := [(1, .int x1_52), (0, .ref (c0 + a))]) C.1 C.2.1 dX0_translate_92 hl (k := 1) rfl (by rw [ey]; rfl) (by decide) rfl (fun ls hl_54 => ?_)
      refine lv_goto (tgt := 72) C.1 C.2.1 dX0_translate_95 (by decide) ?_
      cases h_53
      exact hP _ _ _ _ _ _ G_51 ha (lv_sub hl_54 [1, 0] rfl)
noncomputable def bc_X0_translate_70 (a : Nat) (σ : cl_S) : Option (Int32 × cl_S) := bc_X0_translate_72 a (0:Int32) σ
set_option maxHeartbeats 4000000 in
theorem wc_X0_translate_70 (C : cl_C D p s m args meth c cX0_translate 2 (some .int) RX0) {r : Int32} {a : Nat} {σ0 σ σ' : cl_S} {T : Nat → Nat × Nat} {H : Heap} {locs : List Loc} {ls : Array Slot} {cells slots : Nat} (h : bc_X0_translate_70 a σ = some (r, σ')) (G : cl_G true D c0 ({ frames := 6, cells := σ0.2.2.2.2.2.1, slots := σ0.2.2.2.2.2.2, locals := 137 }) s σ0.2.2.2.1 T σ H locs cells slots) (ha : (T a).1 = 16) (hl : lv_has ls 2 [(0, .ref (c0 + a))]) : W p l e ({ frames := 6, cells := σ0.2.2.2.2.2.1, slots := σ0.2.2.2.2.2.2, locals := 137 }) s m args below meth c H locs cells slots (MQ below (cl_Q true D c0 (some (.int r)) cl_no σ0 σ') args s (σ0.2.2.2.2.2.1 - σ'.2.2.2.2.2.1) (σ0.2.2.2.2.2.2 - σ'.2.2.2.2.2.2) (cl_A c0 σ0.2.2.2.1 s.heap.size)) (F0 m 70 ls []) := by
  unfold bc_X0_translate_70 at h
  refine lv_iconst (v := (0:Int32)) C.1 C.2.1 dX0_translate_70 (by decide) ?_
  refine lv_istore_n (lv' := [(1, .int (0:Int32)), (0, .ref (c0 + a))]) C.1 C.2.1 dX0_translate_71 rfl hl (by decide) rfl (fun ls hl_46 => ?_)
  exact wc_X0_translate_72 C h G ha (lv_sub hl_46 [1, 0] rfl)
noncomputable def ec_X0_translate_39 (a : Nat) (x1 : Int32) (σ : cl_S) : Option (Int32 × cl_S) := bc_X0_translate_70 a σ
noncomputable def bc_X0_translate_39 (a : Nat) (x1 : Int32) (σ : cl_S) : Option (Int32 × cl_S) := (lp (fun z : (Int32 × cl_S) => lc_X0_translate_39 a z.1 z.2) (x1, σ)).bind (fun z => ec_X0_translate_39 a z.1 z.2)
set_option maxHeartbeats 4000000 in
theorem wc_X0_translate_39 (C : cl_C D p s m args meth c cX0_translate 2 (some .int) RX0) {r : Int32} {a : Nat} {x1 : Int32} {σ0 σ σ' : cl_S} {T : Nat → Nat × Nat} {H : Heap} {locs : List Loc} {ls : Array Slot} {cells slots : Nat} (h : bc_X0_translate_39 a x1 σ = some (r, σ')) (G : cl_G true D c0 ({ frames := 6, cells := σ0.2.2.2.2.2.1, slots := σ0.2.2.2.2.2.2, locals := 137 }) s σ0.2.2.2.1 T σ H locs cells slots) (ha : (T a).1 = 16) (hl : lv_has ls 2 [(0, .ref (c0 + a)), (1, .int x1)]) : W p l e ({ frames := 6, cells := σ0.2.2.2.2.2.1, slots := σ0.2.2.2.2.2.2, locals := 137 }) s m args below meth c H locs cells slots (MQ below (cl_Q true D c0 (some (.int r)) cl_no σ0 σ') args s (σ0.2.2.2.2.2.1 - σ'.2.2.2.2.2.1) (σ0.2.2.2.2.2.2 - σ'.2.2.2.2.2.2) (cl_A c0 σ0.2.2.2.1 s.heap.size)) (F0 m 39 ls []) := by
  unfold bc_X0_translate_39 at h
  obtain ⟨y, hy, h⟩ := bd_some h
  have hE : (fun z : (Int32 × cl_S) => ∀ (T : Nat → Nat × Nat) (H : Heap) (locs : List Loc) (ls : Array Slot) (cells slots : Nat), cl_G true D c0 ({ frames := 6, cells := σ0.2.2.2.2.2.1, slots := σ0.2.2.2.2.2.2, locals := 137 }) s σ0.2.2.2.1 T z.2 H locs cells slots → (T a).1 = 16 → lv_has ls 2 [(0, .ref (c0 + a)), (1, .int (z.1))] → W p l e ({ frames := 6, cells := σ0.2.2.2.2.2.1, slots := σ0.2.2.2.2.2.2, locals := 137 }) s m args below meth c H locs cells slots (MQ below (cl_Q true D c0 (some (.int r)) cl_no σ0 σ') args s (σ0.2.2.2.2.2.1 - σ'.2.2.2.2.2.1) (σ0.2.2.2.2.2.2 - σ'.2.2.2.2.2.2) (cl_A c0 σ0.2.2.2.1 s.heap.size)) (F0 m 70 ls [])) y := by
    clear hy G ha hl
    intro T H locs ls cells slots G ha hl
    obtain ⟨x1, σ⟩ := y
    dsimp only at h G ha hl
    unfold ec_X0_translate_39 at h
    exact wc_X0_translate_70 C h G ha (lv_sub hl [0] rfl)
  refine lp_recE (fun z : (Int32 × cl_S) => ∀ (T : Nat → Nat × Nat) (H : Heap) (locs : List Loc) (ls : Array Slot) (cells slots : Nat), cl_G true D c0 ({ frames := 6, cells := σ0.2.2.2.2.2.1, slots := σ0.2.2.2.2.2.2, locals := 137 }) s σ0.2.2.2.1 T z.2 H locs cells slots → (T a).1 = 16 → lv_has ls 2 [(0, .ref (c0 + a)), (1, .int (z.1))] → W p l e ({ frames := 6, cells := σ0.2.2.2.2.2.1, slots := σ0.2.2.2.2.2.2, locals := 137 }) s m args below meth c H locs cells slots (MQ below (cl_Q true D c0 (some (.int r)) cl_no σ0 σ') args s (σ0.2.2.2.2.2.1 - σ'.2.2.2.2.2.1) (σ0.2.2.2.2.2.2 - σ'.2.2.2.2.2.2) (cl_A c0 σ0.2.2.2.1 s.heap.size)) (F0 m 39 ls [])) (fun z : (Int32 × cl_S) => ∀ (T : Nat → Nat × Nat) (H : Heap) (locs : List Loc) (ls : Array Slot) (cells slots : Nat), cl_G true D c0 ({ frames := 6, cells := σ0.2.2.2.2.2.1, slots := σ0.2.2.2.2.2.2, locals := 137 }) s σ0.2.2.2.1 T z.2 H locs cells slots → (T a).1 = 16 → lv_has ls 2 [(0, .ref (c0 + a)), (1, .int (z.1))] → W p l e ({ frames := 6, cells := σ0.2.2.2.2.2.1, slots := σ0.2.2.2.2.2.2, locals := 137 }) s m args below meth c H locs cells slots (MQ below (cl_Q true D c0 (some (.int r)) cl_no σ0 σ') args s (σ0.2.2.2.2.2.1 - σ'.2.2.2.2.2.1) (σ0.2.2.2.2.2.2 - σ'.2.2.2.2.2.2) (cl_A c0 σ0.2.2.2.1 s.heap.size)) (F0 m 70 ls [])) ?_ _ _ hy hE _ _ _ _ _ _ G ha hl
  clear hE hy G ha hl h
  intro z o h hP T H locs ls cells slots G ha hl
  obtain ⟨x1, σ⟩ := z
  dsimp only at h G ha hl
  unfold lc_X0_translate_39 at h
  refine lv_iload_n C.1 C.2.1 dX0_translate_39 rfl (lv_at hl 1 rfl) ?_
  refine lv_sipush (v := (6000:Int32)) C.1 C.2.1 dX0_translate_40 (by decide) ?_
  refine lv_icmp_gt (tgt := 70) C.1 C.2.1 dX0_translate_43 (by decide) (fun hc => ?_) (fun hc => ?_)
  · rw [if_pos hc] at h
    cases h
    exact hP _ _ _ _ _ _ G ha (lv_sub hl [0, 1] rfl)
  · rw [if_neg hc] at h
    refine lv_aload_n C.1 C.2.1 dX0_translate_46 rfl (lv_at hl 0 rfl) ?_
    refine cg_0_67 C G ha dX0_translate_47 ?_
    refine lv_if_ne (tgt := 70) C.1 C.2.1 dX0_translate_50 (by decide) (fun hc => ?_) (fun hc => ?_)
    · rw [if_neg hc] at h
      cases h
      exact hP _ _ _ _ _ _ G ha (lv_sub hl [0, 1] rfl)
    · rw [if_pos hc] at h
      refine lv_aload_n C.1 C.2.1 dX0_translate_53 rfl (lv_at hl 0 rfl) ?_
      obtain ⟨r_33, σ_32, hq, h_34⟩ := bd2_some h
      refine cl_callV (ci := 0) (rest := []) C G rfl ha cw_RX0_78 [] _ (kc_X0_token l D c0 (by rw [G.1]; exact ha) hq) (Nat.le_of_ble_eq_true rfl) (Nat.le_of_ble_eq_true rfl) rfl rfl hl.1 (Nat.le_of_ble_eq_true rfl) dX0_translate_54 (fun T_35 H locs cells slots t_36 hu G_37 => ?_)
      have ha := hu.kind ha (by decide)
      refine W.eq (g2 := F0 m 57 ls [.int r_33]) rfl ?_
      refine lv_if_eq (tgt := 70) C.1 C.2.1 dX0_translate_57 (by decide) (fun hc => ?_) (fun hc => ?_)
      · rw [if_pos hc] at h_34
        cases h_34
        exact hP _ _ _ _ _ _ G_37 ha (lv_sub hl [0, 1] rfl)
      · rw [if_neg hc] at h_34
        refine lv_aload_n C.1 C.2.1 dX0_translate_60 rfl (lv_at hl 0 rfl) ?_
        obtain ⟨σ_38, hq, h_39⟩ := bd1_some h_34
        refine cl_callV (ci := 0) (rest := []) C G_37 rfl ha cw_RX0_82 [] _ (kc_X0_readLine l D c0 (by rw [G_37.1]; exact ha) hq) (Nat.le_of_ble_eq_true rfl) (Nat.le_of_ble_eq_true rfl) rfl rfl hl.1 (Nat.le_of_ble_eq_true rfl) dX0_translate_61 (fun T_40 H locs cells slots t_41 hu G_42 => ?_)
        have ha := hu.kind ha (by decide)
        refine W.eq (g2 := F0 m 64 ls []) rfl ?_
        refine vl_ex h_39 (fun x1_43 ey h_44 => ?_)
        refine lv_iinc (v := x1_43) (lv' := [(1, .int x1_43), (0, .ref (c0 + a))]) C.1 C.2.1 dX0_translate_64 hl (k := 1) rfl (by rw [ey]; rfl) (by decide) rfl (fun ls hl_45 => ?_)
        refine lv_goto (tgt := 39) C.1 C.2.1 dX0_translate_67 (by decide) ?_
        cases h_44
        exact hP _ _ _ _ _ _ G_42 ha (lv_sub hl_45 [1, 0] rfl)
noncomputable def bc_X0_translate_0 (a : Nat) (σ : cl_S) : Option (Int32 × cl_S) := vl (cl_w σ a 4 (0:Int32)) (fun σ_1 => vl (cl_w σ_1 a 7 (0:Int32)) (fun σ_5 => vl (cl_w σ_5 a 11 (0:Int32)) (fun σ_9 => vl (cl_w σ_9 a 12 (0:Int32)) (fun σ_13 => vl (cl_w σ_13 a 13 (-1:Int32)) (fun σ_17 => vl (cl_w σ_17 a 2 (0:Int32)) (fun σ_21 => bd1 (fc_X4_readTokens 1 σ_21) (fun σ_26 => bc_X0_translate_39 a (0:Int32) σ_26)))))))
set_option maxHeartbeats 4000000 in
theorem wc_X0_translate_0 (C : cl_C D p s m args meth c cX0_translate 2 (some .int) RX0) {r : Int32} {a : Nat} {σ0 σ σ' : cl_S} {T : Nat → Nat × Nat} {H : Heap} {locs : List Loc} {ls : Array Slot} {cells slots : Nat} (h : bc_X0_translate_0 a σ = some (r, σ')) (G : cl_G true D c0 ({ frames := 6, cells := σ0.2.2.2.2.2.1, slots := σ0.2.2.2.2.2.2, locals := 137 }) s σ0.2.2.2.1 T σ H locs cells slots) (ha : (T a).1 = 16) (hl : lv_has ls 2 [(0, .ref (c0 + a))]) : W p l e ({ frames := 6, cells := σ0.2.2.2.2.2.1, slots := σ0.2.2.2.2.2.2, locals := 137 }) s m args below meth c H locs cells slots (MQ below (cl_Q true D c0 (some (.int r)) cl_no σ0 σ') args s (σ0.2.2.2.2.2.1 - σ'.2.2.2.2.2.1) (σ0.2.2.2.2.2.2 - σ'.2.2.2.2.2.2) (cl_A c0 σ0.2.2.2.1 s.heap.size)) (F0 m 0 ls []) := by
  unfold bc_X0_translate_0 at h
  refine lv_aload_n C.1 C.2.1 dX0_translate_0 rfl (lv_at hl 0 rfl) ?_
  refine lv_iconst (v := (0:Int32)) C.1 C.2.1 dX0_translate_1 (by decide) ?_
  refine cp_0_58 C G ha dX0_translate_2 (fun H locs G_2 => ?_)
  refine cl_nm G_2 h (fun σ_1 G_3 h_4 => ?_)
  refine lv_aload_n C.1 C.2.1 dX0_translate_5 rfl (lv_at hl 0 rfl) ?_
  refine lv_iconst (v := (0:Int32)) C.1 C.2.1 dX0_translate_6 (by decide) ?_
  refine cp_0_61 C G_3 ha dX0_translate_7 (fun H locs G_6 => ?_)
  refine cl_nm G_6 h_4 (fun σ_5 G_7 h_8 => ?_)
  refine lv_aload_n C.1 C.2.1 dX0_translate_10 rfl (lv_at hl 0 rfl) ?_
  refine lv_iconst (v := (0:Int32)) C.1 C.2.1 dX0_translate_11 (by decide) ?_
  refine cp_0_64 C G_7 ha dX0_translate_12 (fun H locs G_10 => ?_)
  refine cl_nm G_10 h_8 (fun σ_9 G_11 h_12 => ?_)
  refine lv_aload_n C.1 C.2.1 dX0_translate_15 rfl (lv_at hl 0 rfl) ?_
  refine lv_iconst (v := (0:Int32)) C.1 C.2.1 dX0_translate_16 (by decide) ?_
  refine cp_0_67 C G_11 ha dX0_translate_17 (fun H locs G_14 => ?_)
  refine cl_nm G_14 h_12 (fun σ_13 G_15 h_16 => ?_)
  refine lv_aload_n C.1 C.2.1 dX0_translate_20 rfl (lv_at hl 0 rfl) ?_
  refine lv_iconst (v := (-1:Int32)) C.1 C.2.1 dX0_translate_21 (by decide) ?_
  refine cp_0_34 C G_15 ha dX0_translate_22 (fun H locs G_18 => ?_)
  refine cl_nm G_18 h_16 (fun σ_17 G_19 h_20 => ?_)
  refine lv_aload_n C.1 C.2.1 dX0_translate_25 rfl (lv_at hl 0 rfl) ?_
  refine lv_iconst (v := (0:Int32)) C.1 C.2.1 dX0_translate_26 (by decide) ?_
  refine cp_0_70 C G_19 ha dX0_translate_27 (fun H locs G_22 => ?_)
  refine cl_nm G_22 h_20 (fun σ_21 G_23 h_24 => ?_)
  refine lv_aload_n C.1 C.2.1 dX0_translate_30 rfl (lv_at hl 0 rfl) ?_
  refine cg_0_42 C G_23 ha dX0_translate_31 (fun t_25 => ?_)
  have t_25 : (T 1).1 = 20 := by rw [t_25]
  obtain ⟨σ_26, hq, h_27⟩ := bd1_some h_24
  refine cl_callV (ci := 4) (rest := []) C G_23 rfl t_25 cw_RX0_73 [] _ (kc_X4_readTokens l D c0 (by rw [G_23.1]; exact t_25) hq) (Nat.le_of_ble_eq_true rfl) (Nat.le_of_ble_eq_true rfl) rfl rfl hl.1 (Nat.le_of_ble_eq_true rfl) dX0_translate_34 (fun T_28 H locs cells slots t_29 hu G_30 => ?_)
  have ha := hu.kind ha (by decide)
  refine W.eq (g2 := F0 m 37 ls []) rfl ?_
  refine lv_iconst (v := (0:Int32)) C.1 C.2.1 dX0_translate_37 (by decide) ?_
  refine lv_istore_n (lv' := [(1, .int (0:Int32)), (0, .ref (c0 + a))]) C.1 C.2.1 dX0_translate_38 rfl hl (by decide) rfl (fun ls hl_31 => ?_)
  exact wc_X0_translate_39 C h_27 G_30 ha (lv_sub hl_31 [1, 0] rfl)
noncomputable def fc_X0_translate (a : Nat) (σ : cl_S) : Option (Int32 × cl_S) := bc_X0_translate_0 a σ
theorem kc_X0_translate (l : Launch) (D : cl_D) (c0 : Nat) {r : Int32} {a : Nat} {σ σ' : cl_S} (ha : (σ.2.2.2.1 a).1 = 16) (h : fc_X0_translate a σ = some (r, σ')) : cl_Met true l D c0 yX0_translate cX0_translate 2 (some .int) 6 137 [.ref (c0 + a)] σ (some (.int r)) cl_no σ' :=
  cl_of (by decide) (Nat.le_of_ble_eq_true rfl) (fun p e s m args below meth c ls C hn G hl => wc_X0_translate_0 C h G ha hl)
end CQ2
