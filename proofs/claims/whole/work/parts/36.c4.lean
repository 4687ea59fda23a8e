section CQ3
variable {p : Program} {l : Launch} {e : Env} {s : State} {m : MethodId} {args : Array Value} {below : List Frame} {meth : Method} {c : Code} {D : cl_D} {c0 : Nat}
abbrev cX0_isMadeBy : ByteArray := prog_2_method_29_code
def yX0_isMadeBy : MethodName := ⟨RX0, "isMadeBy", "(II)Z"⟩
theorem dX0_isMadeBy_0 : decode cX0_isMadeBy 0 = .ok (.iload_n 0, 1) := by decide +kernel
theorem dX0_isMadeBy_1 : decode cX0_isMadeBy 1 = .ok (.iconst 1, 1) := by decide +kernel
theorem dX0_isMadeBy_2 : decode cX0_isMadeBy 2 = .ok (.if_icmp .lt 9, 3) := by decide +kernel
theorem dX0_isMadeBy_5 : decode cX0_isMadeBy 5 = .ok (.iload_n 0, 1) := by decide +kernel
theorem dX0_isMadeBy_6 : decode cX0_isMadeBy 6 = .ok (.bipush 39, 2) := by decide +kernel
theorem dX0_isMadeBy_8 : decode cX0_isMadeBy 8 = .ok (.if_icmp .le 5, 3) := by decide +kernel
theorem dX0_isMadeBy_11 : decode cX0_isMadeBy 11 = .ok (.iconst 0, 1) := by decide +kernel
theorem dX0_isMadeBy_12 : decode cX0_isMadeBy 12 = .ok (.ireturn, 1) := by decide +kernel
theorem dX0_isMadeBy_13 : decode cX0_isMadeBy 13 = .ok (.iload_n 0, 1) := by decide +kernel
theorem dX0_isMadeBy_14 : decode cX0_isMadeBy 14 = .ok (.invokestatic 143, 3) := by decide +kernel
theorem dX0_isMadeBy_17 : decode cX0_isMadeBy 17 = .ok (.ifCond .eq 8, 3) := by decide +kernel
theorem dX0_isMadeBy_20 : decode cX0_isMadeBy 20 = .ok (.ldc 225, 2) := by decide +kernel
theorem dX0_isMadeBy_22 : decode cX0_isMadeBy 22 = .ok (.goto 4, 3) := by decide +kernel
theorem dX0_isMadeBy_25 : decode cX0_isMadeBy 25 = .ok (.iconst 0, 1) := by decide +kernel
theorem dX0_isMadeBy_26 : decode cX0_isMadeBy 26 = .ok (.istore_n 2, 1) := by decide +kernel
theorem dX0_isMadeBy_27 : decode cX0_isMadeBy 27 = .ok (.iload_n 2, 1) := by decide +kernel
theorem dX0_isMadeBy_28 : decode cX0_isMadeBy 28 = .ok (.iload_n 0, 1) := by decide +kernel
theorem dX0_isMadeBy_29 : decode cX0_isMadeBy 29 = .ok (.invokestatic 150, 3) := by decide +kernel
theorem dX0_isMadeBy_32 : decode cX0_isMadeBy 32 = .ok (.ifCond .eq 8, 3) := by decide +kernel
theorem dX0_isMadeBy_35 : decode cX0_isMadeBy 35 = .ok (.ldc 226, 2) := by decide +kernel
theorem dX0_isMadeBy_37 : decode cX0_isMadeBy 37 = .ok (.goto 4, 3) := by decide +kernel
theorem dX0_isMadeBy_40 : decode cX0_isMadeBy 40 = .ok (.iconst 0, 1) := by decide +kernel
theorem dX0_isMadeBy_41 : decode cX0_isMadeBy 41 = .ok (.ior, 1) := by decide +kernel
theorem dX0_isMadeBy_42 : decode cX0_isMadeBy 42 = .ok (.istore_n 2, 1) := by decide +kernel
theorem dX0_isMadeBy_43 : decode cX0_isMadeBy 43 = .ok (.iload_n 2, 1) := by decide +kernel
theorem dX0_isMadeBy_44 : decode cX0_isMadeBy 44 = .ok (.iload_n 0, 1) := by decide +kernel
theorem dX0_isMadeBy_45 : decode cX0_isMadeBy 45 = .ok (.invokestatic 156, 3) := by decide +kernel
theorem dX0_isMadeBy_48 : decode cX0_isMadeBy 48 = .ok (.ifCond .eq 8, 3) := by decide +kernel
theorem dX0_isMadeBy_51 : decode cX0_isMadeBy 51 = .ok (.ldc 227, 2) := by decide +kernel
theorem dX0_isMadeBy_53 : decode cX0_isMadeBy 53 = .ok (.goto 4, 3) := by decide +kernel
theorem dX0_isMadeBy_56 : decode cX0_isMadeBy 56 = .ok (.iconst 0, 1) := by decide +kernel
theorem dX0_isMadeBy_57 : decode cX0_isMadeBy 57 = .ok (.ior, 1) := by decide +kernel
theorem dX0_isMadeBy_58 : decode cX0_isMadeBy 58 = .ok (.istore_n 2, 1) := by decide +kernel
theorem dX0_isMadeBy_59 : decode cX0_isMadeBy 59 = .ok (.iload_n 2, 1) := by decide +kernel
theorem dX0_isMadeBy_60 : decode cX0_isMadeBy 60 = .ok (.iload_n 0, 1) := by decide +kernel
theorem dX0_isMadeBy_61 : decode cX0_isMadeBy 61 = .ok (.invokestatic 159, 3) := by decide +kernel
theorem dX0_isMadeBy_64 : decode cX0_isMadeBy 64 = .ok (.ifCond .eq 8, 3) := by decide +kernel
theorem dX0_isMadeBy_67 : decode cX0_isMadeBy 67 = .ok (.ldc 162, 2) := by decide +kernel
theorem dX0_isMadeBy_69 : decode cX0_isMadeBy 69 = .ok (.goto 4, 3) := by decide +kernel
theorem dX0_isMadeBy_72 : decode cX0_isMadeBy 72 = .ok (.iconst 0, 1) := by decide +kernel
theorem dX0_isMadeBy_73 : decode cX0_isMadeBy 73 = .ok (.ior, 1) := by decide +kernel
theorem dX0_isMadeBy_74 : decode cX0_isMadeBy 74 = .ok (.istore_n 2, 1) := by decide +kernel
theorem dX0_isMadeBy_75 : decode cX0_isMadeBy 75 = .ok (.iload_n 0, 1) := by decide +kernel
theorem dX0_isMadeBy_76 : decode cX0_isMadeBy 76 = .ok (.bipush 38, 2) := by decide +kernel
theorem dX0_isMadeBy_78 : decode cX0_isMadeBy 78 = .ok (.if_icmp .ne 6, 3) := by decide +kernel
theorem dX0_isMadeBy_81 : decode cX0_isMadeBy 81 = .ok (.ldc 228, 2) := by decide +kernel
theorem dX0_isMadeBy_83 : decode cX0_isMadeBy 83 = .ok (.istore_n 2, 1) := by decide +kernel
theorem dX0_isMadeBy_84 : decode cX0_isMadeBy 84 = .ok (.iload_n 1, 1) := by decide +kernel
theorem dX0_isMadeBy_85 : decode cX0_isMadeBy 85 = .ok (.ldc 229, 2) := by decide +kernel
theorem dX0_isMadeBy_87 : decode cX0_isMadeBy 87 = .ok (.iand, 1) := by decide +kernel
theorem dX0_isMadeBy_88 : decode cX0_isMadeBy 88 = .ok (.iload_n 2, 1) := by decide +kernel
theorem dX0_isMadeBy_89 : decode cX0_isMadeBy 89 = .ok (.iconst (-1), 1) := by decide +kernel
theorem dX0_isMadeBy_90 : decode cX0_isMadeBy 90 = .ok (.ixor, 1) := by decide +kernel
theorem dX0_isMadeBy_91 : decode cX0_isMadeBy 91 = .ok (.iand, 1) := by decide +kernel
theorem dX0_isMadeBy_92 : decode cX0_isMadeBy 92 = .ok (.ifCond .ne 7, 3) := by decide +kernel
theorem dX0_isMadeBy_95 : decode cX0_isMadeBy 95 = .ok (.iconst 1, 1) := by decide +kernel
theorem dX0_isMadeBy_96 : decode cX0_isMadeBy 96 = .ok (.goto 4, 3) := by decide +kernel
theorem dX0_isMadeBy_99 : decode cX0_isMadeBy 99 = .ok (.iconst 0, 1) := by decide +kernel
theorem dX0_isMadeBy_100 : decode cX0_isMadeBy 100 = .ok (.ireturn, 1) := by decide +kernel
theorem cc_X0_isMadeBy : Cond.code yX0_isMadeBy cX0_isMadeBy 3 (some .boolean) ∈ rf_tb := rf_at 910 (by decide +kernel) (by decide +kernel)
theorem kc_RX0_225 : Cond.constant RX0 225 (62914560 : Int32) ∈ rf_tb := rf_at 911 (by decide +kernel) (by decide +kernel)
theorem kc_RX0_226 : Cond.constant RX0 226 (3932160 : Int32) ∈ rf_tb := rf_at 912 (by decide +kernel) (by decide +kernel)
theorem kc_RX0_227 : Cond.constant RX0 227 (245760 : Int32) ∈ rf_tb := rf_at 913 (by decide +kernel) (by decide +kernel)
theorem kc_RX0_228 : Cond.constant RX0 228 (131071 : Int32) ∈ rf_tb := rf_at 914 (by decide +kernel) (by decide +kernel)
theorem kc_RX0_229 : Cond.constant RX0 229 (67108863 : Int32) ∈ rf_tb := rf_at 915 (by decide +kernel) (by decide +kernel)
noncomputable def bc_X0_isMadeBy_84 (x1 : Int32) (x2 : Int32) (σ : cl_S) : Option (Int32 × cl_S) := (if ((x1 &&& (67108863:Int32)) &&& (x2 ^^^ (-1:Int32))) = 0 then some ((1:Int32), σ) else some ((0:Int32), σ))
set_option maxHeartbeats 4000000 in
theorem wc_X0_isMadeBy_84 (C : cl_C D p s m args meth c cX0_isMadeBy 3 (some .boolean) RX0) {r : Int32} {x1 : Int32} {x2 : Int32} {σ0 σ σ' : cl_S} {T : Nat → Nat × Nat} {H : Heap} {locs : List Loc} {ls : Array Slot} {cells slots : Nat} (h : bc_X0_isMadeBy_84 x1 x2 σ = some (r, σ')) (G : cl_G true D c0 ({ frames := 2, cells := σ0.2.2.2.2.2.1, slots := σ0.2.2.2.2.2.2, locals := 40 }) s σ0.2.2.2.1 T σ H locs cells slots) (hl : lv_has ls 3 [(1, .int x1), (2, .int x2)]) : W p l e ({ frames := 2, cells := σ0.2.2.2.2.2.1, slots := σ0.2.2.2.2.2.2, locals := 40 }) s m args below meth c H locs cells slots (MQ below (cl_Q true D c0 (some (.int r)) cl_no σ0 σ') args s (σ0.2.2.2.2.2.1 - σ'.2.2.2.2.2.1) (σ0.2.2.2.2.2.2 - σ'.2.2.2.2.2.2) (cl_A c0 σ0.2.2.2.1 s.heap.size)) (F0 m 84 ls []) := by
  unfold bc_X0_isMadeBy_84 at h
  refine lv_iload_n C.1 C.2.1 dX0_isMadeBy_84 rfl (lv_at hl 0 rfl) ?_
  refine lv_ldc (v := (67108863:Int32)) C.1 C.2.1 C.2.2.2.1 (C.2.2.2.2.1 _ kc_RX0_229) dX0_isMadeBy_85 ?_
  refine lv_iand C.1 C.2.1 dX0_isMadeBy_87 ?_
  refine lv_iload_n C.1 C.2.1 dX0_isMadeBy_88 rfl (lv_at hl 1 rfl) ?_
  refine lv_iconst (v := (-1:Int32)) C.1 C.2.1 dX0_isMadeBy_89 (by decide) ?_
  refine lv_ixor C.1 C.2.1 dX0_isMadeBy_90 ?_
  refine lv_iand C.1 C.2.1 dX0_isMadeBy_91 ?_
  refine lv_if_ne (tgt := 99) C.1 C.2.1 dX0_isMadeBy_92 (by decide) (fun hc => ?_) (fun hc => ?_)
  · rw [if_neg hc] at h
    refine lv_iconst (v := (0:Int32)) C.1 C.2.1 dX0_isMadeBy_99 (by decide) ?_
    exact cl_zret ⟨rfl, rfl⟩ rfl C G h rfl dX0_isMadeBy_100
  · rw [if_pos hc] at h
    refine lv_iconst (v := (1:Int32)) C.1 C.2.1 dX0_isMadeBy_95 (by decide) ?_
    refine lv_goto (tgt := 100) C.1 C.2.1 dX0_isMadeBy_96 (by decide) ?_
    exact cl_zret ⟨rfl, rfl⟩ rfl C G h rfl dX0_isMadeBy_100
noncomputable def bc_X0_isMadeBy_73 (x0 : Int32) (x1 : Int32) (v0 : Int32) (v1 : Int32) (σ : cl_S) : Option (Int32 × cl_S) := vl (v0 ||| v1) (fun x2_32 => (if x0 = (38:Int32) then bc_X0_isMadeBy_84 x1 (131071:Int32) σ else bc_X0_isMadeBy_84 x1 x2_32 σ))
set_option maxHeartbeats 4000000 in
theorem wc_X0_isMadeBy_73 (C : cl_C D p s m args meth c cX0_isMadeBy 3 (some .boolean) RX0) {r : Int32} {x0 : Int32} {x1 : Int32} {v0 : Int32} {v1 : Int32} {σ0 σ σ' : cl_S} {T : Nat → Nat × Nat} {H : Heap} {locs : List Loc} {ls : Array Slot} {cells slots : Nat} (h : bc_X0_isMadeBy_73 x0 x1 v0 v1 σ = some (r, σ')) (G : cl_G true D c0 ({ frames := 2, cells := σ0.2.2.2.2.2.1, slots := σ0.2.2.2.2.2.2, locals := 40 }) s σ0.2.2.2.1 T σ H locs cells slots) (hl : lv_has ls 3 [(0, .int x0), (1, .int x1)]) : W p l e ({ frames := 2, cells := σ0.2.2.2.2.2.1, slots := σ0.2.2.2.2.2.2, locals := 40 }) s m args below meth c H locs cells slots (MQ below (cl_Q true D c0 (some (.int r)) cl_no σ0 σ') args s (σ0.2.2.2.2.2.1 - σ'.2.2.2.2.2.1) (σ0.2.2.2.2.2.2 - σ'.2.2.2.2.2.2) (cl_A c0 σ0.2.2.2.1 s.heap.size)) (F0 m 73 ls [.int v1, .int v0]) := by
  unfold bc_X0_isMadeBy_73 at h
  refine lv_ior C.1 C.2.1 dX0_isMadeBy_73 ?_
  refine vt_i h (fun x2_32 h_33 => ?_)
  refine lv_istore_n (lv' := [(2, .int x2_32), (0, .int x0), (1, .int x1)]) C.1 C.2.1 dX0_isMadeBy_74 rfl hl (by decide) rfl (fun ls hl_34 => ?_)
  refine lv_iload_n C.1 C.2.1 dX0_isMadeBy_75 rfl (lv_at hl_34 1 rfl) ?_
  refine lv_bipush (v := (38:Int32)) C.1 C.2.1 dX0_isMadeBy_76 (by decide) ?_
  refine lv_icmp_ne (tgt := 84) C.1 C.2.1 dX0_isMadeBy_78 (by decide) (fun hc => ?_) (fun hc => ?_)
  · rw [if_neg hc] at h_33
    exact wc_X0_isMadeBy_84 C h_33 G (lv_sub hl_34 [2, 0] rfl)
  · rw [if_pos hc] at h_33
    refine lv_ldc (v := (131071:Int32)) C.1 C.2.1 C.2.2.2.1 (C.2.2.2.2.1 _ kc_RX0_228) dX0_isMadeBy_81 ?_
    refine lv_istore_n (lv' := [(2, .int (131071:Int32)), (0, .int x0), (1, .int x1)]) C.1 C.2.1 dX0_isMadeBy_83 rfl hl_34 (by decide) rfl (fun ls hl_35 => ?_)
    exact wc_X0_isMadeBy_84 C h_33 G (lv_sub hl_35 [2, 0] rfl)
noncomputable def bc_X0_isMadeBy_57 (x0 : Int32) (x1 : Int32) (v0 : Int32) (v1 : Int32) (σ : cl_S) : Option (Int32 × cl_S) := vl (v0 ||| v1) (fun x2_23 => bd2 (fc_X0_hasM x0 σ) (fun r_27 σ_26 => (if r_27 = 0 then bc_X0_isMadeBy_73 x0 x1 x2_23 (0:Int32) σ_26 else bc_X0_isMadeBy_73 x0 x1 x2_23 (262143:Int32) σ_26)))
set_option maxHeartbeats 4000000 in
theorem wc_X0_isMadeBy_57 (C : cl_C D p s m args meth c cX0_isMadeBy 3 (some .boolean) RX0) {r : Int32} {x0 : Int32} {x1 : Int32} {v0 : Int32} {v1 : Int32} {σ0 σ σ' : cl_S} {T : Nat → Nat × Nat} {H : Heap} {locs : List Loc} {ls : Array Slot} {cells slots : Nat} (h : bc_X0_isMadeBy_57 x0 x1 v0 v1 σ = some (r, σ')) (G : cl_G true D c0 ({ frames := 2, cells := σ0.2.2.2.2.2.1, slots := σ0.2.2.2.2.2.2, locals := 40 }) s σ0.2.2.2.1 T σ H locs cells slots) (hl : lv_has ls 3 [(0, .int x0), (1, .int x1)]) : W p l e ({ frames := 2, cells := σ0.2.2.2.2.2.1, slots := σ0.2.2.2.2.2.2, locals := 40 }) s m args below meth c H locs cells slots (MQ below (cl_Q true D c0 (some (.int r)) cl_no σ0 σ') args s (σ0.2.2.2.2.2.1 - σ'.2.2.2.2.2.1) (σ0.2.2.2.2.2.2 - σ'.2.2.2.2.2.2) (cl_A c0 σ0.2.2.2.1 s.heap.size)) (F0 m 57 ls [.int v1, .int v0]) := by
  unfold bc_X0_isMadeBy_57 at h
  refine lv_ior C.1 C.2.1 dX0_isMadeBy_57 ?_
  refine vt_i h (fun x2_23 h_24 => ?_)
  refine lv_istore_n (lv' := [(2, .int x2_23), (0, .int x0), (1, .int x1)]) C.1 C.2.1 dX0_isMadeBy_58 rfl hl (by decide) rfl (fun ls hl_25 => ?_)
  refine lv_iload_n C.1 C.2.1 dX0_isMadeBy_59 rfl (lv_at hl_25 0 rfl) ?_
  refine lv_iload_n C.1 C.2.1 dX0_isMadeBy_60 rfl (lv_at hl_25 1 rfl) ?_
  obtain ⟨r_27, σ_26, hq, h_28⟩ := bd2_some h_24
  refine cl_callS (rest := [.int x2_23]) C G cw_RX0_159 [.int x0] _ (kc_X0_hasM l D c0 hq) (Nat.le_of_ble_eq_true rfl) (Nat.le_of_ble_eq_true rfl) rfl rfl hl_25.1 (Nat.le_of_ble_eq_true rfl) dX0_isMadeBy_61 (fun T_29 H locs cells slots t_30 hu G_31 => ?_)
  refine W.eq (g2 := F0 m 64 ls [.int r_27, .int x2_23]) rfl ?_
  refine lv_if_eq (tgt := 72) C.1 C.2.1 dX0_isMadeBy_64 (by decide) (fun hc => ?_) (fun hc => ?_)
  · rw [if_pos hc] at h_28
    refine lv_iconst (v := (0:Int32)) C.1 C.2.1 dX0_isMadeBy_72 (by decide) ?_
    exact wc_X0_isMadeBy_73 C h_28 G_31 (lv_sub hl_25 [1, 2] rfl)
  · rw [if_neg hc] at h_28
    refine lv_ldc (v := (262143:Int32)) C.1 C.2.1 C.2.2.2.1 (C.2.2.2.2.1 _ kc_RX0_162) dX0_isMadeBy_67 ?_
    refine lv_goto (tgt := 73) C.1 C.2.1 dX0_isMadeBy_69 (by decide) ?_
    exact wc_X0_isMadeBy_73 C h_28 G_31 (lv_sub hl_25 [1, 2] rfl)
noncomputable def bc_X0_isMadeBy_41 (x0 : Int32) (x1 : Int32) (v0 : Int32) (v1 : Int32) (σ : cl_S) : Option (Int32 × cl_S) := vl (v0 ||| v1) (fun x2_14 => bd2 (fc_X0_hasB x0 σ) (fun r_18 σ_17 => (if r_18 = 0 then bc_X0_isMadeBy_57 x0 x1 x2_14 (0:Int32) σ_17 else bc_X0_isMadeBy_57 x0 x1 x2_14 (245760:Int32) σ_17)))
set_option maxHeartbeats 4000000 in
theorem wc_X0_isMadeBy_41 (C : cl_C D p s m args meth c cX0_isMadeBy 3 (some .boolean) RX0) {r : Int32} {x0 : Int32} {x1 : Int32} {v0 : Int32} {v1 : Int32} {σ0 σ σ' : cl_S} {T : Nat → Nat × Nat} {H : Heap} {locs : List Loc} {ls : Array Slot} {cells slots : Nat} (h : bc_X0_isMadeBy_41 x0 x1 v0 v1 σ = some (r, σ')) (G : cl_G true D c0 ({ frames := 2, cells := σ0.2.2.2.2.2.1, slots := σ0.2.2.2.2.2.2, locals := 40 }) s σ0.2.2.2.1 T σ H locs cells slots) (hl : lv_has ls 3 [(0, .int x0), (1, .int x1)]) : W p l e ({ frames := 2, cells := σ0.2.2.2.2.2.1, slots := σ0.2.2.2.2.2.2, locals := 40 }) s m args below meth c H locs cells slots (MQ below (cl_Q true D c0 (some (.int r)) cl_no σ0 σ') args s (σ0.2.2.2.2.2.1 - σ'.2.2.2.2.2.1) (σ0.2.2.2.2.2.2 - σ'.2.2.2.2.2.2) (cl_A c0 σ0.2.2.2.1 s.heap.size)) (F0 m 41 ls [.int v1, .int v0]) := by
  unfold bc_X0_isMadeBy_41 at h
  refine lv_ior C.1 C.2.1 dX0_isMadeBy_41 ?_
  refine vt_i h (fun x2_14 h_15 => ?_)
  refine lv_istore_n (lv' := [(2, .int x2_14), (0, .int x0), (1, .int x1)]) C.1 C.2.1 dX0_isMadeBy_42 rfl hl (by decide) rfl (fun ls hl_16 => ?_)
  refine lv_iload_n C.1 C.2.1 dX0_isMadeBy_43 rfl (lv_at hl_16 0 rfl) ?_
  refine lv_iload_n C.1 C.2.1 dX0_isMadeBy_44 rfl (lv_at hl_16 1 rfl) ?_
  obtain ⟨r_18, σ_17, hq, h_19⟩ := bd2_some h_15
  refine cl_callS (rest := [.int x2_14]) C G cw_RX0_156 [.int x0] _ (kc_X0_hasB l D c0 hq) (Nat.le_of_ble_eq_true rfl) (Nat.le_of_ble_eq_true rfl) rfl rfl hl_16.1 (Nat.le_of_ble_eq_true rfl) dX0_isMadeBy_45 (fun T_20 H locs cells slots t_21 hu G_22 => ?_)
  refine W.eq (g2 := F0 m 48 ls [.int r_18, .int x2_14]) rfl ?_
  refine lv_if_eq (tgt := 56) C.1 C.2.1 dX0_isMadeBy_48 (by decide) (fun hc => ?_) (fun hc => ?_)
  · rw [if_pos hc] at h_19
    refine lv_iconst (v := (0:Int32)) C.1 C.2.1 dX0_isMadeBy_56 (by decide) ?_
    exact wc_X0_isMadeBy_57 C h_19 G_22 (lv_sub hl_16 [1, 2] rfl)
  · rw [if_neg hc] at h_19
    refine lv_ldc (v := (245760:Int32)) C.1 C.2.1 C.2.2.2.1 (C.2.2.2.2.1 _ kc_RX0_227) dX0_isMadeBy_51 ?_
    refine lv_goto (tgt := 57) C.1 C.2.1 dX0_isMadeBy_53 (by decide) ?_
    exact wc_X0_isMadeBy_57 C h_19 G_22 (lv_sub hl_16 [1, 2] rfl)
noncomputable def bc_X0_isMadeBy_26 (x0 : Int32) (x1 : Int32) (v0 : Int32) (σ : cl_S) : Option (Int32 × cl_S) := bd2 (fc_X0_hasA x0 σ) (fun r_9 σ_8 => (if r_9 = 0 then bc_X0_isMadeBy_41 x0 x1 v0 (0:Int32) σ_8 else bc_X0_isMadeBy_41 x0 x1 v0 (3932160:Int32) σ_8))
set_option maxHeartbeats 4000000 in
theorem wc_X0_isMadeBy_26 (C : cl_C D p s m args meth c cX0_isMadeBy 3 (some .boolean) RX0) {r : Int32} {x0 : Int32} {x1 : Int32} {v0 : Int32} {σ0 σ σ' : cl_S} {T : Nat → Nat × Nat} {H : Heap} {locs : List Loc} {ls : Array Slot} {cells slots : Nat} (h : bc_X0_isMadeBy_26 x0 x1 v0 σ = some (r, σ')) (G : cl_G true D c0 ({ frames := 2, cells := σ0.2.2.2.2.2.1, slots := σ0.2.2.2.2.2.2, locals := 40 }) s σ0.2.2.2.1 T σ H locs cells slots) (hl : lv_has ls 3 [(0, .int x0), (1, .int x1)]) : W p l e ({ frames := 2, cells := σ0.2.2.2.2.2.1, slots := σ0.2.2.2.2.2.2, locals := 40 }) s m args below meth c H locs cells slots (MQ below (cl_Q true D c0 (some (.int r)) cl_no σ0 σ') args s (σ0.2.2.2.2.2.1 - σ'.2.2.2.2.2.1) (σ0.2.2.2.2.2.2 - σ'.2.2.2.2.2.2) (cl_A c0 σ0.2.2.2.1 s.heap.size)) (F0 m 26 ls [.int v0]) := by
  unfold bc_X0_isMadeBy_26 at h
  refine lv_istore_n (lv' := [(2, .int v0), (0, .int x0), (1, .int x1)]) C.1 C.2.1 dX0_isMadeBy_26 rfl hl (by decide) rfl (fun ls hl_7 => ?_)
  refine lv_iload_n C.1 C.2.1 dX0_isMadeBy_27 rfl (lv_at hl_7 0 rfl) ?_
  refine lv_iload_n C.1 C.2.1 dX0_isMadeBy_28 rfl (lv_at hl_7 1 rfl) ?_
  obtain ⟨r_9, σ_8, hq, h_10⟩ := bd2_some h
  refine cl_callS (rest := [.int v0]) C G cw_RX0_150 [.int x0] _ (kc_X0_hasA l D c0 hq) (Nat.le_of_ble_eq_true rfl) (Nat.le_of_ble_eq_true rfl) rfl rfl hl_7.1 (Nat.le_of_ble_eq_true rfl) dX0_isMadeBy_29 (fun T_11 H locs cells slots t_12 hu G_13 => ?_)
  refine W.eq (g2 := F0 m 32 ls [.int r_9, .int v0]) rfl ?_
  refine lv_if_eq (tgt := 40) C.1 C.2.1 dX0_isMadeBy_32 (by decide) (fun hc => ?_) (fun hc => ?_)
  · rw [if_pos hc] at h_10
    refine lv_iconst (v := (0:Int32)) C.1 C.2.1 dX0_isMadeBy_40 (by decide) ?_
    exact wc_X0_isMadeBy_41 C h_10 G_13 (lv_sub hl_7 [1, 2] rfl)
  · rw [if_neg hc] at h_10
    refine lv_ldc (v := (3932160:Int32)) C.1 C.2.1 C.2.2.2.1 (C.2.2.2.2.1 _ kc_RX0_226) dX0_isMadeBy_35 ?_
    refine lv_goto (tgt := 41) C.1 C.2.1 dX0_isMadeBy_37 (by decide) ?_
    exact wc_X0_isMadeBy_41 C h_10 G_13 (lv_sub hl_7 [1, 2] rfl)
noncomputable def bc_X0_isMadeBy_0 (x0 : Int32) (x1 : Int32) (σ : cl_S) : Option (Int32 × cl_S) := (if x0 < (1:Int32) then some ((0:Int32), σ) else (if x0 ≤ (39:Int32) then bd2 (fc_X0_hasD x0 σ) (fun r_2 σ_1 => (if r_2 = 0 then bc_X0_isMadeBy_26 x0 x1 (0:Int32) σ_1 else bc_X0_isMadeBy_26 x0 x1 (62914560:Int32) σ_1)) else some ((0:Int32), σ)))
set_option maxHeartbeats 4000000 in
theorem wc_X0_isMadeBy_0 (C : cl_C D p s m args meth c cX0_isMadeBy 3 (some .boolean) RX0) {r : Int32} {x0 : Int32} {x1 : Int32} {σ0 σ σ' : cl_S} {T : Nat → Nat × Nat} {H : Heap} {locs : List Loc} {ls : Array Slot} {cells slots : Nat} (h : bc_X0_isMadeBy_0 x0 x1 σ = some (r, σ')) (G : cl_G true D c0 ({ frames := 2, cells := σ0.2.2.2.2.2.1, slots := σ0.2.2.2.2.2.2, locals := 40 }) s σ0.2.2.2.1 T σ H locs cells slots) (hl : lv_has ls 3 [(0, .int x0), (1, .int x1)]) : W p l e ({ frames := 2, cells := σ0.2.2.2.2.2.1, slots := σ0.2.2.2.2.2.2, locals := 40 }) s m args below meth c H locs cells slots (MQ below (cl_Q true D c0 (some (.int r)) cl_no σ0 σ') args s (σ0.2.2.2.2.2.1 - σ'.2.2.2.2.2.1) (σ0.2.2.2.2.2.2 - σ'.2.2.2.2.2.2) (cl_A c0 σ0.2.2.2.1 s.heap.size)) (F0 m 0 ls []) := by
  unfold bc_X0_isMadeBy_0 at h
  refine lv_iload_n C.1 C.2.1 dX0_isMadeBy_0 rfl (lv_at hl 0 rfl) ?_
  refine lv_iconst (v := (1:Int32)) C.1 C.2.1 dX0_isMadeBy_1 (by decide) ?_
  refine lv_icmp_lt (tgt := 11) C.1 C.2.1 dX0_isMadeBy_2 (by decide) (fun hc => ?_) (fun hc => ?_)
  · rw [if_pos hc] at h
    refine lv_iconst (v := (0:Int32)) C.1 C.2.1 dX0_isMadeBy_11 (by decide) ?_
    exact cl_zret ⟨rfl, rfl⟩ rfl C G h rfl dX0_isMadeBy_12
  · rw [if_neg hc] at h
    refine lv_iload_n C.1 C.2.1 dX0_isMadeBy_5 rfl (lv_at hl 0 rfl) ?_
    refine lv_bipush (v := (39:Int32)) C.1 C.2.1 dX0_isMadeBy_6 (by decide) ?_
    refine lv_icmp_le (tgt := 13) C.1 C.2.1 dX0_isMadeBy_8 (by decide) (fun hc => ?_) (fun hc => ?_)
    · rw [if_pos hc] at h
      refine lv_iload_n C.1 C.2.1 dX0_isMadeBy_13 rfl (lv_at hl 0 rfl) ?_
      obtain ⟨r_2, σ_1, hq, h_3⟩ := bd2_some h
      refine cl_callS (rest := []) C G cw_RX0_143 [.int x0] _ (kc_X0_hasD l D c0 hq) (Nat.le_of_ble_eq_true rfl) (Nat.le_of_ble_eq_true rfl) rfl rfl hl.1 (Nat.le_of_ble_eq_true rfl) dX0_isMadeBy_14 (fun T_4 H locs cells slots t_5 hu G_6 => ?_)
      refine W.eq (g2 := F0 m 17 ls [.int r_2]) rfl ?_
      refine lv_if_eq (tgt := 25) C.1 C.2.1 dX0_isMadeBy_17 (by decide) (fun hc => ?_) (fun hc => ?_)
      · rw [if_pos hc] at h_3
        refine lv_iconst (v := (0:Int32)) C.1 C.2.1 dX0_isMadeBy_25 (by decide) ?_
        exact wc_X0_isMadeBy_26 C h_3 G_6 (lv_sub hl [0, 1] rfl)
      · rw [if_neg hc] at h_3
        refine lv_ldc (v := (62914560:Int32)) C.1 C.2.1 C.2.2.2.1 (C.2.2.2.2.1 _ kc_RX0_225) dX0_isMadeBy_20 ?_
        refine lv_goto (tgt := 26) C.1 C.2.1 dX0_isMadeBy_22 (by decide) ?_
        exact wc_X0_isMadeBy_26 C h_3 G_6 (lv_sub hl [0, 1] rfl)
    · rw [if_neg hc] at h
      refine lv_iconst (v := (0:Int32)) C.1 C.2.1 dX0_isMadeBy_11 (by decide) ?_
      exact cl_zret ⟨rfl, rfl⟩ rfl C G h rfl dX0_isMadeBy_12
noncomputable def fc_X0_isMadeBy (x0 : Int32) (x1 : Int32) (σ : cl_S) : Option (Int32 × cl_S) := bc_X0_isMadeBy_0 x0 x1 σ
theorem kc_X0_isMadeBy (l : Launch) (D : cl_D) (c0 : Nat) {r : Int32} {x0 : Int32} {x1 : Int32} {σ σ' : cl_S} (h : fc_X0_isMadeBy x0 x1 σ = some (r, σ')) : cl_Met true l D c0 yX0_isMadeBy cX0_isMadeBy 3 (some .boolean) 2 40 [.int x0, .int x1] σ (some (.int r)) cl_no σ' :=
  cl_of (by decide) (Nat.le_of_ble_eq_true rfl) (fun p e s m args below meth c ls C hn G hl => wc_X0_isMadeBy_0 C h G  hl)
abbrev cX0_showOctet : ByteArray := prog_2_method_34_code
def yX0_showOctet : MethodName := ⟨RX0, "showOctet", "(C)V"⟩
theorem dX0_showOctet_0 : decode cX0_showOctet 0 = .ok (.aload_n 0, 1) := by decide +kernel
theorem dX0_showOctet_1 : decode cX0_showOctet 1 = .ok (.getfield 196, 3) := by decide +kernel
theorem dX0_showOctet_4 : decode cX0_showOctet 4 = .ok (.aload_n 0, 1) := by decide +kernel
theorem dX0_showOctet_5 : decode cX0_showOctet 5 = .ok (.getfield 38, 3) := by decide +kernel
theorem dX0_showOctet_8 : decode cX0_showOctet 8 = .ok (.arraylength, 1) := by decide +kernel
theorem dX0_showOctet_9 : decode cX0_showOctet 9 = .ok (.if_icmp .ge 23, 3) := by decide +kernel
theorem dX0_showOctet_12 : decode cX0_showOctet 12 = .ok (.aload_n 0, 1) := by decide +kernel
theorem dX0_showOctet_13 : decode cX0_showOctet 13 = .ok (.getfield 38, 3) := by decide +kernel
theorem dX0_showOctet_16 : decode cX0_showOctet 16 = .ok (.aload_n 0, 1) := by decide +kernel
theorem dX0_showOctet_17 : decode cX0_showOctet 17 = .ok (.getfield 196, 3) := by decide +kernel
theorem dX0_showOctet_20 : decode cX0_showOctet 20 = .ok (.iload_n 1, 1) := by decide +kernel
theorem dX0_showOctet_21 : decode cX0_showOctet 21 = .ok (.castore, 1) := by decide +kernel
theorem dX0_showOctet_22 : decode cX0_showOctet 22 = .ok (.aload_n 0, 1) := by decide +kernel
theorem dX0_showOctet_23 : decode cX0_showOctet 23 = .ok (.dup, 1) := by decide +kernel
theorem dX0_showOctet_24 : decode cX0_showOctet 24 = .ok (.getfield 196, 3) := by decide +kernel
theorem dX0_showOctet_27 : decode cX0_showOctet 27 = .ok (.iconst 1, 1) := by decide +kernel
theorem dX0_showOctet_28 : decode cX0_showOctet 28 = .ok (.iadd, 1) := by decide +kernel
theorem dX0_showOctet_29 : decode cX0_showOctet 29 = .ok (.putfield 196, 3) := by decide +kernel
theorem dX0_showOctet_32 : decode cX0_showOctet 32 = .ok (.return_, 1) := by decide +kernel
theorem cc_X0_showOctet : Cond.code yX0_showOctet cX0_showOctet 2 none ∈ rf_tb := rf_at 923 (by decide +kernel) (by decide +kernel)
noncomputable def bc_X0_showOctet_0 (a : Nat) (x1 : Int32) (σ : cl_S) : Option (cl_S) := (if (nI 40) ≤ (σ.1 a 15) then some σ else ix (σ.1 a 15) 40 (vl (cl_w σ (a + 8) (σ.1 a 15).toNatClampNeg (vp_nar .char x1)) (fun σ_3 => vl (cl_w σ_3 a 15 ((σ_3.1 a 15) + (1:Int32))) (fun σ_8 => some σ_8))))
set_option maxHeartbeats 4000000 in
theorem wc_X0_showOctet_0 (C : cl_C D p s m args meth c cX0_showOctet 2 none RX0) {a : Nat} {x1 : Int32} {σ0 σ σ' : cl_S} {T : Nat → Nat × Nat} {H : Heap} {locs : List Loc} {ls : Array Slot} {cells slots : Nat} (h : bc_X0_showOctet_0 a x1 σ = some σ') (G : cl_G true D c0 ({ frames := 0, cells := σ0.2.2.2.2.2.1, slots := σ0.2.2.2.2.2.2, locals := 0 }) s σ0.2.2.2.1 T σ H locs cells slots) (ha : (T a).1 = 16) (hl : lv_has ls 2 [(0, .ref (c0 + a)), (1, .int x1)]) : W p l e ({ frames := 0, cells := σ0.2.2.2.2.2.1, slots := σ0.2.2.2.2.2.2, locals := 0 }) s m args below meth c H locs cells slots (MQ below (cl_Q true D c0 none cl_no σ0 σ') args s (σ0.2.2.2.2.2.1 - σ'.2.2.2.2.2.1) (σ0.2.2.2.2.2.2 - σ'.2.2.2.2.2.2) (cl_A c0 σ0.2.2.2.1 s.heap.size)) (F0 m 0 ls []) := by
  unfold bc_X0_showOctet_0 at h
  refine lv_aload_n C.1 C.2.1 dX0_showOctet_0 rfl (lv_at hl 0 rfl) ?_
  refine cg_0_196 C G ha dX0_showOctet_1 ?_
  refine lv_aload_n C.1 C.2.1 dX0_showOctet_4 rfl (lv_at hl 0 rfl) ?_
  refine cg_0_38 C G ha dX0_showOctet_5 (fun t_1 => ?_)
  refine cl_alenC C G t_1 dX0_showOctet_8 ?_
  refine lv_icmp_ge (tgt := 32) C.1 C.2.1 dX0_showOctet_9 (by decide) (fun hc => ?_) (fun hc => ?_)
  · rw [if_pos hc] at h
    exact cl_vret ⟨rfl, rfl⟩ rfl C G h dX0_showOctet_32
  · rw [if_neg hc] at h
    refine lv_aload_n C.1 C.2.1 dX0_showOctet_12 rfl (lv_at hl 0 rfl) ?_
    refine cg_0_38 C G ha dX0_showOctet_13 (fun t_2 => ?_)
    refine lv_aload_n C.1 C.2.1 dX0_showOctet_16 rfl (lv_at hl 0 rfl) ?_
    refine cg_0_196 C G ha dX0_showOctet_17 ?_
    refine lv_iload_n C.1 C.2.1 dX0_showOctet_20 rfl (lv_at hl 1 rfl) ?_
    obtain ⟨hi, h_4⟩ := ix_some h
    refine cl_cast C G t_2 hi dX0_showOctet_21 (fun H locs G_5 => ?_)
    refine cl_nm G_5 h_4 (fun σ_3 G_6 h_7 => ?_)
    refine lv_aload_n C.1 C.2.1 dX0_showOctet_22 rfl (lv_at hl 0 rfl) ?_
    refine lv_dup C.1 C.2.1 dX0_showOctet_23 rfl ?_
    refine cg_0_196 C G_6 ha dX0_showOctet_24 ?_
    refine lv_iconst (v := (1:Int32)) C.1 C.2.1 dX0_showOctet_27 (by decide) ?_
    refine lv_iadd C.1 C.2.1 dX0_showOctet_28 ?_
    refine cp_0_196 C G_6 ha dX0_showOctet_29 (fun H locs G_9 => ?_)
    refine cl_nm G_9 h_7 (fun σ_8 G_10 h_11 => ?_)
    exact cl_vret ⟨rfl, rfl⟩ rfl C G_10 h_11 dX0_showOctet_32
noncomputable def fc_X0_showOctet (a : Nat) (x1 : Int32) (σ : cl_S) : Option (cl_S) := bc_X0_showOctet_0 a x1 σ
theorem kc_X0_showOctet (l : Launch) (D : cl_D) (c0 : Nat) {a : Nat} {x1 : Int32} {σ σ' : cl_S} (ha : (σ.2.2.2.1 a).1 = 16) (h : fc_X0_showOctet a x1 σ = some σ') : cl_Met true l D c0 yX0_showOctet cX0_showOctet 2 none 0 0 [.ref (c0 + a), .int x1] σ none cl_no σ' :=
  cl_of (by decide) (Nat.le_of_ble_eq_true rfl) (fun p e s m args below meth c ls C hn G hl => wc_X0_showOctet_0 C h G ha hl)
abbrev cX0_showName : ByteArray := prog_2_method_30_code
def yX0_showName : MethodName := ⟨RX0, "showName", "(I)V"⟩
theorem dX0_showName_0 : decode cX0_showName 0 = .ok (.iconst 0, 1) := by decide +kernel
theorem dX0_showName_1 : decode cX0_showName 1 = .ok (.istore_n 2, 1) := by decide +kernel
theorem dX0_showName_2 : decode cX0_showName 2 = .ok (.iload_n 2, 1) := by decide +kernel
theorem dX0_showName_3 : decode cX0_showName 3 = .ok (.bipush 6, 2) := by decide +kernel
theorem dX0_showName_5 : decode cX0_showName 5 = .ok (.if_icmp .ge 28, 3) := by decide +kernel
theorem dX0_showName_8 : decode cX0_showName 8 = .ok (.iload_n 1, 1) := by decide +kernel
theorem dX0_showName_9 : decode cX0_showName 9 = .ok (.iload_n 2, 1) := by decide +kernel
theorem dX0_showName_10 : decode cX0_showName 10 = .ok (.invokestatic 46, 3) := by decide +kernel
theorem dX0_showName_13 : decode cX0_showName 13 = .ok (.bipush 32, 2) := by decide +kernel
theorem dX0_showName_15 : decode cX0_showName 15 = .ok (.if_icmp .eq 18, 3) := by decide +kernel
theorem dX0_showName_18 : decode cX0_showName 18 = .ok (.aload_n 0, 1) := by decide +kernel
theorem dX0_showName_19 : decode cX0_showName 19 = .ok (.iload_n 1, 1) := by decide +kernel
theorem dX0_showName_20 : decode cX0_showName 20 = .ok (.iload_n 2, 1) := by decide +kernel
theorem dX0_showName_21 : decode cX0_showName 21 = .ok (.invokestatic 46, 3) := by decide +kernel
theorem dX0_showName_24 : decode cX0_showName 24 = .ok (.invokevirtual 230, 3) := by decide +kernel
theorem dX0_showName_27 : decode cX0_showName 27 = .ok (.iinc 2 1, 3) := by decide +kernel
theorem dX0_showName_30 : decode cX0_showName 30 = .ok (.goto (-28), 3) := by decide +kernel
theorem dX0_showName_33 : decode cX0_showName 33 = .ok (.return_, 1) := by decide +kernel
theorem cc_X0_showName : Cond.code yX0_showName cX0_showName 3 none ∈ rf_tb := rf_at 919 (by decide +kernel) (by decide +kernel)
theorem cw_RX0_230 : cl_wV RX0 RX0 yX0_showOctet cX0_showOctet 2 none 230 1 := ⟨⟨rf_at 920 (by decide +kernel) (by decide +kernel), rf_at 922 (by decide +kernel) (by decide +kernel), rf_sel (q := (yX0_showOctet, 16)) 22 (by decide +kernel) (by decide +kernel), cc_X0_showOctet, rf_at 3 (by decide +kernel) (by decide +kernel)⟩, ⟨by decide, by decide, by decide +kernel⟩⟩
noncomputable def lc_X0_showName_2 (a : Nat) (x1 : Int32) (x2 : Int32) (σ : cl_S) : Option ((Int32 × cl_S) ⊕ (Int32 × cl_S)) := (if (6:Int32) ≤ x2 then some (.inr (x2, σ)) else bd2 (fc_X0_nameOctet x1 x2 σ) (fun r_3 σ_2 => (if r_3 = (32:Int32) then some (.inr (x2, σ_2)) else bd2 (fc_X0_nameOctet x1 x2 σ_2) (fun r_9 σ_8 => bd1 (fc_X0_showOctet a r_9 σ_8) (fun σ_14 => vl (x2 + (1:Int32)) (fun x2_19 => some (.inl (x2_19, σ_14))))))))
noncomputable def ec_X0_showName_2 (a : Nat) (x1 : Int32) (x2 : Int32) (σ : cl_S) : Option (cl_S) := some σ
noncomputable def bc_X0_showName_2 (a : Nat) (x1 : Int32) (x2 : Int32) (σ : cl_S) : Option (cl_S) := (lp (fun z : (Int32 × cl_S) => lc_X0_showName_2 a x1 z.1 z.2) (x2, σ)).bind (fun z => ec_X0_showName_2 a x1 z.1 z.2)
set_option maxHeartbeats 4000000 in
theorem wc_X0_showName_2 (C : cl_C D p s m args meth c cX0_showName 3 none RX0) {a : Nat} {x1 : Int32} {x2 : Int32} {σ0 σ σ' : cl_S} {T : Nat → Nat × Nat} {H : Heap} {locs : List Loc} {ls : Array Slot} {cells slots : Nat} (h : bc_X0_showName_2 a x1 x2 σ = some σ') (G : cl_G true D c0 ({ frames := 5, cells := σ0.2.2.2.2.2.1, slots := σ0.2.2.2.2.2.2, locals := 106 }) s σ0.2.2.2.1 T σ H locs cells slots) (ha : (T a).1 = 16) (hl : lv_has ls 3 [(0, .ref (c0 + a)), (1, .int x1), (2, .int x2)]) : W p l e ({ frames := 5, cells := σ0.2.2.2.2.2.1, slots := σ0.2.2.2.2.2.2, locals := 106 }) s m args below meth c H locs cells slots (MQ below (cl_Q true D c0 none cl_no σ0 σ') args s (σ0.2.2.2.2.2.1 - σ'.2.2.2.2.2.1) (σ0.2.2.2.2.2.2 - σ'.2.2.2.2.2.2) (cl_A c0 σ0.2.2.2.1 s.heap.size)) (F0 m 2 ls []) := by
  unfold bc_X0_showName_2 at h
  obtain ⟨y, hy, h⟩ := bd_some h
  have hE : (fun z : (Int32 × cl_S) => ∀ (T : Nat → Nat × Nat) (H : Heap) (locs : List Loc) (ls : Array Slot) (cells slots : Nat), cl_G true D c0 ({ frames := 5, cells := σ0.2.2.2.2.2.1, slots := σ0.2.2.2.2.2.2, locals := 106 }) s σ0.2.2.2.1 T z.2 H locs cells slots → (T a).1 = 16 → lv_has ls 3 [(0, .ref (c0 + a)), (1, .int x1), (2, .int (z.1))] → W p l e ({ frames := 5, cells := σ0.2.2.2.2.2.1, slots := σ0.2.2.2.2.2.2, locals := 106 }) s m args below meth c H locs cells slots (MQ below (cl_Q true D c0 none cl_no σ0 σ') args s (σ0.2.2.2.2.2.1 - σ'.2.2.2.2.2.1) (σ0.2.2.2.2.2.2 - σ'.2.2.2.2.2.2) (cl_A c0 σ0.2.2.2.1 s.heap.size)) (F0 m 33 ls [])) y := by
    clear hy G ha hl
    intro T H locs ls cells slots G ha hl
    obtain ⟨x2, σ⟩ := y
    dsimp only at h G ha hl
    unfold ec_X0_showName_2 at h
    exact cl_vret ⟨rfl, rfl⟩ rfl C G h dX0_showName_33
  refine lp_recE (fun z : (Int32 × cl_S) => ∀ (T : Nat → Nat × Nat) (H : Heap) (locs : List Loc) (ls : Array Slot) (cells slots : Nat), cl_G true D c0 ({ frames := 5, cells := σ0.2.2.2.2.2.1, slots := σ0.2.2.2.2.2.2, locals := 106 }) s σ0.2.2.2.1 T z.2 H locs cells slots → (T a).1 = 16 → lv_has ls 3 [(0, .ref (c0 + a)), (1, .int x1), (2, .int (z.1))] → W p l e ({ frames := 5, cells := σ0.2.2.2.2.2.1, slots := σ0.2.2.2.2.2.2, locals := 106 }) s m args below meth c H locs cells slots (MQ below (cl_Q true D c0 none cl_no σ0 σ') args s (σ0.2.2.2.2.2.1 - σ'.2.2.2.2.2.1) (σ0.2.2.2.2.2.2 - σ'.2.2.2.2.2.2) (cl_A c0 σ0.2.2.2.1 s.heap.size)) (F0 m 2 ls [])) (fun z : (Int32 × cl_S) => ∀ (T : Nat → Nat × Nat) (H : Heap) (locs : List Loc) (ls : Array Slot) (cells slots : Nat), cl_G true D c0 ({ frames := 5, cells := σ0.2.2.2.2.2.1, slots := σ0.2.2.2.2.2.2, locals := 106 }) s σ0.2.2.2.1 T z.2 H locs cells slots → (T a).1 = 16 → lv_has ls 3 [(0, .ref (c0 + a)), (1, .int x1), (2, .int (z.1))] → W p l e ({ frames := 5, cells := σ0.2.2.2.2.2.1, slots := σ0.2.2.2.2.2.2, locals := 106 }) s m args below meth c H locs cells slots (MQ below (cl_Q true D c0 none cl_no σ0 σ') args s (σ0.2.2.2.2.2.1 - σ'.2.2.2.2.2.1) (σ0.2.2.2.2.2.2 - σ'.2.2.2.2.2.2) (cl_A c0 σ0.2.2.2.1 s.heap.size)) (F0 m 33 ls [])) ?_ _ _ hy hE _ _ _ _ _ _ G ha hl
  clear hE hy G ha hl h
  intro z o h hP T H locs ls cells slots G ha hl
  obtain ⟨x2, σ⟩ := z
  dsimp only at h G ha hl
  unfold lc_X0_showName_2 at h
  refine lv_iload_n C.1 C.2.1 dX0_showName_2 rfl (lv_at hl 2 rfl) ?_
  refine lv_bipush (v := (6:Int32)) C.1 C.2.1 dX0_showName_3 (by decide) ?_
  refine lv_icmp_ge (tgt := 33) C.1 C.2.1 dX0_showName_5 (by decide) (fun hc => ?_) (fun hc => ?_)
  · rw [if_pos hc] at h
    cases h
    exact hP _ _ _ _ _ _ G ha (lv_sub hl [0, 1, 2] rfl)
  · rw [if_neg hc] at h
    refine lv_iload_n C.1 C.2.1 dX0_showName_8 rfl (lv_at hl 1 rfl) ?_
    refine lv_iload_n C.1 C.2.1 dX0_showName_9 rfl (lv_at hl 2 rfl) ?_
    obtain ⟨r_3, σ_2, hq, h_4⟩ := bd2_some h
    refine cl_callS (rest := []) C G cw_RX0_46 [.int x1, .int x2] _ (kc_X0_nameOctet l D c0 hq) (Nat.le_of_ble_eq_true rfl) (Nat.le_of_ble_eq_true rfl) rfl rfl hl.1 (Nat.le_of_ble_eq_true rfl) dX0_showName_10 (fun T_5 H locs cells slots t_6 hu G_7 => ?_)
    have ha := hu.kind ha (by decide)
    refine W.eq (g2 := F0 m 13 ls [.int r_3]) rfl ?_
    refine lv_bipush (v := (32:Int32)) C.1 C.2.1 dX0_showName_13 (by decide) ?_
    refine lv_icmp_eq (tgt := 33) C.1 C.2.1 dX0_showName_15 (by decide) (fun hc => ?_) (fun hc => ?_)
    · rw [if_pos hc] at h_4
      cases h_4
      exact hP _ _ _ _ _ _ G_7 ha (lv_sub hl [0, 1, 2] rfl)
    · rw [if_neg hc] at h_4
      refine lv_aload_n C.1 C.2.1 dX0_showName_18 rfl (lv_at hl 0 rfl) ?_
      refine lv_iload_n C.1 C.2.1 dX0_showName_19 rfl (lv_at hl 1 rfl) ?_
      refine lv_iload_n C.1 C.2.1 dX0_showName_20 rfl (lv_at hl 2 rfl) ?_
      obtain ⟨r_9, σ_8, hq, h_10⟩ := bd2_some h_4
      refine cl_callS (rest := [.ref (c0 + a)]) C G_7 cw_RX0_46 [.int x1, .int x2] _ (kc_X0_nameOctet l D c0 hq) (Nat.le_of_ble_eq_true rfl) (Nat.le_of_ble_eq_true rfl) rfl rfl hl.1 (Nat.le_of_ble_eq_true rfl) dX0_showName_21 (fun T_11 H locs cells slots t_12 hu G_13 => ?_)
      have ha := hu.kind ha (by decide)
      refine W.eq (g2 := F0 m 24 ls [.int r_9, .ref (c0 + a)]) rfl ?_
      obtain ⟨σ_14, hq, h_15⟩ := bd1_some h_10
      refine cl_callV (ci := 0) (rest := []) C G_13 rfl ha cw_RX0_230 [.int r_9] _ (kc_X0_showOctet l D c0 (by rw [G_13.1]; exact ha) hq) (Nat.le_of_ble_eq_true rfl) (Nat.le_of_ble_eq_true rfl) rfl rfl hl.1 (Nat.le_of_ble_eq_true rfl) dX0_showName_24 (fun T_16 H locs cells slots t_17 hu G_18 => ?_)
      have ha := hu.kind ha (by decide)
      refine W.eq (g2 := F0 m 27 ls []) rfl ?_
      refine vl_ex h_15 (fun x2_19 ey h_20 => ?_)
      refine lv_iinc (v := x2_19) (lv' := [(2, .int x2_19), (0, .ref (c0 + a)), (1, .int x1)]) C.1 C.2.1 dX0_showName_27 hl (k := 2) rfl (by rw [ey]; rfl) (by decide) rfl (fun ls hl_21 => ?_)
      refine lv_goto (tgt := 2) C.1 C.2.1 dX0_showName_30 (by decide) ?_
      cases h_20
      exact hP _ _ _ _ _ _ G_18 ha (lv_sub hl_21 [1, 2, 0] rfl)
noncomputable def bc_X0_showName_0 (a : Nat) (x1 : Int32) (σ : cl_S) : Option (cl_S) := bc_X0_showName_2 a x1 (0:Int32) σ
set_option maxHeartbeats 4000000 in
theorem wc_X0_showName_0 (C : cl_C D p s m args meth c cX0_showName 3 none RX0) {a : Nat} {x1 : Int32} {σ0 σ σ' : cl_S} {T : Nat → Nat × Nat} {H : Heap} {locs : List Loc} {ls : Array Slot} {cells slots : Nat} (h : bc_X0_showName_0 a x1 σ = some σ') (G : cl_G true D c0 ({ frames := 5, cells := σ0.2.2.2.2.2.1, slots := σ0.2.2.2.2.2.2, locals := 106 }) s σ0.2.2.2.1 T σ H locs cells slots) (ha : (T a).1 = 16) (hl : lv_has ls 3 [(0, .ref (c0 + a)), (1, .int x1)]) : W p l e ({ frames := 5, cells := σ0.2.2.2.2.2.1, slots := σ0.2.2.2.2.2.2, locals := 106 }) s m args below meth c H locs cells slots (MQ below (cl_Q true D c0 none cl_no σ0 σ') args s (σ0.2.2.2.2.2.1 - σ'.2.2.2.2.2.1) (σ0.2.2.2.2.2.2 - σ'.2.2.2.2.2.2) (cl_A c0 σ0.2.2.2.1 s.heap.size)) (F0 m 0 ls []) := by
  unfold bc_X0_showName_0 at h
  refine lv_iconst (v := (0:Int32)) C.1 C.2.1 dX0_showName_0 (by decide) ?_
  refine lv_istore_n (lv' := [(2, .int (0:Int32)), (0, .ref (c0 + a)), (1, .int x1)]) C.1 C.2.1 dX0_showName_1 rfl hl (by decide) rfl (fun ls hl_1 => ?_)
  exact wc_X0_showName_2 C h G ha (lv_sub hl_1 [1, 2, 0] rfl)
noncomputable def fc_X0_showName (a : Nat) (x1 : Int32) (σ : cl_S) : Option (cl_S) := bc_X0_showName_0 a x1 σ
theorem kc_X0_showName (l : Launch) (D : cl_D) (c0 : Nat) {a : Nat} {x1 : Int32} {σ σ' : cl_S} (ha : (σ.2.2.2.1 a).1 = 16) (h : fc_X0_showName a x1 σ = some σ') : cl_Met true l D c0 yX0_showName cX0_showName 3 none 5 106 [.ref (c0 + a), .int x1] σ none cl_no σ' :=
  cl_of (by decide) (Nat.le_of_ble_eq_true rfl) (fun p e s m args below meth c ls C hn G hl => wc_X0_showName_0 C h G ha hl)
abbrev cX0_showText : ByteArray := prog_2_method_32_code
def yX0_showText : MethodName := ⟨RX0, "showText", "(Ljava/lang/String;)V"⟩
theorem dX0_showText_0 : decode cX0_showText 0 = .ok (.iconst 0, 1) := by decide +kernel
theorem dX0_showText_1 : decode cX0_showText 1 = .ok (.istore_n 2, 1) := by decide +kernel
theorem dX0_showText_2 : decode cX0_showText 2 = .ok (.iload_n 2, 1) := by decide +kernel
theorem dX0_showText_3 : decode cX0_showText 3 = .ok (.aload_n 1, 1) := by decide +kernel
theorem dX0_showText_4 : decode cX0_showText 4 = .ok (.invokevirtual 234, 3) := by decide +kernel
theorem dX0_showText_7 : decode cX0_showText 7 = .ok (.if_icmp .ge 18, 3) := by decide +kernel
theorem dX0_showText_10 : decode cX0_showText 10 = .ok (.aload_n 0, 1) := by decide +kernel
theorem dX0_showText_11 : decode cX0_showText 11 = .ok (.aload_n 1, 1) := by decide +kernel
theorem dX0_showText_12 : decode cX0_showText 12 = .ok (.iload_n 2, 1) := by decide +kernel
theorem dX0_showText_13 : decode cX0_showText 13 = .ok (.invokevirtual 52, 3) := by decide +kernel
theorem dX0_showText_16 : decode cX0_showText 16 = .ok (.invokevirtual 230, 3) := by decide +kernel
theorem dX0_showText_19 : decode cX0_showText 19 = .ok (.iinc 2 1, 3) := by decide +kernel
theorem dX0_showText_22 : decode cX0_showText 22 = .ok (.goto (-20), 3) := by decide +kernel
theorem dX0_showText_25 : decode cX0_showText 25 = .ok (.return_, 1) := by decide +kernel
theorem cc_X0_showText : Cond.code yX0_showText cX0_showText 3 none ∈ rf_tb := rf_at 928 (by decide +kernel) (by decide +kernel)
noncomputable def sh_T (a : Nat) : List Int32 → cl_S → Option cl_S
  | [], σ => some σ
  | ch :: l, σ => bd1 (fc_X0_showOctet a ch σ) (fun σ1 => sh_T a l σ1)
noncomputable def fc_X0_showText (a : Nat) (x1 : List Int32) (σ : cl_S) : Option cl_S := if x1 ∈ cl_strs.map (fun q => q.2.2) then sh_T a x1 σ else none
set_option maxHeartbeats 4000000 in
theorem wc_X0_showText_2 (C : cl_C D p s m args meth c cX0_showText 3 none RX0) {a q qv : Nat} {bs : List Int32} (hS : jk_S D.2.2.2.1 q qv bs s) (hlen : bs.length < 1000) {σ0 σ' : cl_S} : ∀ (k : Nat) (i : Nat), bs.length = i + k → ∀ (σ : cl_S) (T : Nat → Nat × Nat) (H : Heap) (locs : List Loc) (ls : Array Slot) (cells slots : Nat), sh_T a (bs.drop i) σ = some σ' → cl_G true D c0 ({ frames := 4, cells := σ0.2.2.2.2.2.1, slots := σ0.2.2.2.2.2.2, locals := 85 }) s σ0.2.2.2.1 T σ H locs cells slots → (T a).1 = 16 → lv_has ls 3 [(2, .int (nI i)), (0, .ref (c0 + a)), (1, .ref q)] →
    W p l e ({ frames := 4, cells := σ0.2.2.2.2.2.1, slots := σ0.2.2.2.2.2.2, locals := 85 }) s m args below meth c H locs cells slots (MQ below (cl_Q true D c0 none cl_no σ0 σ') args s (σ0.2.2.2.2.2.1 - σ'.2.2.2.2.2.1) (σ0.2.2.2.2.2.2 - σ'.2.2.2.2.2.2) (cl_A c0 σ0.2.2.2.1 s.heap.size)) (F0 m 2 ls []) := by
  intro k
  induction k with
  | zero =>
    intro i hi σ T H locs ls cells slots h G ha hl
    have hd : bs.drop i = [] := List.drop_eq_nil_of_le (by omega)
    rw [hd] at h
    refine lv_iload_n C.1 C.2.1 dX0_showText_2 rfl (lv_at hl 0 rfl) ?_
    refine lv_aload_n C.1 C.2.1 dX0_showText_3 rfl (lv_at hl 2 rfl) ?_
    refine cl_callJ (rest := [.int (nI i)]) C G hS jl_X0_234 jim_J0_length_8abf5 cc_J0_length_8abf5 ji_0 jse_J0_length_8abf5 (n := 0) (by decide +kernel) [] _ jk_length (Nat.le_of_ble_eq_true rfl) (Nat.le_of_ble_eq_true rfl) rfl rfl hl.1 (Nat.le_of_ble_eq_true rfl) dX0_showText_4 ?_
    refine lv_icmp_ge (tgt := 25) C.1 C.2.1 dX0_showText_7 (by decide) (fun hc => ?_) (fun hc => ?_)
    · exact cl_vret ⟨rfl, rfl⟩ rfl C G h dX0_showText_25
    · exfalso
      have e : i = bs.length := by omega
      rw [← e] at hc
      exact hc (Int32.le_refl _)
  | succ k ih =>
    intro i hi σ T H locs ls cells slots h G ha hl
    have hlt : i < bs.length := by omega
    have hd : bs.drop i = bs.getD i 0 :: bs.drop (i + 1) := by
      rw [List.drop_eq_getElem_cons hlt, List.getD_eq_getElem?_getD, List.getElem?_eq_getElem hlt]
      rfl
    rw [hd] at h
    obtain ⟨σ1, hq, h⟩ := bd1_some h
    have hni : (nI i).toNatClampNeg = i := Int32.toNatClampNeg_ofNat_of_lt (by omega)
    have hn0 : ¬ (nI i) < 0 := by
      intro q
      have h1 := Int32.lt_iff_toInt_lt.mp q
      rw [show (nI i).toInt = (i : Int) from Int32.toInt_ofNat_of_lt (by omega)] at h1
      have : (0 : Int32).toInt = 0 := by decide
      omega
    refine lv_iload_n C.1 C.2.1 dX0_showText_2 rfl (lv_at hl 0 rfl) ?_
    refine lv_aload_n C.1 C.2.1 dX0_showText_3 rfl (lv_at hl 2 rfl) ?_
    refine cl_callJ (rest := [.int (nI i)]) C G hS jl_X0_234 jim_J0_length_8abf5 cc_J0_length_8abf5 ji_0 jse_J0_length_8abf5 (n := 0) (by decide +kernel) [] _ jk_length (Nat.le_of_ble_eq_true rfl) (Nat.le_of_ble_eq_true rfl) rfl rfl hl.1 (Nat.le_of_ble_eq_true rfl) dX0_showText_4 ?_
    refine lv_icmp_ge (tgt := 25) C.1 C.2.1 dX0_showText_7 (by decide) (fun hc => ?_) (fun hc => ?_)
    · exfalso
      have h1 := Int32.le_iff_toInt_le.mp hc
      rw [show (nI i).toInt = (i : Int) from Int32.toInt_ofNat_of_lt (by omega), show (Int32.ofNat bs.length).toInt = (bs.length : Int) from Int32.toInt_ofNat_of_lt (by omega)] at h1
      omega
    refine lv_aload_n C.1 C.2.1 dX0_showText_10 rfl (lv_at hl 1 rfl) ?_
    refine lv_aload_n C.1 C.2.1 dX0_showText_11 rfl (lv_at hl 2 rfl) ?_
    refine lv_iload_n C.1 C.2.1 dX0_showText_12 rfl (lv_at hl 0 rfl) ?_
    refine cl_callJ (rest := [.ref (c0 + a)]) C G hS jl_X0_52 jim_J0_charAt_5068e cc_J0_charAt_5068e ji_0 jse_J0_charAt_5068e (n := 1) (by decide +kernel) [.int (nI i)] _ (jk_charAt hn0 (by rw [hni]; exact hlt)) (Nat.le_of_ble_eq_true rfl) (Nat.le_of_ble_eq_true rfl) rfl rfl hl.1 (Nat.le_of_ble_eq_true rfl) dX0_showText_13 ?_
    rw [hni]
    refine cl_callV (ci := 0) (rest := []) C G rfl ha cw_RX0_230 [.int (bs.getD i 0)] _ (kc_X0_showOctet l D c0 (by rw [G.1]; exact ha) hq) (Nat.le_of_ble_eq_true rfl) (Nat.le_of_ble_eq_true rfl) rfl rfl hl.1 (Nat.le_of_ble_eq_true rfl) dX0_showText_16 (fun T1 H locs cells slots _ hu G => ?_)
    have ha := hu.kind ha (by decide)
    refine lv_iinc (v := nI (i + 1)) (lv' := [(2, .int (nI (i + 1))), (0, .ref (c0 + a)), (1, .ref q)]) C.1 C.2.1 dX0_showText_19 hl (k := 0) rfl (by show nI i + (1:Int32) = nI (i + 1); unfold nI; rw [Int32.ofNat_add]; rfl) (by decide) rfl (fun ls hl => ?_)
    refine lv_goto (tgt := 2) C.1 C.2.1 dX0_showText_22 (by decide) ?_
    exact ih (i + 1) (by omega) _ _ _ _ _ _ _ h G ha hl
theorem kc_X0_showText (l : Launch) (D : cl_D) (c0 : Nat) {a : Nat} {x1 : List Int32} {σ σ' : cl_S} (ha : (σ.2.2.2.1 a).1 = 16) (h : fc_X0_showText a x1 σ = some σ') : cl_Met true l D c0 yX0_showText cX0_showText 3 none 4 85 [.ref (c0 + a), .ref (D.2.2.2.2.2 x1)] σ none cl_no σ' := by
  refine cl_of (by decide) (Nat.le_of_ble_eq_true rfl) (fun p e s m args below meth c ls C hn G hl => ?_)
  unfold fc_X0_showText at h
  by_cases hm : x1 ∈ cl_strs.map (fun q => q.2.2)
  · rw [if_pos hm] at h
    obtain ⟨z, hz, rfl⟩ := List.mem_map.mp hm
    obtain ⟨hR, qv, hS⟩ := C.2.2.2.2.2.1.2.2.1 z hz
    have hlen : ∀ z ∈ cl_strs, z.2.2.length < 1000 := by decide +kernel
    refine lv_iconst (v := (0:Int32)) C.1 C.2.1 dX0_showText_0 (by decide) ?_
    refine lv_istore_n (lv' := [(2, .int (0:Int32)), (0, .ref (c0 + a)), (1, .ref (D.2.2.2.2.2 z.2.2))]) C.1 C.2.1 dX0_showText_1 rfl hl (by decide) rfl (fun ls hl => ?_)
    exact wc_X0_showText_2 C hS (hlen z hz) z.2.2.length 0 (by omega) _ _ _ _ _ _ _ (by rw [List.drop_zero]; exact h) G ha hl
  · rw [if_neg hm] at h
    cases h

abbrev cX0_showNumber : ByteArray := prog_2_method_33_code
def yX0_showNumber : MethodName := ⟨RX0, "showNumber", "(I)V"⟩
theorem dX0_showNumber_0 : decode cX0_showNumber 0 = .ok (.iload_n 1, 1) := by decide +kernel
theorem dX0_showNumber_1 : decode cX0_showNumber 1 = .ok (.i2l, 1) := by decide +kernel
theorem dX0_showNumber_2 : decode cX0_showNumber 2 = .ok (.lstore_n 2, 1) := by decide +kernel
theorem dX0_showNumber_3 : decode cX0_showNumber 3 = .ok (.lload_n 2, 1) := by decide +kernel
theorem dX0_showNumber_4 : decode cX0_showNumber 4 = .ok (.lconst 0, 1) := by decide +kernel
theorem dX0_showNumber_5 : decode cX0_showNumber 5 = .ok (.lcmp, 1) := by decide +kernel
theorem dX0_showNumber_6 : decode cX0_showNumber 6 = .ok (.ifCond .ge 12, 3) := by decide +kernel
theorem dX0_showNumber_9 : decode cX0_showNumber 9 = .ok (.aload_n 0, 1) := by decide +kernel
theorem dX0_showNumber_10 : decode cX0_showNumber 10 = .ok (.bipush 45, 2) := by decide +kernel
theorem dX0_showNumber_12 : decode cX0_showNumber 12 = .ok (.invokevirtual 230, 3) := by decide +kernel
theorem dX0_showNumber_15 : decode cX0_showNumber 15 = .ok (.lload_n 2, 1) := by decide +kernel
theorem dX0_showNumber_16 : decode cX0_showNumber 16 = .ok (.lneg, 1) := by decide +kernel
theorem dX0_showNumber_17 : decode cX0_showNumber 17 = .ok (.lstore_n 2, 1) := by decide +kernel
theorem dX0_showNumber_18 : decode cX0_showNumber 18 = .ok (.lconst 1, 1) := by decide +kernel
theorem dX0_showNumber_19 : decode cX0_showNumber 19 = .ok (.lstore 4, 2) := by decide +kernel
theorem dX0_showNumber_21 : decode cX0_showNumber 21 = .ok (.iconst 0, 1) := by decide +kernel
theorem dX0_showNumber_22 : decode cX0_showNumber 22 = .ok (.istore 6, 2) := by decide +kernel
theorem dX0_showNumber_24 : decode cX0_showNumber 24 = .ok (.iload 6, 2) := by decide +kernel
theorem dX0_showNumber_26 : decode cX0_showNumber 26 = .ok (.bipush 10, 2) := by decide +kernel
theorem dX0_showNumber_28 : decode cX0_showNumber 28 = .ok (.if_icmp .ge 28, 3) := by decide +kernel
theorem dX0_showNumber_31 : decode cX0_showNumber 31 = .ok (.lload 4, 2) := by decide +kernel
theorem dX0_showNumber_33 : decode cX0_showNumber 33 = .ok (.ldc2_w 236, 3) := by decide +kernel
theorem dX0_showNumber_36 : decode cX0_showNumber 36 = .ok (.lmul, 1) := by decide +kernel
theorem dX0_showNumber_37 : decode cX0_showNumber 37 = .ok (.lload_n 2, 1) := by decide +kernel
theorem dX0_showNumber_38 : decode cX0_showNumber 38 = .ok (.lcmp, 1) := by decide +kernel
theorem dX0_showNumber_39 : decode cX0_showNumber 39 = .ok (.ifCond .gt 17, 3) := by decide +kernel
theorem dX0_showNumber_42 : decode cX0_showNumber 42 = .ok (.lload 4, 2) := by decide +kernel
theorem dX0_showNumber_44 : decode cX0_showNumber 44 = .ok (.ldc2_w 236, 3) := by decide +kernel
theorem dX0_showNumber_47 : decode cX0_showNumber 47 = .ok (.lmul, 1) := by decide +kernel
theorem dX0_showNumber_48 : decode cX0_showNumber 48 = .ok (.lstore 4, 2) := by decide +kernel
theorem dX0_showNumber_50 : decode cX0_showNumber 50 = .ok (.iinc 6 1, 3) := by decide +kernel
theorem dX0_showNumber_53 : decode cX0_showNumber 53 = .ok (.goto (-29), 3) := by decide +kernel
theorem dX0_showNumber_56 : decode cX0_showNumber 56 = .ok (.lload 4, 2) := by decide +kernel
theorem dX0_showNumber_58 : decode cX0_showNumber 58 = .ok (.lconst 0, 1) := by decide +kernel
theorem dX0_showNumber_59 : decode cX0_showNumber 59 = .ok (.lcmp, 1) := by decide +kernel
theorem dX0_showNumber_60 : decode cX0_showNumber 60 = .ok (.ifCond .le 32, 3) := by decide +kernel
theorem dX0_showNumber_63 : decode cX0_showNumber 63 = .ok (.aload_n 0, 1) := by decide +kernel
theorem dX0_showNumber_64 : decode cX0_showNumber 64 = .ok (.ldc2_w 238, 3) := by decide +kernel
theorem dX0_showNumber_67 : decode cX0_showNumber 67 = .ok (.lload_n 2, 1) := by decide +kernel
theorem dX0_showNumber_68 : decode cX0_showNumber 68 = .ok (.lload 4, 2) := by decide +kernel
theorem dX0_showNumber_70 : decode cX0_showNumber 70 = .ok (.ldiv, 1) := by decide +kernel
theorem dX0_showNumber_71 : decode cX0_showNumber 71 = .ok (.ldc2_w 236, 3) := by decide +kernel
theorem dX0_showNumber_74 : decode cX0_showNumber 74 = .ok (.lrem, 1) := by decide +kernel
theorem dX0_showNumber_75 : decode cX0_showNumber 75 = .ok (.ladd, 1) := by decide +kernel
theorem dX0_showNumber_76 : decode cX0_showNumber 76 = .ok (.l2i, 1) := by decide +kernel
theorem dX0_showNumber_77 : decode cX0_showNumber 77 = .ok (.i2c, 1) := by decide +kernel
theorem dX0_showNumber_78 : decode cX0_showNumber 78 = .ok (.invokevirtual 230, 3) := by decide +kernel
theorem dX0_showNumber_81 : decode cX0_showNumber 81 = .ok (.lload 4, 2) := by decide +kernel
theorem dX0_showNumber_83 : decode cX0_showNumber 83 = .ok (.ldc2_w 236, 3) := by decide +kernel
theorem dX0_showNumber_86 : decode cX0_showNumber 86 = .ok (.ldiv, 1) := by decide +kernel
theorem dX0_showNumber_87 : decode cX0_showNumber 87 = .ok (.lstore 4, 2) := by decide +kernel
theorem dX0_showNumber_89 : decode cX0_showNumber 89 = .ok (.goto (-33), 3) := by decide +kernel
theorem dX0_showNumber_92 : decode cX0_showNumber 92 = .ok (.return_, 1) := by decide +kernel
theorem cc_X0_showNumber : Cond.code yX0_showNumber cX0_showNumber 7 none ∈ rf_tb := rf_at 940 (by decide +kernel) (by decide +kernel)
theorem kc_RX0_236 : Cond.constantLong RX0 236 (10 : Int64) ∈ rf_tb := rf_at 941 (by decide +kernel) (by decide +kernel)
theorem kc_RX0_238 : Cond.constantLong RX0 238 (48 : Int64) ∈ rf_tb := rf_at 942 (by decide +kernel) (by decide +kernel)
noncomputable def lc_X0_showNumber_24 (a : Nat) (x2 : Int64) (x4 : Int64) (x6 : Int32) (σ : cl_S) : Option ((Int64 × Int32 × cl_S) ⊕ (Int64 × Int32 × cl_S)) := (if (10:Int32) ≤ x6 then some (.inr (x4, x6, σ)) else (if 0 < (lg_cmp (x4 * (10:Int64)) x2) then some (.inr (x4, x6, σ)) else vl (x4 * (10:Int64)) (fun x4_6 => vl (x6 + (1:Int32)) (fun x6_9 => some (.inl (x4_6, x6_9, σ))))))
noncomputable def lc_X0_showNumber_56 (a : Nat) (x2 : Int64) (x4 : Int64) (σ : cl_S) : Option ((Int64 × cl_S) ⊕ (Int64 × cl_S)) := (if (lg_cmp x4 (0:Int64)) ≤ 0 then some (.inr (x4, σ)) else nzL x4 (bd1 (fc_X0_showOctet a (((((48:Int64) + ((x2 / x4) - (x2 / x4) / (10:Int64) * (10:Int64))).toInt32).toUInt32 % 65536).toInt32) σ) (fun σ_13 => vl (x4 / (10:Int64)) (fun x4_18 => some (.inl (x4_18, σ_13))))))
noncomputable def ec_X0_showNumber_56 (a : Nat) (x2 : Int64) (x4 : Int64) (σ : cl_S) : Option (cl_S) := some σ
noncomputable def bc_X0_showNumber_56 (a : Nat) (x2 : Int64) (x4 : Int64) (σ : cl_S) : Option (cl_S) := (lp (fun z : (Int64 × cl_S) => lc_X0_showNumber_56 a x2 z.1 z.2) (x4, σ)).bind (fun z => ec_X0_showNumber_56 a x2 z.1 z.2)
set_option maxHeartbeats 4000000 in
theorem wc_X0_showNumber_56 (C : cl_C D p s m args meth c cX0_showNumber 7 none RX0) {a : Nat} {x2 : Int64} {x4 : Int64} {σ0 σ σ' : cl_S} {T : Nat → Nat × Nat} {H : Heap} {locs : List Loc} {ls : Array Slot} {cells slots : Nat} (h : bc_X0_showNumber_56 a x2 x4 σ = some σ') (G : cl_G true D c0 ({ frames := 1, cells := σ0.2.2.2.2.2.1, slots := σ0.2.2.2.2.2.2, locals := 21 }) s σ0.2.2.2.1 T σ H locs cells slots) (ha : (T a).1 = 16) (hl : lv_has ls 7 [(0, .ref (c0 + a)), (2, .long x2), (4, .long x4)]) : W p l e ({ frames := 1, cells := σ0.2.2.2.2.2.1, slots := σ0.2.2.2.2.2.2, locals := 21 }) s m args below meth c H locs cells slots (MQ below (cl_Q true D c0 none cl_no σ0 σ') args s (σ0.2.2.2.2.2.1 - σ'.2.2.2.2.2.1) (σ0.2.2.2.2.2.2 - σ'.2.2.2.2.2.2) (cl_A c0 σ0.2.2.2.1 s.heap.size)) (F0 m 56 ls []) := by
  unfold bc_X0_showNumber_56 at h
  obtain ⟨y, hy, h⟩ := bd_some h
  have hE : (fun z : (Int64 × cl_S) => ∀ (T : Nat → Nat × Nat) (H : Heap) (locs : List Loc) (ls : Array Slot) (cells slots : Nat), cl_G true D c0 ({ frames := 1, cells := σ0.2.2.2.2.2.1, slots := σ0.2.2.2.2.2.2, locals := 21 }) s σ0.2.2.2.1 T z.2 H locs cells slots → (T a).1 = 16 → lv_has ls 7 [(0, .ref (c0 + a)), (2, .long x2), (4, .long (z.1))] → W p l e ({ frames := 1, cells := σ0.2.2.2.2.2.1, slots := σ0.2.2.2.2.2.2, locals := 21 }) s m args below meth c H locs cells slots (MQ below (cl_Q true D c0 none cl_no σ0 σ') args s (σ0.2.2.2.2.2.1 - σ'.2.2.2.2.2.1) (σ0.2.2.2.2.2.2 - σ'.2.2.2.2.2.2) (cl_A c0 σ0.2.2.2.1 s.heap.size)) (F0 m 92 ls [])) y := by
    clear hy G ha hl
    intro T H locs ls cells slots G ha hl
    obtain ⟨x4, σ⟩ := y
    dsimp only at h G ha hl
    unfold ec_X0_showNumber_56 at h
    exact cl_vret ⟨rfl, rfl⟩ rfl C G h dX0_showNumber_92
  refine lp_recE (fun z : (Int64 × cl_S) => ∀ (T : Nat → Nat × Nat) (H : Heap) (locs : List Loc) (ls : Array Slot) (cells slots : Nat), cl_G true D c0 ({ frames := 1, cells := σ0.2.2.2.2.2.1, slots := σ0.2.2.2.2.2.2, locals := 21 }) s σ0.2.2.2.1 T z.2 H locs cells slots → (T a).1 = 16 → lv_has ls 7 [(0, .ref (c0 + a)), (2, .long x2), (4, .long (z.1))] → W p l e ({ frames := 1, cells := σ0.2.2.2.2.2.1, slots := σ0.2.2.2.2.2.2, locals := 21 }) s m args below meth c H locs cells slots (MQ below (cl_Q true D c0 none cl_no σ0 σ') args s (σ0.2.2.2.2.2.1 - σ'.2.2.2.2.2.1) (σ0.2.2.2.2.2.2 - σ'.2.2.2.2.2.2) (cl_A c0 σ0.2.2.2.1 s.heap.size)) (F0 m 56 ls [])) (fun z : (Int64 × cl_S) => ∀ (T : Nat → Nat × Nat) (H : Heap) (locs : List Loc) (ls : Array Slot) (cells slots : Nat), cl_G true D c0 ({ frames := 1, cells := σ0.2.2.2.2.2.1, slots := σ0.2.2.2.2.2.2, locals := 21 }) s σ0.2.2.2.1 T z.2 H locs cells slots → (T a).1 = 16 → lv_has ls 7 [(0, .ref (c0 + a)), (2, .long x2), (4, .long (z.1))] → W p l e ({ frames := 1, cells := σ0.2.2.2.2.2.1, slots := σ0.2.2.2.2.2.2, locals := 21 }) s m args below meth c H locs cells slots (MQ below (cl_Q true D c0 none cl_no σ0 σ') args s (σ0.2.2.2.2.2.1 - σ'.2.2.2.2.2.1) (σ0.2.2.2.2.2.2 - σ'.2.2.2.2.2.2) (cl_A c0 σ0.2.2.2.1 s.heap.size)) (F0 m 92 ls [])) ?_ _ _ hy hE _ _ _ _ _ _ G ha hl
  clear hE hy G ha hl h
  intro z o h hP T H locs ls cells slots G ha hl
  obtain ⟨x4, σ⟩ := z
  dsimp only at h G ha hl
  unfold lc_X0_showNumber_56 at h
  refine lv_lload C.1 C.2.1 dX0_showNumber_56 (lv_at hl 2 rfl) ?_
  refine lv_lconst (v := (0:Int64)) C.1 C.2.1 dX0_showNumber_58 (by decide) ?_
  refine W.lcmp C.1 C.2.1 dX0_showNumber_59 ?_
  refine lv_if_le (tgt := 92) C.1 C.2.1 dX0_showNumber_60 (by decide) (fun hc => ?_) (fun hc => ?_)
  · rw [if_pos hc] at h
    cases h
    exact hP _ _ _ _ _ _ G ha (lv_sub hl [0, 1, 2] rfl)
  · rw [if_neg hc] at h
    refine lv_aload_n C.1 C.2.1 dX0_showNumber_63 rfl (lv_at hl 0 rfl) ?_
    refine lv_ldc2 (v := (48:Int64)) C.1 C.2.1 C.2.2.2.1 (C.2.2.2.2.1 _ kc_RX0_238) dX0_showNumber_64 ?_
    refine lv_lload_n C.1 C.2.1 dX0_showNumber_67 rfl (lv_at hl 1 rfl) ?_
    refine lv_lload C.1 C.2.1 dX0_showNumber_68 (lv_at hl 2 rfl) ?_
    obtain ⟨hne, h_12⟩ := nzL_some h
    refine lv_ldiv C.1 C.2.1 dX0_showNumber_70 hne ?_
    refine lv_ldc2 (v := (10:Int64)) C.1 C.2.1 C.2.2.2.1 (C.2.2.2.2.1 _ kc_RX0_236) dX0_showNumber_71 ?_
    refine lv_lrem C.1 C.2.1 dX0_showNumber_74 (by decide) ?_
    refine lv_ladd C.1 C.2.1 dX0_showNumber_75 ?_
    refine lv_l2i C.1 C.2.1 dX0_showNumber_76 rfl ?_
    refine lv_i2c C.1 C.2.1 dX0_showNumber_77 rfl ?_
    obtain ⟨σ_13, hq, h_14⟩ := bd1_some h_12
    refine cl_callV (ci := 0) (rest := []) C G rfl ha cw_RX0_230 [.int (((((48:Int64) + ((x2 / x4) - (x2 / x4) / (10:Int64) * (10:Int64))).toInt32).toUInt32 % 65536).toInt32)] _ (kc_X0_showOctet l D c0 (by rw [G.1]; exact ha) hq) (Nat.le_of_ble_eq_true rfl) (Nat.le_of_ble_eq_true rfl) rfl rfl hl.1 (Nat.le_of_ble_eq_true rfl) dX0_showNumber_78 (fun T_15 H locs cells slots t_16 hu G_17 => ?_)
    have ha := hu.kind ha (by decide)
    refine W.eq (g2 := F0 m 81 ls []) rfl ?_
    refine lv_lload C.1 C.2.1 dX0_showNumber_81 (lv_at hl 2 rfl) ?_
    refine lv_ldc2 (v := (10:Int64)) C.1 C.2.1 C.2.2.2.1 (C.2.2.2.2.1 _ kc_RX0_236) dX0_showNumber_83 ?_
    refine lv_ldiv C.1 C.2.1 dX0_showNumber_86 (by decide) ?_
    refine vt_l h_14 (fun x4_18 h_19 => ?_)
    refine lv_lstore (lv' := [(4, .long x4_18), (0, .ref (c0 + a)), (2, .long x2)]) C.1 C.2.1 dX0_showNumber_87 hl (by decide) rfl (fun ls hl_20 => ?_)
    refine lv_goto (tgt := 56) C.1 C.2.1 dX0_showNumber_89 (by decide) ?_
    cases h_19
    exact hP _ _ _ _ _ _ G_17 ha (lv_sub hl_20 [1, 2, 0] rfl)
noncomputable def ec_X0_showNumber_24 (a : Nat) (x2 : Int64) (x4 : Int64) (x6 : Int32) (σ : cl_S) : Option (cl_S) := bc_X0_showNumber_56 a x2 x4 σ
noncomputable def bc_X0_showNumber_24 (a : Nat) (x2 : Int64) (x4 : Int64) (x6 : Int32) (σ : cl_S) : Option (cl_S) := (lp (fun z : (Int64 × Int32 × cl_S) => lc_X0_showNumber_24 a x2 z.1 z.2.1 z.2.2) (x4, x6, σ)).bind (fun z => ec_X0_showNumber_24 a x2 z.1 z.2.1 z.2.2)
set_option maxHeartbeats 4000000 in
theorem wc_X0_showNumber_24 (C : cl_C D p s m args meth c cX0_showNumber 7 none RX0) {a : Nat} {x2 : Int64} {x4 : Int64} {x6 : Int32} {σ0 σ σ' : cl_S} {T : Nat → Nat × Nat} {H : Heap} {locs : List Loc} {ls : Array Slot} {cells slots : Nat} (h : bc_X0_showNumber_24 a x2 x4 x6 σ = some σ') (G : cl_G true D c0 ({ frames := 1, cells := σ0.2.2.2.2.2.1, slots := σ0.2.2.2.2.2.2, locals := 21 }) s σ0.2.2.2.1 T σ H locs cells slots) (ha : (T a).1 = 16) (hl : lv_has ls 7 [(0, .ref (c0 + a)), (2, .long x2), (4, .long x4), (6, .int x6)]) : W p l e ({ frames := 1, cells := σ0.2.2.2.2.2.1, slots := σ0.2.2.2.2.2.2, locals := 21 }) s m args below meth c H locs cells slots (MQ below (cl_Q true D c0 none cl_no σ0 σ') args s (σ0.2.2.2.2.2.1 - σ'.2.2.2.2.2.1) (σ0.2.2.2.2.2.2 - σ'.2.2.2.2.2.2) (cl_A c0 σ0.2.2.2.1 s.heap.size)) (F0 m 24 ls []) := by
  unfold bc_X0_showNumber_24 at h
  obtain ⟨y, hy, h⟩ := bd_some h
  have hE : (fun z : (Int64 × Int32 × cl_S) => ∀ (T : Nat → Nat × Nat) (H : Heap) (locs : List Loc) (ls : Array Slot) (cells slots : Nat), cl_G true D c0 ({ frames := 1, cells := σ0.2.2.2.2.2.1, slots := σ0.2.2.2.2.2.2, locals := 21 }) s σ0.2.2.2.1 T z.2.2 H locs cells slots → (T a).1 = 16 → lv_has ls 7 [(0, .ref (c0 + a)), (2, .long x2), (4, .long (z.1)), (6, .int (z.2.1))] → W p l e ({ frames := 1, cells := σ0.2.2.2.2.2.1, slots := σ0.2.2.2.2.2.2, locals := 21 }) s m args below meth c H locs cells slots (MQ below (cl_Q true D c0 none cl_no σ0 σ') args s (σ0.2.2.2.2.2.1 - σ'.2.2.2.2.2.1) (σ0.2.2.2.2.2.2 - σ'.2.2.2.2.2.2) (cl_A c0 σ0.2.2.2.1 s.heap.size)) (F0 m 56 ls [])) y := by
    clear hy G ha hl
    intro T H locs ls cells slots G ha hl
    obtain ⟨x4, x6, σ⟩ := y
    dsimp only at h G ha hl
    unfold ec_X0_showNumber_24 at h
    exact wc_X0_showNumber_56 C h G ha (lv_sub hl [0, 1, 2] rfl)
  refine lp_recE (fun z : (Int64 × Int32 × cl_S) => ∀ (T : Nat → Nat × Nat) (H : Heap) (locs : List Loc) (ls : Array Slot) (cells slots : Nat), cl_G true D c0 ({ frames := 1, cells := σ0.2.2.2.2.2.1, slots := σ0.2.2.2.2.2.2, locals := 21 }) s σ0.2.2.2.1 T z.2.2 H locs cells slots → (T a).1 = 16 → lv_has ls 7 [(0, .ref (c0 + a)), (2, .long x2), (4, .long (z.1)), (6, .int (z.2.1))] → W p l e ({ frames := 1, cells := σ0.2.2.2.2.2.1, slots := σ0.2.2.2.2.2.2, locals := 21 }) s m args below meth c H locs cells slots (MQ below (cl_Q true D c0 none cl_no σ0 σ') args s (σ0.2.2.2.2.2.1 - σ'.2.2.2.2.2.1) (σ0.2.2.2.2.2.2 - σ'.2.2.2.2.2.2) (cl_A c0 σ0.2.2.2.1 s.heap.size)) (F0 m 24 ls [])) (fun z : (Int64 × Int32 × cl_S) => ∀ (T : Nat → Nat × Nat) (H : Heap) (locs : List Loc) (ls : Array Slot) (cells slots : Nat), cl_G true D c0 ({ frames := 1, cells := σ0.2.2.2.2.2.1, slots := σ0.2.2.2.2.2.2, locals := 21 }) s σ0.2.2.2.1 T z.2.2 H locs cells slots → (T a).1 = 16 → lv_has ls 7 [(0, .ref (c0 + a)), (2, .long x2), (4, .long (z.1)), (6, .int (z.2.1))] → W p l e ({ frames := 1, cells := σ0.2.2.2.2.2.1, slots := σ0.2.2.2.2.2.2, locals := 21 }) s m args below meth c H locs cells slots (MQ below (cl_Q true D c0 none cl_no σ0 σ') args s (σ0.2.2.2.2.2.1 - σ'.2.2.2.2.2.1) (σ0.2.2.2.2.2.2 - σ'.2.2.2.2.2.2) (cl_A c0 σ0.2.2.2.1 s.heap.size)) (F0 m 56 ls [])) ?_ _ _ hy hE _ _ _ _ _ _ G ha hl
  clear hE hy G ha hl h
  intro z o h hP T H locs ls cells slots G ha hl
  obtain ⟨x4, x6, σ⟩ := z
  dsimp only at h G ha hl
  unfold lc_X0_showNumber_24 at h
  refine lv_iload C.1 C.2.1 dX0_showNumber_24 (lv_at hl 3 rfl) ?_
  refine lv_bipush (v := (10:Int32)) C.1 C.2.1 dX0_showNumber_26 (by decide) ?_
  refine lv_icmp_ge (tgt := 56) C.1 C.2.1 dX0_showNumber_28 (by decide) (fun hc => ?_) (fun hc => ?_)
  · rw [if_pos hc] at h
    cases h
    exact hP _ _ _ _ _ _ G ha (lv_sub hl [0, 1, 2, 3] rfl)
  · rw [if_neg hc] at h
    refine lv_lload C.1 C.2.1 dX0_showNumber_31 (lv_at hl 2 rfl) ?_
    refine lv_ldc2 (v := (10:Int64)) C.1 C.2.1 C.2.2.2.1 (C.2.2.2.2.1 _ kc_RX0_236) dX0_showNumber_33 ?_
    refine lv_lmul C.1 C.2.1 dX0_showNumber_36 ?_
    refine lv_lload_n C.1 C.2.1 dX0_showNumber_37 rfl (lv_at hl 1 rfl) ?_
    refine W.lcmp C.1 C.2.1 dX0_showNumber_38 ?_
    refine lv_if_gt (tgt := 56) C.1 C.2.1 dX0_showNumber_39 (by decide) (fun hc => ?_) (fun hc => ?_)
    · rw [if_pos hc] at h
      cases h
      exact hP _ _ _ _ _ _ G ha (lv_sub hl [0, 1, 2, 3] rfl)
    · rw [if_neg hc] at h
      refine lv_lload C.1 C.2.1 dX0_showNumber_42 (lv_at hl 2 rfl) ?_
      refine lv_ldc2 (v := (10:Int64)) C.1 C.2.1 C.2.2.2.1 (C.2.2.2.2.1 _ kc_RX0_236) dX0_showNumber_44 ?_
      refine lv_lmul C.1 C.2.1 dX0_showNumber_47 ?_
      refine vt_l h (fun x4_6 h_7 => ?_)
      refine lv_lstore (lv' := [(4, .long x4_6), (0, .ref (c0 + a)), (2, .long x2), (6, .int x6)]) C.1 C.2.1 dX0_showNumber_48 hl (by decide) rfl (fun ls hl_8 => ?_)
      refine vl_ex h_7 (fun x6_9 ey h_10 => ?_)
      refine lv_iinc (v := x6_9) (lv' := [(6, .int x6_9), (4, .long x4_6), (0, .ref (c0 + a)), (2, .long x2)]) C.1 C.2.1 dX0_showNumber_50 hl_8 (k := 3) rfl (by rw [ey]; rfl) (by decide) rfl (fun ls hl_11 => ?_)
      refine lv_goto (tgt := 24) C.1 C.2.1 dX0_showNumber_53 (by decide) ?_
      cases h_10
      exact hP _ _ _ _ _ _ G ha (lv_sub hl_11 [2, 3, 1, 0] rfl)
noncomputable def bc_X0_showNumber_18 (a : Nat) (x2 : Int64) (σ : cl_S) : Option (cl_S) := bc_X0_showNumber_24 a x2 (1:Int64) (0:Int32) σ
set_option maxHeartbeats 4000000 in
theorem wc_X0_showNumber_18 (C : cl_C D p s m args meth c cX0_showNumber 7 none RX0) {a : Nat} {x2 : Int64} {σ0 σ σ' : cl_S} {T : Nat → Nat × Nat} {H : Heap} {locs : List Loc} {ls : Array Slot} {cells slots : Nat} (h : bc_X0_showNumber_18 a x2 σ = some σ') (G : cl_G true D c0 ({ frames := 1, cells := σ0.2.2.2.2.2.1, slots := σ0.2.2.2.2.2.2, locals := 21 }) s σ0.2.2.2.1 T σ H locs cells slots) (ha : (T a).1 = 16) (hl : lv_has ls 7 [(0, .ref (c0 + a)), (2, .long x2)]) : W p l e ({ frames := 1, cells := σ0.2.2.2.2.2.1, slots := σ0.2.2.2.2.2.2, locals := 21 }) s m args below meth c H locs cells slots (MQ below (cl_Q true D c0 none cl_no σ0 σ') args s (σ0.2.2.2.2.2.1 - σ'.2.2.2.2.2.1) (σ0.2.2.2.2.2.2 - σ'.2.2.2.2.2.2) (cl_A c0 σ0.2.2.2.1 s.heap.size)) (F0 m 18 ls []) := by
  unfold bc_X0_showNumber_18 at h
  refine lv_lconst (v := (1:Int64)) C.1 C.2.1 dX0_showNumber_18 (by decide) ?_
  refine lv_lstore (lv' := [(4, .long (1:Int64)), (0, .ref (c0 + a)), (2, .long x2)]) C.1 C.2.1 dX0_showNumber_19 hl (by decide) rfl (fun ls hl_4 => ?_)
  refine lv_iconst (v := (0:Int32)) C.1 C.2.1 dX0_showNumber_21 (by decide) ?_
  refine lv_istore (lv' := [(6, .int (0:Int32)), (4, .long (1:Int64)), (0, .ref (c0 + a)), (2, .long x2)]) C.1 C.2.1 dX0_showNumber_22 hl_4 (by decide) rfl (fun ls hl_5 => ?_)
  exact wc_X0_showNumber_24 C h G ha (lv_sub hl_5 [2, 3, 1, 0] rfl)
noncomputable def bc_X0_showNumber_0 (a : Nat) (x1 : Int32) (σ : cl_S) : Option (cl_S) := vl (x1.toInt64) (fun x2_1 => (if 0 ≤ (lg_cmp x2_1 (0:Int64)) then bc_X0_showNumber_18 a x2_1 σ else bd1 (fc_X0_showOctet a (45:Int32) σ) (fun σ_21 => vl (-x2_1) (fun x2_26 => bc_X0_showNumber_18 a x2_26 σ_21))))
set_option maxHeartbeats 4000000 in
theorem wc_X0_showNumber_0 (C : cl_C D p s m args meth c cX0_showNumber 7 none RX0) {a : Nat} {x1 : Int32} {σ0 σ σ' : cl_S} {T : Nat → Nat × Nat} {H : Heap} {locs : List Loc} {ls : Array Slot} {cells slots : Nat} (h : bc_X0_showNumber_0 a x1 σ = some σ') (G : cl_G true D c0 ({ frames := 1, cells := σ0.2.2.2.2.2.1, slots := σ0.2.2.2.2.2.2, locals := 21 }) s σ0.2.2.2.1 T σ H locs cells slots) (ha : (T a).1 = 16) (hl : lv_has ls 7 [(0, .ref (c0 + a)), (1, .int x1)]) : W p l e ({ frames := 1, cells := σ0.2.2.2.2.2.1, slots := σ0.2.2.2.2.2.2, locals := 21 }) s m args below meth c H locs cells slots (MQ below (cl_Q true D c0 none cl_no σ0 σ') args s (σ0.2.2.2.2.2.1 - σ'.2.2.2.2.2.1) (σ0.2.2.2.2.2.2 - σ'.2.2.2.2.2.2) (cl_A c0 σ0.2.2.2.1 s.heap.size)) (F0 m 0 ls []) := by
  unfold bc_X0_showNumber_0 at h
  refine lv_iload_n C.1 C.2.1 dX0_showNumber_0 rfl (lv_at hl 1 rfl) ?_
  refine lv_i2l C.1 C.2.1 dX0_showNumber_1 rfl ?_
  refine vt_l h (fun x2_1 h_2 => ?_)
  refine lv_lstore_n (lv' := [(2, .long x2_1), (0, .ref (c0 + a)), (1, .int x1)]) C.1 C.2.1 dX0_showNumber_2 rfl hl (by decide) rfl (fun ls hl_3 => ?_)
  refine lv_lload_n C.1 C.2.1 dX0_showNumber_3 rfl (lv_at hl_3 0 rfl) ?_
  refine lv_lconst (v := (0:Int64)) C.1 C.2.1 dX0_showNumber_4 (by decide) ?_
  refine W.lcmp C.1 C.2.1 dX0_showNumber_5 ?_
  refine lv_if_ge (tgt := 18) C.1 C.2.1 dX0_showNumber_6 (by decide) (fun hc => ?_) (fun hc => ?_)
  · rw [if_pos hc] at h_2
    exact wc_X0_showNumber_18 C h_2 G ha (lv_sub hl_3 [1, 0] rfl)
  · rw [if_neg hc] at h_2
    refine lv_aload_n C.1 C.2.1 dX0_showNumber_9 rfl (lv_at hl_3 1 rfl) ?_
    refine lv_bipush (v := (45:Int32)) C.1 C.2.1 dX0_showNumber_10 (by decide) ?_
    obtain ⟨σ_21, hq, h_22⟩ := bd1_some h_2
    refine cl_callV (ci := 0) (rest := []) C G rfl ha cw_RX0_230 [.int (45:Int32)] _ (kc_X0_showOctet l D c0 (by rw [G.1]; exact ha) hq) (Nat.le_of_ble_eq_true rfl) (Nat.le_of_ble_eq_true rfl) rfl rfl hl_3.1 (Nat.le_of_ble_eq_true rfl) dX0_showNumber_12 (fun T_23 H locs cells slots t_24 hu G_25 => ?_)
    have ha := hu.kind ha (by decide)
    refine W.eq (g2 := F0 m 15 ls []) rfl ?_
    refine lv_lload_n C.1 C.2.1 dX0_showNumber_15 rfl (lv_at hl_3 0 rfl) ?_
    refine lv_lneg C.1 C.2.1 dX0_showNumber_16 ?_
    refine vt_l h_22 (fun x2_26 h_27 => ?_)
    refine lv_lstore_n (lv' := [(2, .long x2_26), (0, .ref (c0 + a)), (1, .int x1)]) C.1 C.2.1 dX0_showNumber_17 rfl hl_3 (by decide) rfl (fun ls hl_28 => ?_)
    exact wc_X0_showNumber_18 C h_27 G_25 ha (lv_sub hl_28 [1, 0] rfl)
noncomputable def fc_X0_showNumber (a : Nat) (x1 : Int32) (σ : cl_S) : Option (cl_S) := bc_X0_showNumber_0 a x1 σ
theorem kc_X0_showNumber (l : Launch) (D : cl_D) (c0 : Nat) {a : Nat} {x1 : Int32} {σ σ' : cl_S} (ha : (σ.2.2.2.1 a).1 = 16) (h : fc_X0_showNumber a x1 σ = some σ') : cl_Met true l D c0 yX0_showNumber cX0_showNumber 7 none 1 21 [.ref (c0 + a), .int x1] σ none cl_no σ' :=
  cl_of (by decide) (Nat.le_of_ble_eq_true rfl) (fun p e s m args below meth c ls C hn G hl => wc_X0_showNumber_0 C h G ha hl)
abbrev cX0_showRegister : ByteArray := prog_2_method_31_code
def yX0_showRegister : MethodName := ⟨RX0, "showRegister", "(Ljava/lang/String;I)V"⟩
theorem dX0_showRegister_0 : decode cX0_showRegister 0 = .ok (.aload_n 0, 1) := by decide +kernel
theorem dX0_showRegister_1 : decode cX0_showRegister 1 = .ok (.aload_n 1, 1) := by decide +kernel
theorem dX0_showRegister_2 : decode cX0_showRegister 2 = .ok (.invokevirtual 208, 3) := by decide +kernel
theorem dX0_showRegister_5 : decode cX0_showRegister 5 = .ok (.aload_n 0, 1) := by decide +kernel
theorem dX0_showRegister_6 : decode cX0_showRegister 6 = .ok (.iload_n 2, 1) := by decide +kernel
theorem dX0_showRegister_7 : decode cX0_showRegister 7 = .ok (.invokevirtual 212, 3) := by decide +kernel
theorem dX0_showRegister_10 : decode cX0_showRegister 10 = .ok (.return_, 1) := by decide +kernel
theorem cc_X0_showRegister : Cond.code yX0_showRegister cX0_showRegister 3 none ∈ rf_tb := rf_at 947 (by decide +kernel) (by decide +kernel)
theorem cw_RX0_208 : cl_wV RX0 RX0 yX0_showText cX0_showText 3 none 208 1 := ⟨⟨rf_at 925 (by decide +kernel) (by decide +kernel), rf_at 927 (by decide +kernel) (by decide +kernel), rf_sel (q := (yX0_showText, 16)) 23 (by decide +kernel) (by decide +kernel), cc_X0_showText, rf_at 3 (by decide +kernel) (by decide +kernel)⟩, ⟨by decide, by decide, by decide +kernel⟩⟩
theorem cw_RX0_212 : cl_wV RX0 RX0 yX0_showNumber cX0_showNumber 7 none 212 1 := ⟨⟨rf_at 937 (by decide +kernel) (by decide +kernel), rf_at 939 (by decide +kernel) (by decide +kernel), rf_sel (q := (yX0_showNumber, 16)) 24 (by decide +kernel) (by decide +kernel), cc_X0_showNumber, rf_at 3 (by decide +kernel) (by decide +kernel)⟩, ⟨by decide, by decide, by decide +kernel⟩⟩
noncomputable def bc_X0_showRegister_0 (a : Nat) (x1 : (List Int32)) (x2 : Int32) (σ : cl_S) : Option (cl_S) := bd1 (fc_X0_showText a x1 σ) (fun σ_1 => bd1 (fc_X0_showNumber a x2 σ_1) (fun σ_6 => some σ_6))
set_option maxHeartbeats 4000000 in
theorem wc_X0_showRegister_0 (C : cl_C D p s m args meth c cX0_showRegister 3 none RX0) {a : Nat} {x1 : (List Int32)} {x2 : Int32} {σ0 σ σ' : cl_S} {T : Nat → Nat × Nat} {H : Heap} {locs : List Loc} {ls : Array Slot} {cells slots : Nat} (h : bc_X0_showRegister_0 a x1 x2 σ = some σ') (G : cl_G true D c0 ({ frames := 5, cells := σ0.2.2.2.2.2.1, slots := σ0.2.2.2.2.2.2, locals := 107 }) s σ0.2.2.2.1 T σ H locs cells slots) (ha : (T a).1 = 16) (hl : lv_has ls 3 [(0, .ref (c0 + a)), (1, .ref (D.2.2.2.2.2 x1)), (2, .int x2)]) : W p l e ({ frames := 5, cells := σ0.2.2.2.2.2.1, slots := σ0.2.2.2.2.2.2, locals := 107 }) s m args below meth c H locs cells slots (MQ below (cl_Q true D c0 none cl_no σ0 σ') args s (σ0.2.2.2.2.2.1 - σ'.2.2.2.2.2.1) (σ0.2.2.2.2.2.2 - σ'.2.2.2.2.2.2) (cl_A c0 σ0.2.2.2.1 s.heap.size)) (F0 m 0 ls []) := by
  unfold bc_X0_showRegister_0 at h
  refine lv_aload_n C.1 C.2.1 dX0_showRegister_0 rfl (lv_at hl 0 rfl) ?_
  refine lv_aload_n C.1 C.2.1 dX0_showRegister_1 rfl (lv_at hl 1 rfl) ?_
  obtain ⟨σ_1, hq, h_2⟩ := bd1_some h
  refine cl_callV (ci := 0) (rest := []) C G rfl ha cw_RX0_208 [.ref (D.2.2.2.2.2 x1)] _ (kc_X0_showText l D c0 (by rw [G.1]; exact ha) hq) (Nat.le_of_ble_eq_true rfl) (Nat.le_of_ble_eq_true rfl) rfl rfl hl.1 (Nat.le_of_ble_eq_true rfl) dX0_showRegister_2 (fun T_3 H locs cells slots t_4 hu G_5 => ?_)
  have ha := hu.kind ha (by decide)
  refine W.eq (g2 := F0 m 5 ls []) rfl ?_
  refine lv_aload_n C.1 C.2.1 dX0_showRegister_5 rfl (lv_at hl 0 rfl) ?_
  refine lv_iload_n C.1 C.2.1 dX0_showRegister_6 rfl (lv_at hl 2 rfl) ?_
  obtain ⟨σ_6, hq, h_7⟩ := bd1_some h_2
  refine cl_callV (ci := 0) (rest := []) C G_5 rfl ha cw_RX0_212 [.int x2] _ (kc_X0_showNumber l D c0 (by rw [G_5.1]; exact ha) hq) (Nat.le_of_ble_eq_true rfl) (Nat.le_of_ble_eq_true rfl) rfl rfl hl.1 (Nat.le_of_ble_eq_true rfl) dX0_showRegister_7 (fun T_8 H locs cells slots t_9 hu G_10 => ?_)
  have ha := hu.kind ha (by decide)
  refine W.eq (g2 := F0 m 10 ls []) rfl ?_
  exact cl_vret ⟨rfl, rfl⟩ rfl C G_10 h_7 dX0_showRegister_10
noncomputable def fc_X0_showRegister (a : Nat) (x1 : (List Int32)) (x2 : Int32) (σ : cl_S) : Option (cl_S) := bc_X0_showRegister_0 a x1 x2 σ
theorem kc_X0_showRegister (l : Launch) (D : cl_D) (c0 : Nat) {a : Nat} {x1 : (List Int32)} {x2 : Int32} {σ σ' : cl_S} (ha : (σ.2.2.2.1 a).1 = 16) (h : fc_X0_showRegister a x1 x2 σ = some σ') : cl_Met true l D c0 yX0_showRegister cX0_showRegister 3 none 5 107 [.ref (c0 + a), .ref (D.2.2.2.2.2 x1), .int x2] σ none cl_no σ' :=
  cl_of (by decide) (Nat.le_of_ble_eq_true rfl) (fun p e s m args below meth c ls C hn G hl => wc_X0_showRegister_0 C h G ha hl)
abbrev cX0_describe : ByteArray := prog_2_method_28_code
def yX0_describe : MethodName := ⟨RX0, "describe", "(I)I"⟩
theorem dX0_describe_0 : decode cX0_describe 0 = .ok (.aload_n 0, 1) := by decide +kernel
theorem dX0_describe_1 : decode cX0_describe 1 = .ok (.iconst 0, 1) := by decide +kernel
theorem dX0_describe_2 : decode cX0_describe 2 = .ok (.putfield 196, 3) := by decide +kernel
theorem dX0_describe_5 : decode cX0_describe 5 = .ok (.iload_n 1, 1) := by decide +kernel
theorem dX0_describe_6 : decode cX0_describe 6 = .ok (.bipush 26, 2) := by decide +kernel
theorem dX0_describe_8 : decode cX0_describe 8 = .ok (.iushr, 1) := by decide +kernel
theorem dX0_describe_9 : decode cX0_describe 9 = .ok (.istore_n 2, 1) := by decide +kernel
theorem dX0_describe_10 : decode cX0_describe 10 = .ok (.iload_n 2, 1) := by decide +kernel
theorem dX0_describe_11 : decode cX0_describe 11 = .ok (.iload_n 1, 1) := by decide +kernel
theorem dX0_describe_12 : decode cX0_describe 12 = .ok (.invokestatic 199, 3) := by decide +kernel
theorem dX0_describe_15 : decode cX0_describe 15 = .ok (.ifCond .ne 25, 3) := by decide +kernel
theorem dX0_describe_18 : decode cX0_describe 18 = .ok (.aload_n 0, 1) := by decide +kernel
theorem dX0_describe_19 : decode cX0_describe 19 = .ok (.bipush 40, 2) := by decide +kernel
theorem dX0_describe_21 : decode cX0_describe 21 = .ok (.invokevirtual 203, 3) := by decide +kernel
theorem dX0_describe_24 : decode cX0_describe 24 = .ok (.aload_n 0, 1) := by decide +kernel
theorem dX0_describe_25 : decode cX0_describe 25 = .ok (.ldc 206, 2) := by decide +kernel
theorem dX0_describe_27 : decode cX0_describe 27 = .ok (.invokevirtual 208, 3) := by decide +kernel
theorem dX0_describe_30 : decode cX0_describe 30 = .ok (.aload_n 0, 1) := by decide +kernel
theorem dX0_describe_31 : decode cX0_describe 31 = .ok (.iload_n 1, 1) := by decide +kernel
theorem dX0_describe_32 : decode cX0_describe 32 = .ok (.invokevirtual 212, 3) := by decide +kernel
theorem dX0_describe_35 : decode cX0_describe 35 = .ok (.aload_n 0, 1) := by decide +kernel
theorem dX0_describe_36 : decode cX0_describe 36 = .ok (.getfield 196, 3) := by decide +kernel
theorem dX0_describe_39 : decode cX0_describe 39 = .ok (.ireturn, 1) := by decide +kernel
theorem dX0_describe_40 : decode cX0_describe 40 = .ok (.aload_n 0, 1) := by decide +kernel
theorem dX0_describe_41 : decode cX0_describe 41 = .ok (.iload_n 2, 1) := by decide +kernel
theorem dX0_describe_42 : decode cX0_describe 42 = .ok (.invokevirtual 203, 3) := by decide +kernel
theorem dX0_describe_45 : decode cX0_describe 45 = .ok (.iload_n 2, 1) := by decide +kernel
theorem dX0_describe_46 : decode cX0_describe 46 = .ok (.invokestatic 143, 3) := by decide +kernel
theorem dX0_describe_49 : decode cX0_describe 49 = .ok (.ifCond .eq 16, 3) := by decide +kernel
theorem dX0_describe_52 : decode cX0_describe 52 = .ok (.aload_n 0, 1) := by decide +kernel
theorem dX0_describe_53 : decode cX0_describe 53 = .ok (.ldc 215, 2) := by decide +kernel
theorem dX0_describe_55 : decode cX0_describe 55 = .ok (.iload_n 1, 1) := by decide +kernel
theorem dX0_describe_56 : decode cX0_describe 56 = .ok (.bipush 22, 2) := by decide +kernel
theorem dX0_describe_58 : decode cX0_describe 58 = .ok (.iushr, 1) := by decide +kernel
theorem dX0_describe_59 : decode cX0_describe 59 = .ok (.bipush 15, 2) := by decide +kernel
theorem dX0_describe_61 : decode cX0_describe 61 = .ok (.iand, 1) := by decide +kernel
theorem dX0_describe_62 : decode cX0_describe 62 = .ok (.invokevirtual 217, 3) := by decide +kernel
theorem dX0_describe_65 : decode cX0_describe 65 = .ok (.iload_n 2, 1) := by decide +kernel
theorem dX0_describe_66 : decode cX0_describe 66 = .ok (.invokestatic 150, 3) := by decide +kernel
theorem dX0_describe_69 : decode cX0_describe 69 = .ok (.ifCond .eq 16, 3) := by decide +kernel
theorem dX0_describe_72 : decode cX0_describe 72 = .ok (.aload_n 0, 1) := by decide +kernel
theorem dX0_describe_73 : decode cX0_describe 73 = .ok (.ldc 221, 2) := by decide +kernel
theorem dX0_describe_75 : decode cX0_describe 75 = .ok (.iload_n 1, 1) := by decide +kernel
theorem dX0_describe_76 : decode cX0_describe 76 = .ok (.bipush 18, 2) := by decide +kernel
theorem dX0_describe_78 : decode cX0_describe 78 = .ok (.iushr, 1) := by decide +kernel
theorem dX0_describe_79 : decode cX0_describe 79 = .ok (.bipush 15, 2) := by decide +kernel
theorem dX0_describe_81 : decode cX0_describe 81 = .ok (.iand, 1) := by decide +kernel
theorem dX0_describe_82 : decode cX0_describe 82 = .ok (.invokevirtual 217, 3) := by decide +kernel
theorem dX0_describe_85 : decode cX0_describe 85 = .ok (.iload_n 2, 1) := by decide +kernel
theorem dX0_describe_86 : decode cX0_describe 86 = .ok (.invokestatic 156, 3) := by decide +kernel
theorem dX0_describe_89 : decode cX0_describe 89 = .ok (.ifCond .eq 16, 3) := by decide +kernel
theorem dX0_describe_92 : decode cX0_describe 92 = .ok (.aload_n 0, 1) := by decide +kernel
theorem dX0_describe_93 : decode cX0_describe 93 = .ok (.ldc 221, 2) := by decide +kernel
theorem dX0_describe_95 : decode cX0_describe 95 = .ok (.iload_n 1, 1) := by decide +kernel
theorem dX0_describe_96 : decode cX0_describe 96 = .ok (.bipush 14, 2) := by decide +kernel
theorem dX0_describe_98 : decode cX0_describe 98 = .ok (.iushr, 1) := by decide +kernel
theorem dX0_describe_99 : decode cX0_describe 99 = .ok (.bipush 15, 2) := by decide +kernel
theorem dX0_describe_101 : decode cX0_describe 101 = .ok (.iand, 1) := by decide +kernel
theorem dX0_describe_102 : decode cX0_describe 102 = .ok (.invokevirtual 217, 3) := by decide +kernel
theorem dX0_describe_105 : decode cX0_describe 105 = .ok (.iload_n 2, 1) := by decide +kernel
theorem dX0_describe_106 : decode cX0_describe 106 = .ok (.invokestatic 159, 3) := by decide +kernel
theorem dX0_describe_109 : decode cX0_describe 109 = .ok (.ifCond .eq 45, 3) := by decide +kernel
theorem dX0_describe_112 : decode cX0_describe 112 = .ok (.aload_n 0, 1) := by decide +kernel
theorem dX0_describe_113 : decode cX0_describe 113 = .ok (.iload_n 2, 1) := by decide +kernel
theorem dX0_describe_114 : decode cX0_describe 114 = .ok (.invokestatic 143, 3) := by decide +kernel
theorem dX0_describe_117 : decode cX0_describe 117 = .ok (.ifCond .eq 8, 3) := by decide +kernel
theorem dX0_describe_120 : decode cX0_describe 120 = .ok (.ldc 223, 2) := by decide +kernel
theorem dX0_describe_122 : decode cX0_describe 122 = .ok (.goto 5, 3) := by decide +kernel
theorem dX0_describe_125 : decode cX0_describe 125 = .ok (.ldc 206, 2) := by decide +kernel
theorem dX0_describe_127 : decode cX0_describe 127 = .ok (.invokevirtual 208, 3) := by decide +kernel
theorem dX0_describe_130 : decode cX0_describe 130 = .ok (.aload_n 0, 1) := by decide +kernel
theorem dX0_describe_131 : decode cX0_describe 131 = .ok (.iload_n 2, 1) := by decide +kernel
theorem dX0_describe_132 : decode cX0_describe 132 = .ok (.bipush 21, 2) := by decide +kernel
theorem dX0_describe_134 : decode cX0_describe 134 = .ok (.if_icmp .ne 10, 3) := by decide +kernel
theorem dX0_describe_137 : decode cX0_describe 137 = .ok (.iload_n 1, 1) := by decide +kernel
theorem dX0_describe_138 : decode cX0_describe 138 = .ok (.ldc 162, 2) := by decide +kernel
theorem dX0_describe_140 : decode cX0_describe 140 = .ok (.iand, 1) := by decide +kernel
theorem dX0_describe_141 : decode cX0_describe 141 = .ok (.goto 10, 3) := by decide +kernel
theorem dX0_describe_144 : decode cX0_describe 144 = .ok (.iload_n 1, 1) := by decide +kernel
theorem dX0_describe_145 : decode cX0_describe 145 = .ok (.bipush 14, 2) := by decide +kernel
theorem dX0_describe_147 : decode cX0_describe 147 = .ok (.ishl, 1) := by decide +kernel
theorem dX0_describe_148 : decode cX0_describe 148 = .ok (.bipush 14, 2) := by decide +kernel
theorem dX0_describe_150 : decode cX0_describe 150 = .ok (.ishr, 1) := by decide +kernel
theorem dX0_describe_151 : decode cX0_describe 151 = .ok (.invokevirtual 212, 3) := by decide +kernel
theorem dX0_describe_154 : decode cX0_describe 154 = .ok (.aload_n 0, 1) := by decide +kernel
theorem dX0_describe_155 : decode cX0_describe 155 = .ok (.getfield 196, 3) := by decide +kernel
theorem dX0_describe_158 : decode cX0_describe 158 = .ok (.ireturn, 1) := by decide +kernel
theorem cc_X0_describe : Cond.code yX0_describe cX0_describe 3 (some .int) ∈ rf_tb := rf_at 907 (by decide +kernel) (by decide +kernel)
theorem cw_RX0_199 : cl_wS RX0 yX0_isMadeBy cX0_isMadeBy 3 (some .boolean) 199 2 := ⟨⟨rf_at 908 (by decide +kernel) (by decide +kernel), rf_at 909 (by decide +kernel) (by decide +kernel), cc_X0_isMadeBy, rf_at 3 (by decide +kernel) (by decide +kernel)⟩, ⟨by decide, by decide, by decide +kernel⟩⟩
theorem cw_RX0_203 : cl_wV RX0 RX0 yX0_showName cX0_showName 3 none 203 1 := ⟨⟨rf_at 916 (by decide +kernel) (by decide +kernel), rf_at 918 (by decide +kernel) (by decide +kernel), rf_sel (q := (yX0_showName, 16)) 21 (by decide +kernel) (by decide +kernel), cc_X0_showName, rf_at 3 (by decide +kernel) (by decide +kernel)⟩, ⟨by decide, by decide, by decide +kernel⟩⟩
theorem cw_RX0_217 : cl_wV RX0 RX0 yX0_showRegister cX0_showRegister 3 none 217 2 := ⟨⟨rf_at 944 (by decide +kernel) (by decide +kernel), rf_at 946 (by decide +kernel) (by decide +kernel), rf_sel (q := (yX0_showRegister, 16)) 25 (by decide +kernel) (by decide +kernel), cc_X0_showRegister, rf_at 3 (by decide +kernel) (by decide +kernel)⟩, ⟨by decide, by decide, by decide +kernel⟩⟩
noncomputable def bc_X0_describe_151 (a : Nat) (v0 : (Option Nat)) (v1 : Int32) (σ : cl_S) : Option (Int32 × cl_S) := nn v0 (fun a_57 => bd1 (fc_X0_showNumber a_57 v1 σ) (fun σ_60 => some ((σ_60.1 a 15), σ_60)))
set_option maxHeartbeats 4000000 in
theorem wc_X0_describe_151 (C : cl_C D p s m args meth c cX0_describe 3 (some .int) RX0) {r : Int32} {a : Nat} {v0 : (Option Nat)} {v1 : Int32} {σ0 σ σ' : cl_S} {T : Nat → Nat × Nat} {H : Heap} {locs : List Loc} {ls : Array Slot} {cells slots : Nat} (h : bc_X0_describe_151 a v0 v1 σ = some (r, σ')) (G : cl_G true D c0 ({ frames := 6, cells := σ0.2.2.2.2.2.1, slots := σ0.2.2.2.2.2.2, locals := 129 }) s σ0.2.2.2.1 T σ H locs cells slots) (ha : (T a).1 = 16) (g0 : cl_RT T v0 16) (hl : lv_has ls 3 [(0, .ref (c0 + a))]) : W p l e ({ frames := 6, cells := σ0.2.2.2.2.2.1, slots := σ0.2.2.2.2.2.2, locals := 129 }) s m args below meth c H locs cells slots (MQ below (cl_Q true D c0 (some (.int r)) cl_no σ0 σ') args s (σ0.2.2.2.2.2.1 - σ'.2.2.2.2.2.1) (σ0.2.2.2.2.2.2 - σ'.2.2.2.2.2.2) (cl_A c0 σ0.2.2.2.1 s.heap.size)) (F0 m 151 ls [.int v1, cl_rf c0 v0]) := by
  unfold bc_X0_describe_151 at h
  obtain ⟨a_57, rfl, h_59⟩ := nn_some h
  have t_58 := g0 _ rfl
  obtain ⟨σ_60, hq, h_61⟩ := bd1_some h_59
  refine cl_callV (ci := 0) (rest := []) C G rfl t_58 cw_RX0_212 [.int v1] _ (kc_X0_showNumber l D c0 (by rw [G.1]; exact t_58) hq) (Nat.le_of_ble_eq_true rfl) (Nat.le_of_ble_eq_true rfl) rfl rfl hl.1 (Nat.le_of_ble_eq_true rfl) dX0_describe_151 (fun T_62 H locs cells slots t_63 hu G_64 => ?_)
  have ha := hu.kind ha (by decide)
  refine W.eq (g2 := F0 m 154 ls []) rfl ?_
  refine lv_aload_n C.1 C.2.1 dX0_describe_154 rfl (lv_at hl 0 rfl) ?_
  refine cg_0_196 C G_64 ha dX0_describe_155 ?_
  exact cl_iret ⟨rfl, rfl⟩ rfl C G_64 h_61 dX0_describe_158
noncomputable def bc_X0_describe_127 (a : Nat) (x1 : Int32) (x2 : Int32) (v0 : (Option Nat)) (v1 : (List Int32)) (σ : cl_S) : Option (Int32 × cl_S) := nn v0 (fun a_49 => bd1 (fc_X0_showText a_49 v1 σ) (fun σ_52 => (if x2 = (21:Int32) then bc_X0_describe_151 a (some a) (x1 &&& (262143:Int32)) σ_52 else bc_X0_describe_151 a (some a) ((x1 <<< ((14:Int32) &&& 31)) >>> ((14:Int32) &&& 31)) σ_52)))
set_option maxHeartbeats 4000000 in
theorem wc_X0_describe_127 (C : cl_C D p s m args meth c cX0_describe 3 (some .int) RX0) {r : Int32} {a : Nat} {x1 : Int32} {x2 : Int32} {v0 : (Option Nat)} {v1 : (List Int32)} {σ0 σ σ' : cl_S} {T : Nat → Nat × Nat} {H : Heap} {locs : List Loc} {ls : Array Slot} {cells slots : Nat} (h : bc_X0_describe_127 a x1 x2 v0 v1 σ = some (r, σ')) (G : cl_G true D c0 ({ frames := 6, cells := σ0.2.2.2.2.2.1, slots := σ0.2.2.2.2.2.2, locals := 129 }) s σ0.2.2.2.1 T σ H locs cells slots) (ha : (T a).1 = 16) (g0 : cl_RT T v0 16) (hl : lv_has ls 3 [(0, .ref (c0 + a)), (1, .int x1), (2, .int x2)]) : W p l e ({ frames := 6, cells := σ0.2.2.2.2.2.1, slots := σ0.2.2.2.2.2.2, locals := 129 }) s m args below meth c H locs cells slots (MQ below (cl_Q true D c0 (some (.int r)) cl_no σ0 σ') args s (σ0.2.2.2.2.2.1 - σ'.2.2.2.2.2.1) (σ0.2.2.2.2.2.2 - σ'.2.2.2.2.2.2) (cl_A c0 σ0.2.2.2.1 s.heap.size)) (F0 m 127 ls [.ref (D.2.2.2.2.2 v1), cl_rf c0 v0]) := by
  unfold bc_X0_describe_127 at h
  obtain ⟨a_49, rfl, h_51⟩ := nn_some h
  have t_50 := g0 _ rfl
  obtain ⟨σ_52, hq, h_53⟩ := bd1_some h_51
  refine cl_callV (ci := 0) (rest := []) C G rfl t_50 cw_RX0_208 [.ref (D.2.2.2.2.2 v1)] _ (kc_X0_showText l D c0 (by rw [G.1]; exact t_50) hq) (Nat.le_of_ble_eq_true rfl) (Nat.le_of_ble_eq_true rfl) rfl rfl hl.1 (Nat.le_of_ble_eq_true rfl) dX0_describe_127 (fun T_54 H locs cells slots t_55 hu G_56 => ?_)
  have ha := hu.kind ha (by decide)
  refine W.eq (g2 := F0 m 130 ls []) rfl ?_
  refine lv_aload_n C.1 C.2.1 dX0_describe_130 rfl (lv_at hl 0 rfl) ?_
  refine lv_iload_n C.1 C.2.1 dX0_describe_131 rfl (lv_at hl 2 rfl) ?_
  refine lv_bipush (v := (21:Int32)) C.1 C.2.1 dX0_describe_132 (by decide) ?_
  refine lv_icmp_ne (tgt := 144) C.1 C.2.1 dX0_describe_134 (by decide) (fun hc => ?_) (fun hc => ?_)
  · rw [if_neg hc] at h_53
    refine lv_iload_n C.1 C.2.1 dX0_describe_144 rfl (lv_at hl 1 rfl) ?_
    refine lv_bipush (v := (14:Int32)) C.1 C.2.1 dX0_describe_145 (by decide) ?_
    refine lv_ishl C.1 C.2.1 dX0_describe_147 ?_
    refine lv_bipush (v := (14:Int32)) C.1 C.2.1 dX0_describe_148 (by decide) ?_
    refine lv_ishr C.1 C.2.1 dX0_describe_150 ?_
    exact wc_X0_describe_151 C h_53 G_56 ha (cl_RTs ha) (lv_sub hl [0] rfl)
  · rw [if_pos hc] at h_53
    refine lv_iload_n C.1 C.2.1 dX0_describe_137 rfl (lv_at hl 1 rfl) ?_
    refine lv_ldc (v := (262143:Int32)) C.1 C.2.1 C.2.2.2.1 (C.2.2.2.2.1 _ kc_RX0_162) dX0_describe_138 ?_
    refine lv_iand C.1 C.2.1 dX0_describe_140 ?_
    refine lv_goto (tgt := 151) C.1 C.2.1 dX0_describe_141 (by decide) ?_
    exact wc_X0_describe_151 C h_53 G_56 ha (cl_RTs ha) (lv_sub hl [0] rfl)
noncomputable def bc_X0_describe_105 (a : Nat) (x1 : Int32) (x2 : Int32) (σ : cl_S) : Option (Int32 × cl_S) := bd2 (fc_X0_hasM x2 σ) (fun r_38 σ_37 => (if r_38 = 0 then some ((σ_37.1 a 15), σ_37) else bd2 (fc_X0_hasD x2 σ_37) (fun r_44 σ_43 => (if r_44 = 0 then bc_X0_describe_127 a x1 x2 (some a) ([32]) σ_43 else bc_X0_describe_127 a x1 x2 (some a) ([44, 32]) σ_43))))
set_option maxHeartbeats 4000000 in
theorem wc_X0_describe_105 (C : cl_C D p s m args meth c cX0_describe 3 (some .int) RX0) {r : Int32} {a : Nat} {x1 : Int32} {x2 : Int32} {σ0 σ σ' : cl_S} {T : Nat → Nat × Nat} {H : Heap} {locs : List Loc} {ls : Array Slot} {cells slots : Nat} (h : bc_X0_describe_105 a x1 x2 σ = some (r, σ')) (G : cl_G true D c0 ({ frames := 6, cells := σ0.2.2.2.2.2.1, slots := σ0.2.2.2.2.2.2, locals := 129 }) s σ0.2.2.2.1 T σ H locs cells slots) (ha : (T a).1 = 16) (hl : lv_has ls 3 [(0, .ref (c0 + a)), (1, .int x1), (2, .int x2)]) : W p l e ({ frames := 6, cells := σ0.2.2.2.2.2.1, slots := σ0.2.2.2.2.2.2, locals := 129 }) s m args below meth c H locs cells slots (MQ below (cl_Q true D c0 (some (.int r)) cl_no σ0 σ') args s (σ0.2.2.2.2.2.1 - σ'.2.2.2.2.2.1) (σ0.2.2.2.2.2.2 - σ'.2.2.2.2.2.2) (cl_A c0 σ0.2.2.2.1 s.heap.size)) (F0 m 105 ls []) := by
  unfold bc_X0_describe_105 at h
  refine lv_iload_n C.1 C.2.1 dX0_describe_105 rfl (lv_at hl 2 rfl) ?_
  obtain ⟨r_38, σ_37, hq, h_39⟩ := bd2_some h
  refine cl_callS (rest := []) C G cw_RX0_159 [.int x2] _ (kc_X0_hasM l D c0 hq) (Nat.le_of_ble_eq_true rfl) (Nat.le_of_ble_eq_true rfl) rfl rfl hl.1 (Nat.le_of_ble_eq_true rfl) dX0_describe_106 (fun T_40 H locs cells slots t_41 hu G_42 => ?_)
  have ha := hu.kind ha (by decide)
  refine W.eq (g2 := F0 m 109 ls [.int r_38]) rfl ?_
  refine lv_if_eq (tgt := 154) C.1 C.2.1 dX0_describe_109 (by decide) (fun hc => ?_) (fun hc => ?_)
  · rw [if_pos hc] at h_39
    refine lv_aload_n C.1 C.2.1 dX0_describe_154 rfl (lv_at hl 0 rfl) ?_
    refine cg_0_196 C G_42 ha dX0_describe_155 ?_
    exact cl_iret ⟨rfl, rfl⟩ rfl C G_42 h_39 dX0_describe_158
  · rw [if_neg hc] at h_39
    refine lv_aload_n C.1 C.2.1 dX0_describe_112 rfl (lv_at hl 0 rfl) ?_
    refine lv_iload_n C.1 C.2.1 dX0_describe_113 rfl (lv_at hl 2 rfl) ?_
    obtain ⟨r_44, σ_43, hq, h_45⟩ := bd2_some h_39
    refine cl_callS (rest := [.ref (c0 + a)]) C G_42 cw_RX0_143 [.int x2] _ (kc_X0_hasD l D c0 hq) (Nat.le_of_ble_eq_true rfl) (Nat.le_of_ble_eq_true rfl) rfl rfl hl.1 (Nat.le_of_ble_eq_true rfl) dX0_describe_114 (fun T_46 H locs cells slots t_47 hu G_48 => ?_)
    have ha := hu.kind ha (by decide)
    refine W.eq (g2 := F0 m 117 ls [.int r_44, .ref (c0 + a)]) rfl ?_
    refine lv_if_eq (tgt := 125) C.1 C.2.1 dX0_describe_117 (by decide) (fun hc => ?_) (fun hc => ?_)
    · rw [if_pos hc] at h_45
      refine va_ldcS C.1 C.2.1 C.2.2.2.1 (C.2.2.2.2.2.1.2.2.1 (206, " ", [32]) (by simp [cl_strs])).1 dX0_describe_125 ?_
      exact wc_X0_describe_127 C h_45 G_48 ha (cl_RTs ha) (lv_sub hl [0, 1, 2] rfl)
    · rw [if_neg hc] at h_45
      refine va_ldcS C.1 C.2.1 C.2.2.2.1 (C.2.2.2.2.2.1.2.2.1 (223, ", ", [44, 32]) (by simp [cl_strs])).1 dX0_describe_120 ?_
      refine lv_goto (tgt := 127) C.1 C.2.1 dX0_describe_122 (by decide) ?_
      exact wc_X0_describe_127 C h_45 G_48 ha (cl_RTs ha) (lv_sub hl [0, 1, 2] rfl)
noncomputable def bc_X0_describe_85 (a : Nat) (x1 : Int32) (x2 : Int32) (σ : cl_S) : Option (Int32 × cl_S) := bd2 (fc_X0_hasB x2 σ) (fun r_32 σ_31 => (if r_32 = 0 then bc_X0_describe_105 a x1 x2 σ_31 else bd1 (fc_X0_showRegister a ([44, 32, 114]) (((x1.toUInt32 >>> ((14:Int32).toUInt32 &&& Int32.toUInt32 31)).toInt32) &&& (15:Int32)) σ_31) (fun σ_65 => bc_X0_describe_105 a x1 x2 σ_65)))
set_option maxHeartbeats 4000000 in
theorem wc_X0_describe_85 (C : cl_C D p s m args meth c cX0_describe 3 (some .int) RX0) {r : Int32} {a : Nat} {x1 : Int32} {x2 : Int32} {σ0 σ σ' : cl_S} {T : Nat → Nat × Nat} {H : Heap} {locs : List Loc} {ls : Array Slot} {cells slots : Nat} (h : bc_X0_describe_85 a x1 x2 σ = some (r, σ')) (G : cl_G true D c0 ({ frames := 6, cells := σ0.2.2.2.2.2.1, slots := σ0.2.2.2.2.2.2, locals := 129 }) s σ0.2.2.2.1 T σ H locs cells slots) (ha : (T a).1 = 16) (hl : lv_has ls 3 [(0, .ref (c0 + a)), (1, .int x1), (2, .int x2)]) : W p l e ({ frames := 6, cells := σ0.2.2.2.2.2.1, slots := σ0.2.2.2.2.2.2, locals := 129 }) s m args below meth c H locs cells slots (MQ below (cl_Q true D c0 (some (.int r)) cl_no σ0 σ') args s (σ0.2.2.2.2.2.1 - σ'.2.2.2.2.2.1) (σ0.2.2.2.2.2.2 - σ'.2.2.2.2.2.2) (cl_A c0 σ0.2.2.2.1 s.heap.size)) (F0 m 85 ls []) := by
  unfold bc_X0_describe_85 at h
  refine lv_iload_n C.1 C.2.1 dX0_describe_85 rfl (lv_at hl 2 rfl) ?_
  obtain ⟨r_32, σ_31, hq, h_33⟩ := bd2_some h
  refine cl_callS (rest := []) C G cw_RX0_156 [.int x2] _ (kc_X0_hasB l D c0 hq) (Nat.le_of_ble_eq_true rfl) (Nat.le_of_ble_eq_true rfl) rfl rfl hl.1 (Nat.le_of_ble_eq_true rfl) dX0_describe_86 (fun T_34 H locs cells slots t_35 hu G_36 => ?_)
  have ha := hu.kind ha (by decide)
  refine W.eq (g2 := F0 m 89 ls [.int r_32]) rfl ?_
  refine lv_if_eq (tgt := 105) C.1 C.2.1 dX0_describe_89 (by decide) (fun hc => ?_) (fun hc => ?_)
  · rw [if_pos hc] at h_33
    exact wc_X0_describe_105 C h_33 G_36 ha (lv_sub hl [0, 1, 2] rfl)
  · rw [if_neg hc] at h_33
    refine lv_aload_n C.1 C.2.1 dX0_describe_92 rfl (lv_at hl 0 rfl) ?_
    refine va_ldcS C.1 C.2.1 C.2.2.2.1 (C.2.2.2.2.2.1.2.2.1 (221, ", \x72", [44, 32, 114]) (by simp [cl_strs])).1 dX0_describe_93 ?_
    refine lv_iload_n C.1 C.2.1 dX0_describe_95 rfl (lv_at hl 1 rfl) ?_
    refine lv_bipush (v := (14:Int32)) C.1 C.2.1 dX0_describe_96 (by decide) ?_
    refine lv_iushr C.1 C.2.1 dX0_describe_98 rfl ?_
    refine lv_bipush (v := (15:Int32)) C.1 C.2.1 dX0_describe_99 (by decide) ?_
    refine lv_iand C.1 C.2.1 dX0_describe_101 ?_
    obtain ⟨σ_65, hq, h_66⟩ := bd1_some h_33
    refine cl_callV (ci := 0) (rest := []) C G_36 rfl ha cw_RX0_217 [.ref (D.2.2.2.2.2 [44, 32, 114]), .int (((x1.toUInt32 >>> ((14:Int32).toUInt32 &&& Int32.toUInt32 31)).toInt32) &&& (15:Int32))] _ (kc_X0_showRegister l D c0 (by rw [G_36.1]; exact ha) hq) (Nat.le_of_ble_eq_true rfl) (Nat.le_of_ble_eq_true rfl) rfl rfl hl.1 (Nat.le_of_ble_eq_true rfl) dX0_describe_102 (fun T_67 H locs cells slots t_68 hu G_69 => ?_)
    have ha := hu.kind ha (by decide)
    refine W.eq (g2 := F0 m 105 ls []) rfl ?_
    exact wc_X0_describe_105 C h_66 G_69 ha (lv_sub hl [0, 1, 2] rfl)
noncomputable def bc_X0_describe_65 (a : Nat) (x1 : Int32) (x2 : Int32) (σ : cl_S) : Option (Int32 × cl_S) := bd2 (fc_X0_hasA x2 σ) (fun r_26 σ_25 => (if r_26 = 0 then bc_X0_describe_85 a x1 x2 σ_25 else bd1 (fc_X0_showRegister a ([44, 32, 114]) (((x1.toUInt32 >>> ((18:Int32).toUInt32 &&& Int32.toUInt32 31)).toInt32) &&& (15:Int32)) σ_25) (fun σ_70 => bc_X0_describe_85 a x1 x2 σ_70)))
set_option maxHeartbeats 4000000 in
theorem wc_X0_describe_65 (C : cl_C D p s m args meth c cX0_describe 3 (some .int) RX0) {r : Int32} {a : Nat} {x1 : Int32} {x2 : Int32} {σ0 σ σ' : cl_S} {T : Nat → Nat × Nat} {H : Heap} {locs : List Loc} {ls : Array Slot} {cells slots : Nat} (h : bc_X0_describe_65 a x1 x2 σ = some (r, σ')) (G : cl_G true D c0 ({ frames := 6, cells := σ0.2.2.2.2.2.1, slots := σ0.2.2.2.2.2.2, locals := 129 }) s σ0.2.2.2.1 T σ H locs cells slots) (ha : (T a).1 = 16) (hl : lv_has ls 3 [(0, .ref (c0 + a)), (1, .int x1), (2, .int x2)]) : W p l e ({ frames := 6, cells := σ0.2.2.2.2.2.1, slots := σ0.2.2.2.2.2.2, locals := 129 }) s m args below meth c H locs cells slots (MQ below (cl_Q true D c0 (some (.int r)) cl_no σ0 σ') args s (σ0.2.2.2.2.2.1 - σ'.2.2.2.2.2.1) (σ0.2.2.2.2.2.2 - σ'.2.2.2.2.2.2) (cl_A c0 σ0.2.2.2.1 s.heap.size)) (F0 m 65 ls []) := by
  unfold bc_X0_describe_65 at h
  refine lv_iload_n C.1 C.2.1 dX0_describe_65 rfl (lv_at hl 2 rfl) ?_
  obtain ⟨r_26, σ_25, hq, h_27⟩ := bd2_some h
  refine cl_callS (rest := []) C G cw_RX0_150 [.int x2] _ (kc_X0_hasA l D c0 hq) (Nat.le_of_ble_eq_true rfl) (Nat.le_of_ble_eq_true rfl) rfl rfl hl.1 (Nat.le_of_ble_eq_true rfl) dX0_describe_66 (fun T_28 H locs cells slots t_29 hu G_30 => ?_)
  have ha := hu.kind ha (by decide)
  refine W.eq (g2 := F0 m 69 ls [.int r_26]) rfl ?_
  refine lv_if_eq (tgt := 85) C.1 C.2.1 dX0_describe_69 (by decide) (fun hc => ?_) (fun hc => ?_)
  · rw [if_pos hc] at h_27
    exact wc_X0_describe_85 C h_27 G_30 ha (lv_sub hl [0, 1, 2] rfl)
  · rw [if_neg hc] at h_27
    refine lv_aload_n C.1 C.2.1 dX0_describe_72 rfl (lv_at hl 0 rfl) ?_
    refine va_ldcS C.1 C.2.1 C.2.2.2.1 (C.2.2.2.2.2.1.2.2.1 (221, ", \x72", [44, 32, 114]) (by simp [cl_strs])).1 dX0_describe_73 ?_
    refine lv_iload_n C.1 C.2.1 dX0_describe_75 rfl (lv_at hl 1 rfl) ?_
    refine lv_bipush (v := (18:Int32)) C.1 C.2.1 dX0_describe_76 (by decide) ?_
    refine lv_iushr C.1 C.2.1 dX0_describe_78 rfl ?_
    refine lv_bipush (v := (15:Int32)) C.1 C.2.1 dX0_describe_79 (by decide) ?_
    refine lv_iand C.1 C.2.1 dX0_describe_81 ?_
    obtain ⟨σ_70, hq, h_71⟩ := bd1_some h_27
    refine cl_callV (ci := 0) (rest := []) C G_30 rfl ha cw_RX0_217 [.ref (D.2.2.2.2.2 [44, 32, 114]), .int (((x1.toUInt32 >>> ((18:Int32).toUInt32 &&& Int32.toUInt32 31)).toInt32) &&& (15:Int32))] _ (kc_X0_showRegister l D c0 (by rw [G_30.1]; exact ha) hq) (Nat.le_of_ble_eq_true rfl) (Nat.le_of_ble_eq_true rfl) rfl rfl hl.1 (Nat.le_of_ble_eq_true rfl) dX0_describe_82 (fun T_72 H locs cells slots t_73 hu G_74 => ?_)
    have ha := hu.kind ha (by decide)
    refine W.eq (g2 := F0 m 85 ls []) rfl ?_
    exact wc_X0_describe_85 C h_71 G_74 ha (lv_sub hl [0, 1, 2] rfl)
noncomputable def bc_X0_describe_0 (a : Nat) (x1 : Int32) (σ : cl_S) : Option (Int32 × cl_S) := vl (cl_w σ a 15 (0:Int32)) (fun σ_1 => vl ((x1.toUInt32 >>> ((26:Int32).toUInt32 &&& Int32.toUInt32 31)).toInt32) (fun x2_5 => bd2 (fc_X0_isMadeBy x2_5 x1 σ_1) (fun r_9 σ_8 => (if r_9 = 0 then bd1 (fc_X0_showName a (40:Int32) σ_8) (fun σ_80 => bd1 (fc_X0_showText a ([32]) σ_80) (fun σ_85 => bd1 (fc_X0_showNumber a x1 σ_85) (fun σ_90 => some ((σ_90.1 a 15), σ_90)))) else bd1 (fc_X0_showName a x2_5 σ_8) (fun σ_14 => bd2 (fc_X0_hasD x2_5 σ_14) (fun r_20 σ_19 => (if r_20 = 0 then bc_X0_describe_65 a x1 x2_5 σ_19 else bd1 (fc_X0_showRegister a ([32, 114]) (((x1.toUInt32 >>> ((22:Int32).toUInt32 &&& Int32.toUInt32 31)).toInt32) &&& (15:Int32)) σ_19) (fun σ_75 => bc_X0_describe_65 a x1 x2_5 σ_75))))))))
set_option maxHeartbeats 4000000 in
theorem wc_X0_describe_0 (C : cl_C D p s m args meth c cX0_describe 3 (some .int) RX0) {r : Int32} {a : Nat} {x1 : Int32} {σ0 σ σ' : cl_S} {T : Nat → Nat × Nat} {H : Heap} {locs : List Loc} {ls : Array Slot} {cells slots : Nat} (h : bc_X0_describe_0 a x1 σ = some (r, σ')) (G : cl_G true D c0 ({ frames := 6, cells := σ0.2.2.2.2.2.1, slots := σ0.2.2.2.2.2.2, locals := 129 }) s σ0.2.2.2.1 T σ H locs cells slots) (ha : (T a).1 = 16) (hl : lv_has ls 3 [(0, .ref (c0 + a)), (1, .int x1)]) : W p l e ({ frames := 6, cells := σ0.2.2.2.2.2.1, slots := σ0.2.2.2.2.2.2, locals := 129 }) s m args below meth c H locs cells slots (MQ below (cl_Q true D c0 (some (.int r)) cl_no σ0 σ') args s (σ0.2.2.2.2.2.1 - σ'.2.2.2.2.2.1) (σ0.2.2.2.2.2.2 - σ'.2.2.2.2.2.2) (cl_A c0 σ0.2.2.2.1 s.heap.size)) (F0 m 0 ls []) := by
  unfold bc_X0_describe_0 at h
  refine lv_aload_n C.1 C.2.1 dX0_describe_0 rfl (lv_at hl 0 rfl) ?_
  refine lv_iconst (v := (0:Int32)) C.1 C.2.1 dX0_describe_1 (by decide) ?_
  refine cp_0_196 C G ha dX0_describe_2 (fun H locs G_2 => ?_)
  refine cl_nm G_2 h (fun σ_1 G_3 h_4 => ?_)
  refine lv_iload_n C.1 C.2.1 dX0_describe_5 rfl (lv_at hl 1 rfl) ?_
  refine lv_bipush (v := (26:Int32)) C.1 C.2.1 dX0_describe_6 (by decide) ?_
  refine lv_iushr C.1 C.2.1 dX0_describe_8 rfl ?_
  refine vt_i h_4 (fun x2_5 h_6 => ?_)
  refine lv_istore_n (lv' := [(2, .int x2_5), (0, .ref (c0 + a)), (1, .int x1)]) C.1 C.2.1 dX0_describe_9 rfl hl (by decide) rfl (fun ls hl_7 => ?_)
  refine lv_iload_n C.1 C.2.1 dX0_describe_10 rfl (lv_at hl_7 0 rfl) ?_
  refine lv_iload_n C.1 C.2.1 dX0_describe_11 rfl (lv_at hl_7 2 rfl) ?_
  obtain ⟨r_9, σ_8, hq, h_10⟩ := bd2_some h_6
  refine cl_callS (rest := []) C G_3 cw_RX0_199 [.int x2_5, .int x1] _ (kc_X0_isMadeBy l D c0 hq) (Nat.le_of_ble_eq_true rfl) (Nat.le_of_ble_eq_true rfl) rfl rfl hl_7.1 (Nat.le_of_ble_eq_true rfl) dX0_describe_12 (fun T_11 H locs cells slots t_12 hu G_13 => ?_)
  have ha := hu.kind ha (by decide)
  refine W.eq (g2 := F0 m 15 ls [.int r_9]) rfl ?_
  refine lv_if_ne (tgt := 40) C.1 C.2.1 dX0_describe_15 (by decide) (fun hc => ?_) (fun hc => ?_)
  · rw [if_neg hc] at h_10
    refine lv_aload_n C.1 C.2.1 dX0_describe_40 rfl (lv_at hl_7 1 rfl) ?_
    refine lv_iload_n C.1 C.2.1 dX0_describe_41 rfl (lv_at hl_7 0 rfl) ?_
    obtain ⟨σ_14, hq, h_15⟩ := bd1_some h_10
    refine cl_callV (ci := 0) (rest := []) C G_13 rfl ha cw_RX0_203 [.int x2_5] _ (kc_X0_showName l D c0 (by rw [G_13.1]; exact ha) hq) (Nat.le_of_ble_eq_true rfl) (Nat.le_of_ble_eq_true rfl) rfl rfl hl_7.1 (Nat.le_of_ble_eq_true rfl) dX0_describe_42 (fun T_16 H locs cells slots t_17 hu G_18 => ?_)
    have ha := hu.kind ha (by decide)
    refine W.eq (g2 := F0 m 45 ls []) rfl ?_
    refine lv_iload_n C.1 C.2.1 dX0_describe_45 rfl (lv_at hl_7 0 rfl) ?_
    obtain ⟨r_20, σ_19, hq, h_21⟩ := bd2_some h_15
    refine cl_callS (rest := []) C G_18 cw_RX0_143 [.int x2_5] _ (kc_X0_hasD l D c0 hq) (Nat.le_of_ble_eq_true rfl) (Nat.le_of_ble_eq_true rfl) rfl rfl hl_7.1 (Nat.le_of_ble_eq_true rfl) dX0_describe_46 (fun T_22 H locs cells slots t_23 hu G_24 => ?_)
    have ha := hu.kind ha (by decide)
    refine W.eq (g2 := F0 m 49 ls [.int r_20]) rfl ?_
    refine lv_if_eq (tgt := 65) C.1 C.2.1 dX0_describe_49 (by decide) (fun hc => ?_) (fun hc => ?_)
    · rw [if_pos hc] at h_21
      exact wc_X0_describe_65 C h_21 G_24 ha (lv_sub hl_7 [1, 2, 0] rfl)
    · rw [if_neg hc] at h_21
      refine lv_aload_n C.1 C.2.1 dX0_describe_52 rfl (lv_at hl_7 1 rfl) ?_
      refine va_ldcS C.1 C.2.1 C.2.2.2.1 (C.2.2.2.2.2.1.2.2.1 (215, " \x72", [32, 114]) (by simp [cl_strs])).1 dX0_describe_53 ?_
      refine lv_iload_n C.1 C.2.1 dX0_describe_55 rfl (lv_at hl_7 2 rfl) ?_
      refine lv_bipush (v := (22:Int32)) C.1 C.2.1 dX0_describe_56 (by decide) ?_
      refine lv_iushr C.1 C.2.1 dX0_describe_58 rfl ?_
      refine lv_bipush (v := (15:Int32)) C.1 C.2.1 dX0_describe_59 (by decide) ?_
      refine lv_iand C.1 C.2.1 dX0_describe_61 ?_
      obtain ⟨σ_75, hq, h_76⟩ := bd1_some h_21
      refine cl_callV (ci := 0) (rest := []) C G_24 rfl ha cw_RX0_217 [.ref (D.2.2.2.2.2 [32, 114]), .int (((x1.toUInt32 >>> ((22:Int32).toUInt32 &&& Int32.toUInt32 31)).toInt32) &&& (15:Int32))] _ (kc_X0_showRegister l D c0 (by rw [G_24.1]; exact ha) hq) (Nat.le_of_ble_eq_true rfl) (Nat.le_of_ble_eq_true rfl) rfl rfl hl_7.1 (Nat.le_of_ble_eq_true rfl) dX0_describe_62 (fun T_77 H locs cells slots t_78 hu G_79 => ?_)
      have ha := hu.kind ha (by decide)
      refine W.eq (g2 := F0 m 65 ls []) rfl ?_
      exact wc_X0_describe_65 C h_76 G_79 ha (lv_sub hl_7 [1, 2, 0] rfl)
  · rw [if_pos hc] at h_10
    refine lv_aload_n C.1 C.2.1 dX0_describe_18 rfl (lv_at hl_7 1 rfl) ?_
    refine lv_bipush (v := (40:Int32)) C.1 C.2.1 dX0_describe_19 (by decide) ?_
    obtain ⟨σ_80, hq, h_81⟩ := bd1_some h_10
    refine cl_callV (ci := 0) (rest := []) C G_13 rfl ha cw_RX0_203 [.int (40:Int32)] _ (kc_X0_showName l D c0 (by rw [G_13.1]; exact ha) hq) (Nat.le_of_ble_eq_true rfl) (Nat.le_of_ble_eq_true rfl) rfl rfl hl_7.1 (Nat.le_of_ble_eq_true rfl) dX0_describe_21 (fun T_82 H locs cells slots t_83 hu G_84 => ?_)
    have ha := hu.kind ha (by decide)
    refine W.eq (g2 := F0 m 24 ls []) rfl ?_
    refine lv_aload_n C.1 C.2.1 dX0_describe_24 rfl (lv_at hl_7 1 rfl) ?_
    refine va_ldcS C.1 C.2.1 C.2.2.2.1 (C.2.2.2.2.2.1.2.2.1 (206, " ", [32]) (by simp [cl_strs])).1 dX0_describe_25 ?_
    obtain ⟨σ_85, hq, h_86⟩ := bd1_some h_81
    refine cl_callV (ci := 0) (rest := []) C G_84 rfl ha cw_RX0_208 [.ref (D.2.2.2.2.2 [32])] _ (kc_X0_showText l D c0 (by rw [G_84.1]; exact ha) hq) (Nat.le_of_ble_eq_true rfl) (Nat.le_of_ble_eq_true rfl) rfl rfl hl_7.1 (Nat.le_of_ble_eq_true rfl) dX0_describe_27 (fun T_87 H locs cells slots t_88 hu G_89 => ?_)
    have ha := hu.kind ha (by decide)
    refine W.eq (g2 := F0 m 30 ls []) rfl ?_
    refine lv_aload_n C.1 C.2.1 dX0_describe_30 rfl (lv_at hl_7 1 rfl) ?_
    refine lv_iload_n C.1 C.2.1 dX0_describe_31 rfl (lv_at hl_7 2 rfl) ?_
    obtain ⟨σ_90, hq, h_91⟩ := bd1_some h_86
    refine cl_callV (ci := 0) (rest := []) C G_89 rfl ha cw_RX0_212 [.int x1] _ (kc_X0_showNumber l D c0 (by rw [G_89.1]; exact ha) hq) (Nat.le_of_ble_eq_true rfl) (Nat.le_of_ble_eq_true rfl) rfl rfl hl_7.1 (Nat.le_of_ble_eq_true rfl) dX0_describe_32 (fun T_92 H locs cells slots t_93 hu G_94 => ?_)
    have ha := hu.kind ha (by decide)
    refine W.eq (g2 := F0 m 35 ls []) rfl ?_
    refine lv_aload_n C.1 C.2.1 dX0_describe_35 rfl (lv_at hl_7 1 rfl) ?_
    refine cg_0_196 C G_94 ha dX0_describe_36 ?_
    exact cl_iret ⟨rfl, rfl⟩ rfl C G_94 h_91 dX0_describe_39
noncomputable def fc_X0_describe (a : Nat) (x1 : Int32) (σ : cl_S) : Option (Int32 × cl_S) := bc_X0_describe_0 a x1 σ
theorem kc_X0_describe (l : Launch) (D : cl_D) (c0 : Nat) {r : Int32} {a : Nat} {x1 : Int32} {σ σ' : cl_S} (ha : (σ.2.2.2.1 a).1 = 16) (h : fc_X0_describe a x1 σ = some (r, σ')) : cl_Met true l D c0 yX0_describe cX0_describe 3 (some .int) 6 129 [.ref (c0 + a), .int x1] σ (some (.int r)) cl_no σ' :=
  cl_of (by decide) (Nat.le_of_ble_eq_true rfl) (fun p e s m args below meth c ls C hn G hl => wc_X0_describe_0 C h G ha hl)
abbrev cX1_init : ByteArray := prog_3_method_1_code
def yX1_init : MethodName := ⟨RX1, "<init>", "()V"⟩
theorem dX1_init_0 : decode cX1_init 0 = .ok (.aload_n 0, 1) := by decide +kernel
theorem dX1_init_1 : decode cX1_init 1 = .ok (.invokespecial 3, 3) := by decide +kernel
theorem dX1_init_4 : decode cX1_init 4 = .ok (.aload_n 0, 1) := by decide +kernel
theorem dX1_init_5 : decode cX1_init 5 = .ok (.bipush 8, 2) := by decide +kernel
theorem dX1_init_7 : decode cX1_init 7 = .ok (.newarray .int, 2) := by decide +kernel
theorem dX1_init_9 : decode cX1_init 9 = .ok (.putfield 9, 3) := by decide +kernel
theorem dX1_init_12 : decode cX1_init 12 = .ok (.aload_n 0, 1) := by decide +kernel
theorem dX1_init_13 : decode cX1_init 13 = .ok (.bipush 8, 2) := by decide +kernel
theorem dX1_init_15 : decode cX1_init 15 = .ok (.newarray .int, 2) := by decide +kernel
theorem dX1_init_17 : decode cX1_init 17 = .ok (.putfield 15, 3) := by decide +kernel
theorem dX1_init_20 : decode cX1_init 20 = .ok (.aload_n 0, 1) := by decide +kernel
theorem dX1_init_21 : decode cX1_init 21 = .ok (.bipush 8, 2) := by decide +kernel
theorem dX1_init_23 : decode cX1_init 23 = .ok (.newarray .int, 2) := by decide +kernel
theorem dX1_init_25 : decode cX1_init 25 = .ok (.putfield 18, 3) := by decide +kernel
theorem dX1_init_28 : decode cX1_init 28 = .ok (.aload_n 0, 1) := by decide +kernel
theorem dX1_init_29 : decode cX1_init 29 = .ok (.bipush 8, 2) := by decide +kernel
theorem dX1_init_31 : decode cX1_init 31 = .ok (.newarray .int, 2) := by decide +kernel
theorem dX1_init_33 : decode cX1_init 33 = .ok (.putfield 21, 3) := by decide +kernel
theorem dX1_init_36 : decode cX1_init 36 = .ok (.aload_n 0, 1) := by decide +kernel
theorem dX1_init_37 : decode cX1_init 37 = .ok (.bipush 16, 2) := by decide +kernel
theorem dX1_init_39 : decode cX1_init 39 = .ok (.newarray .int, 2) := by decide +kernel
theorem dX1_init_41 : decode cX1_init 41 = .ok (.putfield 24, 3) := by decide +kernel
theorem dX1_init_44 : decode cX1_init 44 = .ok (.aload_n 0, 1) := by decide +kernel
theorem dX1_init_45 : decode cX1_init 45 = .ok (.bipush 16, 2) := by decide +kernel
theorem dX1_init_47 : decode cX1_init 47 = .ok (.newarray .int, 2) := by decide +kernel
theorem dX1_init_49 : decode cX1_init 49 = .ok (.putfield 27, 3) := by decide +kernel
theorem dX1_init_52 : decode cX1_init 52 = .ok (.aload_n 0, 1) := by decide +kernel
theorem dX1_init_53 : decode cX1_init 53 = .ok (.bipush 16, 2) := by decide +kernel
theorem dX1_init_55 : decode cX1_init 55 = .ok (.newarray .int, 2) := by decide +kernel
theorem dX1_init_57 : decode cX1_init 57 = .ok (.putfield 30, 3) := by decide +kernel
theorem dX1_init_60 : decode cX1_init 60 = .ok (.aload_n 0, 1) := by decide +kernel
theorem dX1_init_61 : decode cX1_init 61 = .ok (.bipush 32, 2) := by decide +kernel
theorem dX1_init_63 : decode cX1_init 63 = .ok (.newarray .int, 2) := by decide +kernel
theorem dX1_init_65 : decode cX1_init 65 = .ok (.putfield 33, 3) := by decide +kernel
theorem dX1_init_68 : decode cX1_init 68 = .ok (.aload_n 0, 1) := by decide +kernel
theorem dX1_init_69 : decode cX1_init 69 = .ok (.bipush 32, 2) := by decide +kernel
theorem dX1_init_71 : decode cX1_init 71 = .ok (.newarray .int, 2) := by decide +kernel
theorem dX1_init_73 : decode cX1_init 73 = .ok (.putfield 36, 3) := by decide +kernel
theorem dX1_init_76 : decode cX1_init 76 = .ok (.aload_n 0, 1) := by decide +kernel
theorem dX1_init_77 : decode cX1_init 77 = .ok (.iconst 0, 1) := by decide +kernel
theorem dX1_init_78 : decode cX1_init 78 = .ok (.newarray .int, 2) := by decide +kernel
theorem dX1_init_80 : decode cX1_init 80 = .ok (.putfield 39, 3) := by decide +kernel
theorem dX1_init_83 : decode cX1_init 83 = .ok (.return_, 1) := by decide +kernel
theorem cc_X1_init : Cond.code yX1_init cX1_init 1 none ∈ rf_tb := rf_at 417 (by decide +kernel) (by decide +kernel)
theorem oi_RX1_3 : Cond.methodLink RX1 3 Lib.objectInit ∈ rf_tb := rf_at 418 (by decide +kernel) (by decide +kernel)
noncomputable def bc_X1_init_0 (a : Nat) (σ : cl_S) : Option (cl_S) := nag (8:Int32) (al σ (8:Int32).toNatClampNeg (vl σ.2.2.2.2.1 (fun a_1 => vl (cl_nw σ 1 (8:Int32).toNatClampNeg (8:Int32).toNatClampNeg) (fun σ_2 => vl (cl_wr σ_2 a 1 (some a_1)) (fun σ_11 => nag (8:Int32) (al σ_11 (8:Int32).toNatClampNeg (vl σ_11.2.2.2.2.1 (fun a_15 => vl (cl_nw σ_11 1 (8:Int32).toNatClampNeg (8:Int32).toNatClampNeg) (fun σ_16 => vl (cl_wr σ_16 a 2 (some a_15)) (fun σ_25 => nag (8:Int32) (al σ_25 (8:Int32).toNatClampNeg (vl σ_25.2.2.2.2.1 (fun a_29 => vl (cl_nw σ_25 1 (8:Int32).toNatClampNeg (8:Int32).toNatClampNeg) (fun σ_30 => vl (cl_wr σ_30 a 3 (some a_29)) (fun σ_39 => nag (8:Int32) (al σ_39 (8:Int32).toNatClampNeg (vl σ_39.2.2.2.2.1 (fun a_43 => vl (cl_nw σ_39 1 (8:Int32).toNatClampNeg (8:Int32).toNatClampNeg) (fun σ_44 => vl (cl_wr σ_44 a 4 (some a_43)) (fun σ_53 => nag (16:Int32) (al σ_53 (16:Int32).toNatClampNeg (vl σ_53.2.2.2.2.1 (fun a_57 => vl (cl_nw σ_53 1 (16:Int32).toNatClampNeg (16:Int32).toNatClampNeg) (fun σ_58 => vl (cl_wr σ_58 a 6 (some a_57)) (fun σ_67 => nag (16:Int32) (al σ_67 (16:Int32).toNatClampNeg (vl σ_67.2.2.2.2.1 (fun a_71 => vl (cl_nw σ_67 1 (16:Int32).toNatClampNeg (16:Int32).toNatClampNeg) (fun σ_72 => vl (cl_wr σ_72 a 7 (some a_71)) (fun σ_81 => nag (16:Int32) (al σ_81 (16:Int32).toNatClampNeg (vl σ_81.2.2.2.2.1 (fun a_85 => vl (cl_nw σ_81 1 (16:Int32).toNatClampNeg (16:Int32).toNatClampNeg) (fun σ_86 => vl (cl_wr σ_86 a 8 (some a_85)) (fun σ_95 => nag (32:Int32) (al σ_95 (32:Int32).toNatClampNeg (vl σ_95.2.2.2.2.1 (fun a_99 => vl (cl_nw σ_95 1 (32:Int32).toNatClampNeg (32:Int32).toNatClampNeg) (fun σ_100 => vl (cl_wr σ_100 a 10 (some a_99)) (fun σ_109 => nag (32:Int32) (al σ_109 (32:Int32).toNatClampNeg (vl σ_109.2.2.2.2.1 (fun a_113 => vl (cl_nw σ_109 1 (32:Int32).toNatClampNeg (32:Int32).toNatClampNeg) (fun σ_114 => vl (cl_wr σ_114 a 11 (some a_113)) (fun σ_123 => nag (0:Int32) (al σ_123 (0:Int32).toNatClampNeg (vl σ_123.2.2.2.2.1 (fun a_127 => vl (cl_nw σ_123 1 (0:Int32).toNatClampNeg (0:Int32).toNatClampNeg) (fun σ_128 => vl (cl_wr σ_128 a 12 (some a_127)) (fun σ_137 => some σ_137))))))))))))))))))))))))))))))))))))))))))))))))))
set_option maxHeartbeats 4000000 in
theorem wc_X1_init_0 (C : cl_C D p s m args meth c cX1_init 1 none RX1) (hn9 : meth.name = "<init>") {a : Nat} {σ0 σ σ' : cl_S} {T : Nat → Nat × Nat} {H : Heap} {locs : List Loc} {ls : Array Slot} {cells slots : Nat} (h : bc_X1_init_0 a σ = some σ') (G : cl_G true D c0 ({ frames := 1, cells := σ0.2.2.2.2.2.1, slots := σ0.2.2.2.2.2.2, locals := 20 }) s σ0.2.2.2.1 T σ H locs cells slots) (ha : (T a).1 = 117) (hl : lv_has ls 1 [(0, .ref (c0 + a))]) : W p l e ({ frames := 1, cells := σ0.2.2.2.2.2.1, slots := σ0.2.2.2.2.2.2, locals := 20 }) s m args below meth c H locs cells slots (MQ below (cl_Q true D c0 none cl_no σ0 σ') args s (σ0.2.2.2.2.2.1 - σ'.2.2.2.2.2.1) (σ0.2.2.2.2.2.2 - σ'.2.2.2.2.2.2) (cl_A c0 σ0.2.2.2.1 s.heap.size)) (F0 m 0 ls []) := by
  unfold bc_X1_init_0 at h
  refine lv_aload_n C.1 C.2.1 dX1_init_0 rfl (lv_at hl 0 rfl) ?_
  refine W.objInit (rest := []) C.1 C.2.1 C.2.2.2.1 (C.2.2.2.2.1 _ oi_RX1_3) (C.2.2.2.2.1 _ oi_i) (C.2.2.2.2.1 _ oi_c) rfl (by rw [C.2.2.1]; exact hl.1) rfl dX1_init_1 (Nat.le_of_ble_eq_true rfl) (Nat.le_of_ble_eq_true rfl) ?_
  refine W.eq (g2 := F0 m 4 ls []) rfl ?_
  refine lv_aload_n C.1 C.2.1 dX1_init_4 rfl (lv_at hl 0 rfl) ?_
  refine lv_bipush (v := (8:Int32)) C.1 C.2.1 dX1_init_5 (by decide) ?_
  obtain ⟨hng, h_5⟩ := nag_some h
  obtain ⟨hal, h_6⟩ := al_some h_5
  refine cl_newa (t := 1) C G (by decide) (by decide) .int rfl aw_1 hng.1 rfl (cl_bytes hng.2 (by decide) (by decide)) hal dX1_init_7 (fun T_4 H cells slots t_3 hu G_7 => ?_)
  have ha := hu.kind ha (by decide)
  refine cl_nmB h_6 t_3 (fun a_1 t_3 h_8 => ?_)
  refine cl_nm G_7 h_8 (fun σ_2 G_9 h_10 => ?_)
  refine rp_1_9 (x := (some a_1)) C hn9 G_9 ha (cl_RTs (by rw [t_3])) dX1_init_9 (fun H locs G_12 => ?_)
  refine cl_nm G_12 h_10 (fun σ_11 G_13 h_14 => ?_)
  refine lv_aload_n C.1 C.2.1 dX1_init_12 rfl (lv_at hl 0 rfl) ?_
  refine lv_bipush (v := (8:Int32)) C.1 C.2.1 dX1_init_13 (by decide) ?_
  obtain ⟨hng, h_19⟩ := nag_some h_14
  obtain ⟨hal, h_20⟩ := al_some h_19
  refine cl_newa (t := 1) C G_13 (by decide) (by decide) .int rfl aw_1 hng.1 rfl (cl_bytes hng.2 (by decide) (by decide)) hal dX1_init_15 (fun T_18 H cells slots t_17 hu G_21 => ?_)
  have ha := hu.kind ha (by decide)
  refine cl_nmB h_20 t_17 (fun a_15 t_17 h_22 => ?_)
  refine cl_nm G_21 h_22 (fun σ_16 G_23 h_24 => ?_)
  refine rp_1_15 (x := (some a_15)) C hn9 G_23 ha (cl_RTs (by rw [t_17])) dX1_init_17 (fun H locs G_26 => ?_)
  refine cl_nm G_26 h_24 (fun σ_25 G_27 h_28 => ?_)
  refine lv_aload_n C.1 C.2.1 dX1_init_20 rfl (lv_at hl 0 rfl) ?_
  refine lv_bipush (v := (8:Int32)) C.1 C.2.1 dX1_init_21 (by decide) ?_
  obtain ⟨hng, h_33⟩ := nag_some h_28
  obtain ⟨hal, h_34⟩ := al_some h_33
  refine cl_newa (t := 1) C G_27 (by decide) (by decide) .int rfl aw_1 hng.1 rfl (cl_bytes hng.2 (by decide) (by decide)) hal dX1_init_23 (fun T_32 H cells slots t_31 hu G_35 => ?_)
  have ha := hu.kind ha (by decide)
  refine cl_nmB h_34 t_31 (fun a_29 t_31 h_36 => ?_)
  refine cl_nm G_35 h_36 (fun σ_30 G_37 h_38 => ?_)
  refine rp_1_18 (x := (some a_29)) C hn9 G_37 ha (cl_RTs (by rw [t_31])) dX1_init_25 (fun H locs G_40 => ?_)
  refine cl_nm G_40 h_38 (fun σ_39 G_41 h_42 => ?_)
  refine lv_aload_n C.1 C.2.1 dX1_init_28 rfl (lv_at hl 0 rfl) ?_
  refine lv_bipush (v := (8:Int32)) C.1 C.2.1 dX1_init_29 (by decide) ?_
  obtain ⟨hng, h_47⟩ := nag_some h_42
  obtain ⟨hal, h_48⟩ := al_some h_47
  refine cl_newa (t := 1) C G_41 (by decide) (by decide) .int rfl aw_1 hng.1 rfl (cl_bytes hng.2 (by decide) (by decide)) hal dX1_init_31 (fun T_46 H cells slots t_45 hu G_49 => ?_)
  have ha := hu.kind ha (by decide)
  refine cl_nmB h_48 t_45 (fun a_43 t_45 h_50 => ?_)
  refine cl_nm G_49 h_50 (fun σ_44 G_51 h_52 => ?_)
  refine rp_1_21 (x := (some a_43)) C hn9 G_51 ha (cl_RTs (by rw [t_45])) dX1_init_33 (fun H locs G_54 => ?_)
  refine cl_nm G_54 h_52 (fun σ_53 G_55 h_56 => ?_)
  refine lv_aload_n C.1 C.2.1 dX1_init_36 rfl (lv_at hl 0 rfl) ?_
  refine lv_bipush (v := (16:Int32)) C.1 C.2.1 dX1_init_37 (by decide) ?_
  obtain ⟨hng, h_61⟩ := nag_some h_56
  obtain ⟨hal, h_62⟩ := al_some h_61
  refine cl_newa (t := 1) C G_55 (by decide) (by decide) .int rfl aw_1 hng.1 rfl (cl_bytes hng.2 (by decide) (by decide)) hal dX1_init_39 (fun T_60 H cells slots t_59 hu G_63 => ?_)
  have ha := hu.kind ha (by decide)
  refine cl_nmB h_62 t_59 (fun a_57 t_59 h_64 => ?_)
  refine cl_nm G_63 h_64 (fun σ_58 G_65 h_66 => ?_)
  refine rp_1_24 (x := (some a_57)) C hn9 G_65 ha (cl_RTs (by rw [t_59])) dX1_init_41 (fun H locs G_68 => ?_)
  refine cl_nm G_68 h_66 (fun σ_67 G_69 h_70 => ?_)
  refine lv_aload_n C.1 C.2.1 dX1_init_44 rfl (lv_at hl 0 rfl) ?_
  refine lv_bipush (v := (16:Int32)) C.1 C.2.1 dX1_init_45 (by decide) ?_
  obtain ⟨hng, h_75⟩ := nag_some h_70
  obtain ⟨hal, h_76⟩ := al_some h_75
  refine cl_newa (t := 1) C G_69 (by decide) (by decide) .int rfl aw_1 hng.1 rfl (cl_bytes hng.2 (by decide) (by decide)) hal dX1_init_47 (fun T_74 H cells slots t_73 hu G_77 => ?_)
  have ha := hu.kind ha (by decide)
  refine cl_nmB h_76 t_73 (fun a_71 t_73 h_78 => ?_)
  refine cl_nm G_77 h_78 (fun σ_72 G_79 h_80 => ?_)
  refine rp_1_27 (x := (some a_71)) C hn9 G_79 ha (cl_RTs (by rw [t_73])) dX1_init_49 (fun H locs G_82 => ?_)
  refine cl_nm G_82 h_80 (fun σ_81 G_83 h_84 => ?_)
  refine lv_aload_n C.1 C.2.1 dX1_init_52 rfl (lv_at hl 0 rfl) ?_
  refine lv_bipush (v := (16:Int32)) C.1 C.2.1 dX1_init_53 (by decide) ?_
  obtain ⟨hng, h_89⟩ := nag_some h_84
  obtain ⟨hal, h_90⟩ := al_some h_89
  refine cl_newa (t := 1) C G_83 (by decide) (by decide) .int rfl aw_1 hng.1 rfl (cl_bytes hng.2 (by decide) (by decide)) hal dX1_init_55 (fun T_88 H cells slots t_87 hu G_91 => ?_)
  have ha := hu.kind ha (by decide)
  refine cl_nmB h_90 t_87 (fun a_85 t_87 h_92 => ?_)
  refine cl_nm G_91 h_92 (fun σ_86 G_93 h_94 => ?_)
  refine rp_1_30 (x := (some a_85)) C hn9 G_93 ha (cl_RTs (by rw [t_87])) dX1_init_57 (fun H locs G_96 => ?_)
  refine cl_nm G_96 h_94 (fun σ_95 G_97 h_98 => ?_)
  refine lv_aload_n C.1 C.2.1 dX1_init_60 rfl (lv_at hl 0 rfl) ?_
  refine lv_bipush (v := (32:Int32)) C.1 C.2.1 dX1_init_61 (by decide) ?_
  obtain ⟨hng, h_103⟩ := nag_some h_98
  obtain ⟨hal, h_104⟩ := al_some h_103
  refine cl_newa (t := 1) C G_97 (by decide) (by decide) .int rfl aw_1 hng.1 rfl (cl_bytes hng.2 (by decide) (by decide)) hal dX1_init_63 (fun T_102 H cells slots t_101 hu G_105 => ?_)
  have ha := hu.kind ha (by decide)
  refine cl_nmB h_104 t_101 (fun a_99 t_101 h_106 => ?_)
  refine cl_nm G_105 h_106 (fun σ_100 G_107 h_108 => ?_)
  refine rp_1_33 (x := (some a_99)) C hn9 G_107 ha (cl_RTs (by rw [t_101])) dX1_init_65 (fun H locs G_110 => ?_)
  refine cl_nm G_110 h_108 (fun σ_109 G_111 h_112 => ?_)
  refine lv_aload_n C.1 C.2.1 dX1_init_68 rfl (lv_at hl 0 rfl) ?_
  refine lv_bipush (v := (32:Int32)) C.1 C.2.1 dX1_init_69 (by decide) ?_
  obtain ⟨hng, h_117⟩ := nag_some h_112
  obtain ⟨hal, h_118⟩ := al_some h_117
  refine cl_newa (t := 1) C G_111 (by decide) (by decide) .int rfl aw_1 hng.1 rfl (cl_bytes hng.2 (by decide) (by decide)) hal dX1_init_71 (fun T_116 H cells slots t_115 hu G_119 => ?_)
  have ha := hu.kind ha (by decide)
  refine cl_nmB h_118 t_115 (fun a_113 t_115 h_120 => ?_)
  refine cl_nm G_119 h_120 (fun σ_114 G_121 h_122 => ?_)
  refine rp_1_36 (x := (some a_113)) C hn9 G_121 ha (cl_RTs (by rw [t_115])) dX1_init_73 (fun H locs G_124 => ?_)
  refine cl_nm G_124 h_122 (fun σ_123 G_125 h_126 => ?_)
  refine lv_aload_n C.1 C.2.1 dX1_init_76 rfl (lv_at hl 0 rfl) ?_
  refine lv_iconst (v := (0:Int32)) C.1 C.2.1 dX1_init_77 (by decide) ?_
  obtain ⟨hng, h_131⟩ := nag_some h_126
  obtain ⟨hal, h_132⟩ := al_some h_131
  refine cl_newa (t := 1) C G_125 (by decide) (by decide) .int rfl aw_1 hng.1 rfl (cl_bytes hng.2 (by decide) (by decide)) hal dX1_init_78 (fun T_130 H cells slots t_129 hu G_133 => ?_)
  have ha := hu.kind ha (by decide)
  refine cl_nmB h_132 t_129 (fun a_127 t_129 h_134 => ?_)
  refine cl_nm G_133 h_134 (fun σ_128 G_135 h_136 => ?_)
  refine rp_1_39 (x := (some a_127)) C hn9 G_135 ha (cl_RTs (by rw [t_129])) dX1_init_80 (fun H locs G_138 => ?_)
  refine cl_nm G_138 h_136 (fun σ_137 G_139 h_140 => ?_)
  exact cl_vret ⟨rfl, rfl⟩ rfl C G_139 h_140 dX1_init_83
noncomputable def fc_X1_init (a : Nat) (σ : cl_S) : Option (cl_S) := bc_X1_init_0 a σ
theorem kc_X1_init (l : Launch) (D : cl_D) (c0 : Nat) {a : Nat} {σ σ' : cl_S} (ha : (σ.2.2.2.1 a).1 = 117) (h : fc_X1_init a σ = some σ') : cl_Met true l D c0 yX1_init cX1_init 1 none 1 20 [.ref (c0 + a)] σ none cl_no σ' :=
  cl_of (by decide) (Nat.le_of_ble_eq_true rfl) (fun p e s m args below meth c ls C hn G hl => wc_X1_init_0 C hn h G ha hl)
abbrev cX1_nextWord : ByteArray := prog_3_method_3_code
def yX1_nextWord : MethodName := ⟨RX1, "nextWord", "(II)I"⟩
theorem dX1_nextWord_0 : decode cX1_nextWord 0 = .ok (.aload_n 0, 1) := by decide +kernel
theorem dX1_nextWord_1 : decode cX1_nextWord 1 = .ok (.getfield 55, 3) := by decide +kernel
theorem dX1_nextWord_4 : decode cX1_nextWord 4 = .ok (.ifCond .lt 5, 3) := by decide +kernel
theorem dX1_nextWord_7 : decode cX1_nextWord 7 = .ok (.iload_n 1, 1) := by decide +kernel
theorem dX1_nextWord_8 : decode cX1_nextWord 8 = .ok (.ireturn, 1) := by decide +kernel
theorem dX1_nextWord_9 : decode cX1_nextWord 9 = .ok (.aload_n 0, 1) := by decide +kernel
theorem dX1_nextWord_10 : decode cX1_nextWord 10 = .ok (.getfield 52, 3) := by decide +kernel
theorem dX1_nextWord_13 : decode cX1_nextWord 13 = .ok (.aload_n 0, 1) := by decide +kernel
theorem dX1_nextWord_14 : decode cX1_nextWord 14 = .ok (.getfield 48, 3) := by decide +kernel
theorem dX1_nextWord_17 : decode cX1_nextWord 17 = .ok (.if_icmp .ge 29, 3) := by decide +kernel
theorem dX1_nextWord_20 : decode cX1_nextWord 20 = .ok (.aload_n 0, 1) := by decide +kernel
theorem dX1_nextWord_21 : decode cX1_nextWord 21 = .ok (.getfield 39, 3) := by decide +kernel
theorem dX1_nextWord_24 : decode cX1_nextWord 24 = .ok (.aload_n 0, 1) := by decide +kernel
theorem dX1_nextWord_25 : decode cX1_nextWord 25 = .ok (.getfield 52, 3) := by decide +kernel
theorem dX1_nextWord_28 : decode cX1_nextWord 28 = .ok (.iaload, 1) := by decide +kernel
theorem dX1_nextWord_29 : decode cX1_nextWord 29 = .ok (.iload_n 1, 1) := by decide +kernel
theorem dX1_nextWord_30 : decode cX1_nextWord 30 = .ok (.if_icmp .lt 16, 3) := by decide +kernel
theorem dX1_nextWord_33 : decode cX1_nextWord 33 = .ok (.aload_n 0, 1) := by decide +kernel
theorem dX1_nextWord_34 : decode cX1_nextWord 34 = .ok (.getfield 39, 3) := by decide +kernel
theorem dX1_nextWord_37 : decode cX1_nextWord 37 = .ok (.aload_n 0, 1) := by decide +kernel
theorem dX1_nextWord_38 : decode cX1_nextWord 38 = .ok (.getfield 52, 3) := by decide +kernel
theorem dX1_nextWord_41 : decode cX1_nextWord 41 = .ok (.iaload, 1) := by decide +kernel
theorem dX1_nextWord_42 : decode cX1_nextWord 42 = .ok (.iload_n 2, 1) := by decide +kernel
theorem dX1_nextWord_43 : decode cX1_nextWord 43 = .ok (.if_icmp .le 13, 3) := by decide +kernel
theorem dX1_nextWord_46 : decode cX1_nextWord 46 = .ok (.aload_n 0, 1) := by decide +kernel
theorem dX1_nextWord_47 : decode cX1_nextWord 47 = .ok (.aload_n 0, 1) := by decide +kernel
theorem dX1_nextWord_48 : decode cX1_nextWord 48 = .ok (.getfield 52, 3) := by decide +kernel
theorem dX1_nextWord_51 : decode cX1_nextWord 51 = .ok (.putfield 55, 3) := by decide +kernel
theorem dX1_nextWord_54 : decode cX1_nextWord 54 = .ok (.iload_n 1, 1) := by decide +kernel
theorem dX1_nextWord_55 : decode cX1_nextWord 55 = .ok (.ireturn, 1) := by decide +kernel
theorem dX1_nextWord_56 : decode cX1_nextWord 56 = .ok (.aload_n 0, 1) := by decide +kernel
theorem dX1_nextWord_57 : decode cX1_nextWord 57 = .ok (.dup, 1) := by decide +kernel
theorem dX1_nextWord_58 : decode cX1_nextWord 58 = .ok (.getfield 52, 3) := by decide +kernel
theorem dX1_nextWord_61 : decode cX1_nextWord 61 = .ok (.iconst 1, 1) := by decide +kernel
theorem dX1_nextWord_62 : decode cX1_nextWord 62 = .ok (.iadd, 1) := by decide +kernel
theorem dX1_nextWord_63 : decode cX1_nextWord 63 = .ok (.putfield 52, 3) := by decide +kernel
theorem dX1_nextWord_66 : decode cX1_nextWord 66 = .ok (.aload_n 0, 1) := by decide +kernel
theorem dX1_nextWord_67 : decode cX1_nextWord 67 = .ok (.getfield 39, 3) := by decide +kernel
theorem dX1_nextWord_70 : decode cX1_nextWord 70 = .ok (.aload_n 0, 1) := by decide +kernel
theorem dX1_nextWord_71 : decode cX1_nextWord 71 = .ok (.getfield 52, 3) := by decide +kernel
theorem dX1_nextWord_74 : decode cX1_nextWord 74 = .ok (.iconst 1, 1) := by decide +kernel
theorem dX1_nextWord_75 : decode cX1_nextWord 75 = .ok (.isub, 1) := by decide +kernel
theorem dX1_nextWord_76 : decode cX1_nextWord 76 = .ok (.iaload, 1) := by decide +kernel
theorem dX1_nextWord_77 : decode cX1_nextWord 77 = .ok (.ireturn, 1) := by decide +kernel
theorem cc_X1_nextWord : Cond.code yX1_nextWord cX1_nextWord 3 (some .int) ∈ rf_tb := rf_at 1017 (by decide +kernel) (by decide +kernel)
noncomputable def bc_X1_nextWord_46 (a : Nat) (x1 : Int32) (σ : cl_S) : Option (Int32 × cl_S) := vl (cl_w σ a 15 (σ.1 a 14)) (fun σ_1 => some (x1, σ_1))
set_option maxHeartbeats 4000000 in
theorem wc_X1_nextWord_46 (C : cl_C D p s m args meth c cX1_nextWord 3 (some .int) RX1) {r : Int32} {a : Nat} {x1 : Int32} {σ0 σ σ' : cl_S} {T : Nat → Nat × Nat} {H : Heap} {locs : List Loc} {ls : Array Slot} {cells slots : Nat} (h : bc_X1_nextWord_46 a x1 σ = some (r, σ')) (G : cl_G true D c0 ({ frames := 0, cells := σ0.2.2.2.2.2.1, slots := σ0.2.2.2.2.2.2, locals := 0 }) s σ0.2.2.2.1 T σ H locs cells slots) (ha : (T a).1 = 17) (hl : lv_has ls 3 [(0, .ref (c0 + a)), (1, .int x1)]) : W p l e ({ frames := 0, cells := σ0.2.2.2.2.2.1, slots := σ0.2.2.2.2.2.2, locals := 0 }) s m args below meth c H locs cells slots (MQ below (cl_Q true D c0 (some (.int r)) cl_no σ0 σ') args s (σ0.2.2.2.2.2.1 - σ'.2.2.2.2.2.1) (σ0.2.2.2.2.2.2 - σ'.2.2.2.2.2.2) (cl_A c0 σ0.2.2.2.1 s.heap.size)) (F0 m 46 ls []) := by
  unfold bc_X1_nextWord_46 at h
  refine lv_aload_n C.1 C.2.1 dX1_nextWord_46 rfl (lv_at hl 0 rfl) ?_
  refine lv_aload_n C.1 C.2.1 dX1_nextWord_47 rfl (lv_at hl 0 rfl) ?_
  refine cg_1_52 C G ha dX1_nextWord_48 ?_
  refine cp_1_55 C G ha dX1_nextWord_51 (fun H locs G_2 => ?_)
  refine cl_nm G_2 h (fun σ_1 G_3 h_4 => ?_)
  refine lv_iload_n C.1 C.2.1 dX1_nextWord_54 rfl (lv_at hl 1 rfl) ?_
  exact cl_iret ⟨rfl, rfl⟩ rfl C G_3 h_4 dX1_nextWord_55
noncomputable def bc_X1_nextWord_0 (a : Nat) (x1 : Int32) (x2 : Int32) (σ : cl_S) : Option (Int32 × cl_S) := (if (σ.1 a 15) < 0 then (if (σ.1 a 13) ≤ (σ.1 a 14) then bc_X1_nextWord_46 a x1 σ else vl (σ.2.2.1 a 12) (fun r_6 => nn r_6 (fun a_9 => ix (σ.1 a 14) (σ.2.2.2.1 a_9).2 ((if (σ.1 a_9 (σ.1 a 14).toNatClampNeg) < x1 then bc_X1_nextWord_46 a x1 σ else vl (σ.2.2.1 a 12) (fun r_15 => nn r_15 (fun a_18 => ix (σ.1 a 14) (σ.2.2.2.1 a_18).2 ((if (σ.1 a_18 (σ.1 a 14).toNatClampNeg) ≤ x2 then vl (cl_w σ a 14 ((σ.1 a 14) + (1:Int32))) (fun σ_23 => vl (σ_23.2.2.1 a 12) (fun r_28 => nn r_28 (fun a_31 => ix ((σ_23.1 a 14) - (1:Int32)) (σ_23.2.2.2.1 a_31).2 (some ((σ_23.1 a_31 ((σ_23.1 a 14) - (1:Int32)).toNatClampNeg), σ_23))))) else bc_X1_nextWord_46 a x1 σ))))))))) else some (x1, σ))
set_option maxHeartbeats 4000000 in
theorem wc_X1_nextWord_0 (C : cl_C D p s m args meth c cX1_nextWord 3 (some .int) RX1) {r : Int32} {a : Nat} {x1 : Int32} {x2 : Int32} {σ0 σ σ' : cl_S} {T : Nat → Nat × Nat} {H : Heap} {locs : List Loc} {ls : Array Slot} {cells slots : Nat} (h : bc_X1_nextWord_0 a x1 x2 σ = some (r, σ')) (G : cl_G true D c0 ({ frames := 0, cells := σ0.2.2.2.2.2.1, slots := σ0.2.2.2.2.2.2, locals := 0 }) s σ0.2.2.2.1 T σ H locs cells slots) (ha : (T a).1 = 17) (hl : lv_has ls 3 [(0, .ref (c0 + a)), (1, .int x1), (2, .int x2)]) : W p l e ({ frames := 0, cells := σ0.2.2.2.2.2.1, slots := σ0.2.2.2.2.2.2, locals := 0 }) s m args below meth c H locs cells slots (MQ below (cl_Q true D c0 (some (.int r)) cl_no σ0 σ') args s (σ0.2.2.2.2.2.1 - σ'.2.2.2.2.2.1) (σ0.2.2.2.2.2.2 - σ'.2.2.2.2.2.2) (cl_A c0 σ0.2.2.2.1 s.heap.size)) (F0 m 0 ls []) := by
  unfold bc_X1_nextWord_0 at h
  refine lv_aload_n C.1 C.2.1 dX1_nextWord_0 rfl (lv_at hl 0 rfl) ?_
  refine cg_1_55 C G ha dX1_nextWord_1 ?_
  refine lv_if_lt (tgt := 9) C.1 C.2.1 dX1_nextWord_4 (by decide) (fun hc => ?_) (fun hc => ?_)
  · rw [if_pos hc] at h
    refine lv_aload_n C.1 C.2.1 dX1_nextWord_9 rfl (lv_at hl 0 rfl) ?_
    refine cg_1_52 C G ha dX1_nextWord_10 ?_
    refine lv_aload_n C.1 C.2.1 dX1_nextWord_13 rfl (lv_at hl 0 rfl) ?_
    refine cg_1_48 C G ha dX1_nextWord_14 ?_
    refine lv_icmp_ge (tgt := 46) C.1 C.2.1 dX1_nextWord_17 (by decide) (fun hc => ?_) (fun hc => ?_)
    · rw [if_pos hc] at h
      exact wc_X1_nextWord_46 C h G ha (lv_sub hl [0, 1] rfl)
    · rw [if_neg hc] at h
      refine lv_aload_n C.1 C.2.1 dX1_nextWord_20 rfl (lv_at hl 0 rfl) ?_
      refine cg_1_39 C G ha dX1_nextWord_21 (fun t_5 => ?_)
      refine vt_r (K := 1) t_5 h (fun r_6 t_7 h_8 => ?_)
      refine lv_aload_n C.1 C.2.1 dX1_nextWord_24 rfl (lv_at hl 0 rfl) ?_
      refine cg_1_52 C G ha dX1_nextWord_25 ?_
      obtain ⟨a_9, rfl, h_11⟩ := nn_some h_8
      have t_10 := t_7 _ rfl
      have t_12 : T a_9 = (1, (σ.2.2.2.1 a_9).2) := by rw [G.1]; exact Prod.ext t_10 rfl
      obtain ⟨hi, h_13⟩ := ix_some h_11
      refine cl_iald C G t_12 hi dX1_nextWord_28 ?_
      refine lv_iload_n C.1 C.2.1 dX1_nextWord_29 rfl (lv_at hl 1 rfl) ?_
      refine lv_icmp_lt (tgt := 46) C.1 C.2.1 dX1_nextWord_30 (by decide) (fun hc => ?_) (fun hc => ?_)
      · rw [if_pos hc] at h_13
        exact wc_X1_nextWord_46 C h_13 G ha (lv_sub hl [0, 1] rfl)
      · rw [if_neg hc] at h_13
        refine lv_aload_n C.1 C.2.1 dX1_nextWord_33 rfl (lv_at hl 0 rfl) ?_
        refine cg_1_39 C G ha dX1_nextWord_34 (fun t_14 => ?_)
        refine vt_r (K := 1) t_14 h_13 (fun r_15 t_16 h_17 => ?_)
        refine lv_aload_n C.1 C.2.1 dX1_nextWord_37 rfl (lv_at hl 0 rfl) ?_
        refine cg_1_52 C G ha dX1_nextWord_38 ?_
        obtain ⟨a_18, rfl, h_20⟩ := nn_some h_17
        have t_19 := t_16 _ rfl
        have t_21 : T a_18 = (1, (σ.2.2.2.1 a_18).2) := by rw [G.1]; exact Prod.ext t_19 rfl
        obtain ⟨hi, h_22⟩ := ix_some h_20
        refine cl_iald C G t_21 hi dX1_nextWord_41 ?_
        refine lv_iload_n C.1 C.2.1 dX1_nextWord_42 rfl (lv_at hl 2 rfl) ?_
        refine lv_icmp_le (tgt := 56) C.1 C.2.1 dX1_nextWord_43 (by decide) (fun hc => ?_) (fun hc => ?_)
        · rw [if_pos hc] at h_22
          refine lv_aload_n C.1 C.2.1 dX1_nextWord_56 rfl (lv_at hl 0 rfl) ?_
          refine lv_dup C.1 C.2.1 dX1_nextWord_57 rfl ?_
          refine cg_1_52 C G ha dX1_nextWord_58 ?_
          refine lv_iconst (v := (1:Int32)) C.1 C.2.1 dX1_nextWord_61 (by decide) ?_
          refine lv_iadd C.1 C.2.1 dX1_nextWord_62 ?_
          refine cp_1_52 C G ha dX1_nextWord_63 (fun H locs G_24 => ?_)
          refine cl_nm G_24 h_22 (fun σ_23 G_25 h_26 => ?_)
          refine lv_aload_n C.1 C.2.1 dX1_nextWord_66 rfl (lv_at hl 0 rfl) ?_
          refine cg_1_39 C G_25 ha dX1_nextWord_67 (fun t_27 => ?_)
          refine vt_r (K := 1) t_27 h_26 (fun r_28 t_29 h_30 => ?_)
          refine lv_aload_n C.1 C.2.1 dX1_nextWord_70 rfl (lv_at hl 0 rfl) ?_
          refine cg_1_52 C G_25 ha dX1_nextWord_71 ?_
          refine lv_iconst (v := (1:Int32)) C.1 C.2.1 dX1_nextWord_74 (by decide) ?_
          refine lv_isub C.1 C.2.1 dX1_nextWord_75 ?_
          obtain ⟨a_31, rfl, h_33⟩ := nn_some h_30
          have t_32 := t_29 _ rfl
          have t_34 : T a_31 = (1, (σ_23.2.2.2.1 a_31).2) := by rw [G_25.1]; exact Prod.ext t_32 rfl
          obtain ⟨hi, h_35⟩ := ix_some h_33
          refine cl_iald C G_25 t_34 hi dX1_nextWord_76 ?_
          exact cl_iret ⟨rfl, rfl⟩ rfl C G_25 h_35 dX1_nextWord_77
        · rw [if_neg hc] at h_22
          exact wc_X1_nextWord_46 C h_22 G ha (lv_sub hl [0, 1] rfl)
  · rw [if_neg hc] at h
    refine lv_iload_n C.1 C.2.1 dX1_nextWord_7 rfl (lv_at hl 1 rfl) ?_
    exact cl_iret ⟨rfl, rfl⟩ rfl C G h dX1_nextWord_8
noncomputable def fc_X1_nextWord (a : Nat) (x1 : Int32) (x2 : Int32) (σ : cl_S) : Option (Int32 × cl_S) := bc_X1_nextWord_0 a x1 x2 σ
theorem kc_X1_nextWord (l : Launch) (D : cl_D) (c0 : Nat) {r : Int32} {a : Nat} {x1 : Int32} {x2 : Int32} {σ σ' : cl_S} (ha : (σ.2.2.2.1 a).1 = 17) (h : fc_X1_nextWord a x1 x2 σ = some (r, σ')) : cl_Met true l D c0 yX1_nextWord cX1_nextWord 3 (some .int) 0 0 [.ref (c0 + a), .int x1, .int x2] σ (some (.int r)) cl_no σ' :=
  cl_of (by decide) (Nat.le_of_ble_eq_true rfl) (fun p e s m args below meth c ls C hn G hl => wc_X1_nextWord_0 C h G ha hl)
abbrev cX1_refuseLast : ByteArray := prog_3_method_4_code
def yX1_refuseLast : MethodName := ⟨RX1, "refuseLast", "()V"⟩
theorem dX1_refuseLast_0 : decode cX1_refuseLast 0 = .ok (.aload_n 0, 1) := by decide +kernel
theorem dX1_refuseLast_1 : decode cX1_refuseLast 1 = .ok (.getfield 55, 3) := by decide +kernel
theorem dX1_refuseLast_4 : decode cX1_refuseLast 4 = .ok (.ifCond .ge 13, 3) := by decide +kernel
theorem dX1_refuseLast_7 : decode cX1_refuseLast 7 = .ok (.aload_n 0, 1) := by decide +kernel
theorem dX1_refuseLast_8 : decode cX1_refuseLast 8 = .ok (.aload_n 0, 1) := by decide +kernel
theorem dX1_refuseLast_9 : decode cX1_refuseLast 9 = .ok (.getfield 52, 3) := by decide +kernel
theorem dX1_refuseLast_12 : decode cX1_refuseLast 12 = .ok (.iconst 1, 1) := by decide +kernel
theorem dX1_refuseLast_13 : decode cX1_refuseLast 13 = .ok (.isub, 1) := by decide +kernel
theorem dX1_refuseLast_14 : decode cX1_refuseLast 14 = .ok (.putfield 55, 3) := by decide +kernel
theorem dX1_refuseLast_17 : decode cX1_refuseLast 17 = .ok (.return_, 1) := by decide +kernel
theorem cc_X1_refuseLast : Cond.code yX1_refuseLast cX1_refuseLast 1 none ∈ rf_tb := rf_at 1025 (by decide +kernel) (by decide +kernel)
noncomputable def bc_X1_refuseLast_0 (a : Nat) (σ : cl_S) : Option (cl_S) := (if 0 ≤ (σ.1 a 15) then some σ else vl (cl_w σ a 15 ((σ.1 a 14) - (1:Int32))) (fun σ_1 => some σ_1))
set_option maxHeartbeats 4000000 in
theorem wc_X1_refuseLast_0 (C : cl_C D p s m args meth c cX1_refuseLast 1 none RX1) {a : Nat} {σ0 σ σ' : cl_S} {T : Nat → Nat × Nat} {H : Heap} {locs : List Loc} {ls : Array Slot} {cells slots : Nat} (h : bc_X1_refuseLast_0 a σ = some σ') (G : cl_G true D c0 ({ frames := 0, cells := σ0.2.2.2.2.2.1, slots := σ0.2.2.2.2.2.2, locals := 0 }) s σ0.2.2.2.1 T σ H locs cells slots) (ha : (T a).1 = 17) (hl : lv_has ls 1 [(0, .ref (c0 + a))]) : W p l e ({ frames := 0, cells := σ0.2.2.2.2.2.1, slots := σ0.2.2.2.2.2.2, locals := 0 }) s m args below meth c H locs cells slots (MQ below (cl_Q true D c0 none cl_no σ0 σ') args s (σ0.2.2.2.2.2.1 - σ'.2.2.2.2.2.1) (σ0.2.2.2.2.2.2 - σ'.2.2.2.2.2.2) (cl_A c0 σ0.2.2.2.1 s.heap.size)) (F0 m 0 ls []) := by
  unfold bc_X1_refuseLast_0 at h
  refine lv_aload_n C.1 C.2.1 dX1_refuseLast_0 rfl (lv_at hl 0 rfl) ?_
  refine cg_1_55 C G ha dX1_refuseLast_1 ?_
  refine lv_if_ge (tgt := 17) C.1 C.2.1 dX1_refuseLast_4 (by decide) (fun hc => ?_) (fun hc => ?_)
  · rw [if_pos hc] at h
    exact cl_vret ⟨rfl, rfl⟩ rfl C G h dX1_refuseLast_17
  · rw [if_neg hc] at h
    refine lv_aload_n C.1 C.2.1 dX1_refuseLast_7 rfl (lv_at hl 0 rfl) ?_
    refine lv_aload_n C.1 C.2.1 dX1_refuseLast_8 rfl (lv_at hl 0 rfl) ?_
    refine cg_1_52 C G ha dX1_refuseLast_9 ?_
    refine lv_iconst (v := (1:Int32)) C.1 C.2.1 dX1_refuseLast_12 (by decide) ?_
    refine lv_isub C.1 C.2.1 dX1_refuseLast_13 ?_
    refine cp_1_55 C G ha dX1_refuseLast_14 (fun H locs G_2 => ?_)
    refine cl_nm G_2 h (fun σ_1 G_3 h_4 => ?_)
    exact cl_vret ⟨rfl, rfl⟩ rfl C G_3 h_4 dX1_refuseLast_17
noncomputable def fc_X1_refuseLast (a : Nat) (σ : cl_S) : Option (cl_S) := bc_X1_refuseLast_0 a σ
theorem kc_X1_refuseLast (l : Launch) (D : cl_D) (c0 : Nat) {a : Nat} {σ σ' : cl_S} (ha : (σ.2.2.2.1 a).1 = 17) (h : fc_X1_refuseLast a σ = some σ') : cl_Met true l D c0 yX1_refuseLast cX1_refuseLast 1 none 0 0 [.ref (c0 + a)] σ none cl_no σ' :=
  cl_of (by decide) (Nat.le_of_ble_eq_true rfl) (fun p e s m args below meth c ls C hn G hl => wc_X1_refuseLast_0 C h G ha hl)
abbrev cX1_readPartition : ByteArray := prog_3_method_5_code
def yX1_readPartition : MethodName := ⟨RX1, "readPartition", "(II)V"⟩
theorem dX1_readPartition_0 : decode cX1_readPartition 0 = .ok (.aload_n 0, 1) := by decide +kernel
theorem dX1_readPartition_1 : decode cX1_readPartition 1 = .ok (.getfield 9, 3) := by decide +kernel
theorem dX1_readPartition_4 : decode cX1_readPartition 4 = .ok (.iload_n 1, 1) := by decide +kernel
theorem dX1_readPartition_5 : decode cX1_readPartition 5 = .ok (.aload_n 0, 1) := by decide +kernel
theorem dX1_readPartition_6 : decode cX1_readPartition 6 = .ok (.iconst 0, 1) := by decide +kernel
theorem dX1_readPartition_7 : decode cX1_readPartition 7 = .ok (.sipush 8176, 3) := by decide +kernel
theorem dX1_readPartition_10 : decode cX1_readPartition 10 = .ok (.invokevirtual 58, 3) := by decide +kernel
theorem dX1_readPartition_13 : decode cX1_readPartition 13 = .ok (.iastore, 1) := by decide +kernel
theorem dX1_readPartition_14 : decode cX1_readPartition 14 = .ok (.aload_n 0, 1) := by decide +kernel
theorem dX1_readPartition_15 : decode cX1_readPartition 15 = .ok (.getfield 15, 3) := by decide +kernel
theorem dX1_readPartition_18 : decode cX1_readPartition 18 = .ok (.iload_n 1, 1) := by decide +kernel
theorem dX1_readPartition_19 : decode cX1_readPartition 19 = .ok (.aload_n 0, 1) := by decide +kernel
theorem dX1_readPartition_20 : decode cX1_readPartition 20 = .ok (.bipush 16, 2) := by decide +kernel
theorem dX1_readPartition_22 : decode cX1_readPartition 22 = .ok (.sipush 2048, 3) := by decide +kernel
theorem dX1_readPartition_25 : decode cX1_readPartition 25 = .ok (.sipush 8192, 3) := by decide +kernel
theorem dX1_readPartition_28 : decode cX1_readPartition 28 = .ok (.aload_n 0, 1) := by decide +kernel
theorem dX1_readPartition_29 : decode cX1_readPartition 29 = .ok (.getfield 9, 3) := by decide +kernel
theorem dX1_readPartition_32 : decode cX1_readPartition 32 = .ok (.iload_n 1, 1) := by decide +kernel
theorem dX1_readPartition_33 : decode cX1_readPartition 33 = .ok (.iaload, 1) := by decide +kernel
theorem dX1_readPartition_34 : decode cX1_readPartition 34 = .ok (.isub, 1) := by decide +kernel
theorem dX1_readPartition_35 : decode cX1_readPartition 35 = .ok (.invokestatic 42, 3) := by decide +kernel
theorem dX1_readPartition_38 : decode cX1_readPartition 38 = .ok (.invokevirtual 58, 3) := by decide +kernel
theorem dX1_readPartition_41 : decode cX1_readPartition 41 = .ok (.iastore, 1) := by decide +kernel
theorem dX1_readPartition_42 : decode cX1_readPartition 42 = .ok (.iconst 0, 1) := by decide +kernel
theorem dX1_readPartition_43 : decode cX1_readPartition 43 = .ok (.istore_n 3, 1) := by decide +kernel
theorem dX1_readPartition_44 : decode cX1_readPartition 44 = .ok (.iload_n 3, 1) := by decide +kernel
theorem dX1_readPartition_45 : decode cX1_readPartition 45 = .ok (.iload_n 1, 1) := by decide +kernel
theorem dX1_readPartition_46 : decode cX1_readPartition 46 = .ok (.if_icmp .ge 57, 3) := by decide +kernel
theorem dX1_readPartition_49 : decode cX1_readPartition 49 = .ok (.aload_n 0, 1) := by decide +kernel
theorem dX1_readPartition_50 : decode cX1_readPartition 50 = .ok (.getfield 9, 3) := by decide +kernel
theorem dX1_readPartition_53 : decode cX1_readPartition 53 = .ok (.iload_n 1, 1) := by decide +kernel
theorem dX1_readPartition_54 : decode cX1_readPartition 54 = .ok (.iaload, 1) := by decide +kernel
theorem dX1_readPartition_55 : decode cX1_readPartition 55 = .ok (.aload_n 0, 1) := by decide +kernel
theorem dX1_readPartition_56 : decode cX1_readPartition 56 = .ok (.getfield 9, 3) := by decide +kernel
theorem dX1_readPartition_59 : decode cX1_readPartition 59 = .ok (.iload_n 3, 1) := by decide +kernel
theorem dX1_readPartition_60 : decode cX1_readPartition 60 = .ok (.iaload, 1) := by decide +kernel
theorem dX1_readPartition_61 : decode cX1_readPartition 61 = .ok (.aload_n 0, 1) := by decide +kernel
theorem dX1_readPartition_62 : decode cX1_readPartition 62 = .ok (.getfield 15, 3) := by decide +kernel
theorem dX1_readPartition_65 : decode cX1_readPartition 65 = .ok (.iload_n 3, 1) := by decide +kernel
theorem dX1_readPartition_66 : decode cX1_readPartition 66 = .ok (.iaload, 1) := by decide +kernel
theorem dX1_readPartition_67 : decode cX1_readPartition 67 = .ok (.iadd, 1) := by decide +kernel
theorem dX1_readPartition_68 : decode cX1_readPartition 68 = .ok (.if_icmp .ge 29, 3) := by decide +kernel
theorem dX1_readPartition_71 : decode cX1_readPartition 71 = .ok (.aload_n 0, 1) := by decide +kernel
theorem dX1_readPartition_72 : decode cX1_readPartition 72 = .ok (.getfield 9, 3) := by decide +kernel
theorem dX1_readPartition_75 : decode cX1_readPartition 75 = .ok (.iload_n 3, 1) := by decide +kernel
theorem dX1_readPartition_76 : decode cX1_readPartition 76 = .ok (.iaload, 1) := by decide +kernel
theorem dX1_readPartition_77 : decode cX1_readPartition 77 = .ok (.aload_n 0, 1) := by decide +kernel
theorem dX1_readPartition_78 : decode cX1_readPartition 78 = .ok (.getfield 9, 3) := by decide +kernel
theorem dX1_readPartition_81 : decode cX1_readPartition 81 = .ok (.iload_n 1, 1) := by decide +kernel
theorem dX1_readPartition_82 : decode cX1_readPartition 82 = .ok (.iaload, 1) := by decide +kernel
theorem dX1_readPartition_83 : decode cX1_readPartition 83 = .ok (.aload_n 0, 1) := by decide +kernel
theorem dX1_readPartition_84 : decode cX1_readPartition 84 = .ok (.getfield 15, 3) := by decide +kernel
theorem dX1_readPartition_87 : decode cX1_readPartition 87 = .ok (.iload_n 1, 1) := by decide +kernel
theorem dX1_readPartition_88 : decode cX1_readPartition 88 = .ok (.iaload, 1) := by decide +kernel
theorem dX1_readPartition_89 : decode cX1_readPartition 89 = .ok (.iadd, 1) := by decide +kernel
theorem dX1_readPartition_90 : decode cX1_readPartition 90 = .ok (.if_icmp .ge 7, 3) := by decide +kernel
theorem dX1_readPartition_93 : decode cX1_readPartition 93 = .ok (.aload_n 0, 1) := by decide +kernel
theorem dX1_readPartition_94 : decode cX1_readPartition 94 = .ok (.invokevirtual 82, 3) := by decide +kernel
theorem dX1_readPartition_97 : decode cX1_readPartition 97 = .ok (.iinc 3 1, 3) := by decide +kernel
theorem dX1_readPartition_100 : decode cX1_readPartition 100 = .ok (.goto (-56), 3) := by decide +kernel
theorem dX1_readPartition_103 : decode cX1_readPartition 103 = .ok (.aload_n 0, 1) := by decide +kernel
theorem dX1_readPartition_104 : decode cX1_readPartition 104 = .ok (.getfield 18, 3) := by decide +kernel
theorem dX1_readPartition_107 : decode cX1_readPartition 107 = .ok (.iload_n 1, 1) := by decide +kernel
theorem dX1_readPartition_108 : decode cX1_readPartition 108 = .ok (.aload_n 0, 1) := by decide +kernel
theorem dX1_readPartition_109 : decode cX1_readPartition 109 = .ok (.iconst 0, 1) := by decide +kernel
theorem dX1_readPartition_110 : decode cX1_readPartition 110 = .ok (.bipush 8, 2) := by decide +kernel
theorem dX1_readPartition_112 : decode cX1_readPartition 112 = .ok (.bipush 32, 2) := by decide +kernel
theorem dX1_readPartition_114 : decode cX1_readPartition 114 = .ok (.iload_n 2, 1) := by decide +kernel
theorem dX1_readPartition_115 : decode cX1_readPartition 115 = .ok (.isub, 1) := by decide +kernel
theorem dX1_readPartition_116 : decode cX1_readPartition 116 = .ok (.invokestatic 42, 3) := by decide +kernel
theorem dX1_readPartition_119 : decode cX1_readPartition 119 = .ok (.invokevirtual 58, 3) := by decide +kernel
theorem dX1_readPartition_122 : decode cX1_readPartition 122 = .ok (.iastore, 1) := by decide +kernel
theorem dX1_readPartition_123 : decode cX1_readPartition 123 = .ok (.return_, 1) := by decide +kernel
theorem cc_X1_readPartition : Cond.code yX1_readPartition cX1_readPartition 4 none ∈ rf_tb := rf_at 1021 (by decide +kernel) (by decide +kernel)
theorem cw_RX1_58 : cl_wV RX1 RX1 yX1_nextWord cX1_nextWord 3 (some .int) 58 2 := ⟨⟨rf_at 1014 (by decide +kernel) (by decide +kernel), rf_at 1016 (by decide +kernel) (by decide +kernel), rf_sel (q := (yX1_nextWord, 16)) 29 (by decide +kernel) (by decide +kernel), cc_X1_nextWord, rf_at 14 (by decide +kernel) (by decide +kernel)⟩, ⟨by decide, by decide, by decide +kernel⟩⟩
theorem cw_RX1_82 : cl_wV RX1 RX1 yX1_refuseLast cX1_refuseLast 1 none 82 0 := ⟨⟨rf_at 1022 (by decide +kernel) (by decide +kernel), rf_at 1024 (by decide +kernel) (by decide +kernel), rf_sel (q := (yX1_refuseLast, 16)) 31 (by decide +kernel) (by decide +kernel), cc_X1_refuseLast, rf_at 14 (by decide +kernel) (by decide +kernel)⟩, ⟨by decide, by decide, by decide +kernel⟩⟩
theorem mw_RX1_42 : Cond.methodLink RX1 42 Lib.Math.min.name ∈ rf_tb := rf_at 1013 (by decide +kernel) (by decide +kernel)
theorem mw_min_s : Cond.static Lib.Math.min.name ∈ rf_tb := rf_at 986 (by decide +kernel) (by decide +kernel)
theorem mw_min_c : Cond.code Lib.Math.min.name Lib.Math.min.code 2 (some .int) ∈ rf_tb := rf_at 987 (by decide +kernel) (by decide +kernel)
theorem mw_Math_i : Cond.initialized "java/lang/Math" ∈ rf_tb := rf_at 20 (by decide +kernel) (by decide +kernel)
noncomputable def bc_X1_readPartition_97i44 (a : Nat) (x1 : Int32) (x2 : Int32) (x3 : Int32) (σ : cl_S) : Option ((Int32 × cl_S) ⊕ (Int32 × cl_S)) := vl (x3 + (1:Int32)) (fun x3_34 => some (.inl (x3_34, σ)))
set_option maxHeartbeats 4000000 in
theorem wc_X1_readPartition_97i44 (C : cl_C D p s m args meth c cX1_readPartition 4 none RX1) {a : Nat} {x1 : Int32} {x2 : Int32} {x3 : Int32} {σ0 σ σ' : cl_S} {T : Nat → Nat × Nat} {H : Heap} {locs : List Loc} {ls : Array Slot} {cells slots : Nat} {o : (Int32 × cl_S) ⊕ (Int32 × cl_S)} (h : bc_X1_readPartition_97i44 a x1 x2 x3 σ = some o) (hP : Sum.elim (fun z : (Int32 × cl_S) => ∀ (T : Nat → Nat × Nat) (H : Heap) (locs : List Loc) (ls : Array Slot) (cells slots : Nat), cl_G true D c0 ({ frames := 1, cells := σ0.2.2.2.2.2.1, slots := σ0.2.2.2.2.2.2, locals := 22 }) s σ0.2.2.2.1 T z.2 H locs cells slots → (T a).1 = 17 → lv_has ls 4 [(0, .ref (c0 + a)), (1, .int x1), (2, .int x2), (3, .int (z.1))] → W p l e ({ frames := 1, cells := σ0.2.2.2.2.2.1, slots := σ0.2.2.2.2.2.2, locals := 22 }) s m args below meth c H locs cells slots (MQ below (cl_Q true D c0 none cl_no σ0 σ') args s (σ0.2.2.2.2.2.1 - σ'.2.2.2.2.2.1) (σ0.2.2.2.2.2.2 - σ'.2.2.2.2.2.2) (cl_A c0 σ0.2.2.2.1 s.heap.size)) (F0 m 44 ls [])) (fun z : (Int32 × cl_S) => ∀ (T : Nat → Nat × Nat) (H : Heap) (locs : List Loc) (ls : Array Slot) (cells slots : Nat), cl_G true D c0 ({ frames := 1, cells := σ0.2.2.2.2.2.1, slots := σ0.2.2.2.2.2.2, locals := 22 }) s σ0.2.2.2.1 T z.2 H locs cells slots → (T a).1 = 17 → lv_has ls 4 [(0, .ref (c0 + a)), (1, .int x1), (2, .int x2), (3, .int (z.1))] → W p l e ({ frames := 1, cells := σ0.2.2.2.2.2.1, slots := σ0.2.2.2.2.2.2, locals := 22 }) s m args below meth c H locs cells slots (MQ below (cl_Q true D c0 none cl_no σ0 σ') args s (σ0.2.2.2.2.2.1 - σ'.2.2.2.2.2.1) (σ0.2.2.2.2.2.2 - σ'.2.2.2.2.2.2) (cl_A c0 σ0.2.2.2.1 s.heap.size)) (F0 m 103 ls [])) o) (G : cl_G true D c0 ({ frames := 1, cells := σ0.2.2.2.2.2.1, slots := σ0.2.2.2.2.2.2, locals := 22 }) s σ0.2.2.2.1 T σ H locs cells slots) (ha : (T a).1 = 17) (hl : lv_has ls 4 [(0, .ref (c0 + a)), (1, .int x1), (2, .int x2), (3, .int x3)]) : W p l e ({ frames := 1, cells := σ0.2.2.2.2.2.1, slots := σ0.2.2.2.2.2.2, locals := 22 }) s m args below meth c H locs cells slots (MQ below (cl_Q true D c0 none cl_no σ0 σ') args s (σ0.2.2.2.2.2.1 - σ'.2.2.2.2.2.1) (σ0.2.2.2.2.2.2 - σ'.2.2.2.2.2.2) (cl_A c0 σ0.2.2.2.1 s.heap.size)) (F0 m 97 ls []) := by
  unfold bc_X1_readPartition_97i44 at h
  refine vl_ex h (fun x3_34 ey h_35 => ?_)
  refine lv_iinc (v := x3_34) (lv' := [(3, .int x3_34), (0, .ref (c0 + a)), (1, .int x1), (2, .int x2)]) C.1 C.2.1 dX1_readPartition_97 hl (k := 3) rfl (by rw [ey]; rfl) (by decide) rfl (fun ls hl_36 => ?_)
  refine lv_goto (tgt := 44) C.1 C.2.1 dX1_readPartition_100 (by decide) ?_
  cases h_35
  exact hP _ _ _ _ _ _ G ha (lv_sub hl_36 [1, 2, 3, 0] rfl)
noncomputable def lc_X1_readPartition_44 (a : Nat) (x1 : Int32) (x2 : Int32) (x3 : Int32) (σ : cl_S) : Option ((Int32 × cl_S) ⊕ (Int32 × cl_S)) := (if x1 ≤ x3 then some (.inr (x3, σ)) else ix x1 8 (ix x3 8 (ix x3 8 ((if ((σ.1 (a + 1) x3.toNatClampNeg) + (σ.1 (a + 2) x3.toNatClampNeg)) ≤ (σ.1 (a + 1) x1.toNatClampNeg) then bc_X1_readPartition_97i44 a x1 x2 x3 σ else ix x3 8 (ix x1 8 (ix x1 8 ((if ((σ.1 (a + 1) x1.toNatClampNeg) + (σ.1 (a + 2) x1.toNatClampNeg)) ≤ (σ.1 (a + 1) x3.toNatClampNeg) then bc_X1_readPartition_97i44 a x1 x2 x3 σ else bd1 (fc_X1_refuseLast a σ) (fun σ_43 => bc_X1_readPartition_97i44 a x1 x2 x3 σ_43))))))))))
noncomputable def ec_X1_readPartition_44 (a : Nat) (x1 : Int32) (x2 : Int32) (x3 : Int32) (σ : cl_S) : Option (cl_S) := bd2 (fc_X1_nextWord a (0:Int32) (if ((32:Int32) - x2) < (8:Int32) then ((32:Int32) - x2) else (8:Int32)) σ) (fun r_50 σ_49 => ix x1 8 (vl (cl_w σ_49 (a + 3) x1.toNatClampNeg r_50) (fun σ_55 => some σ_55)))
noncomputable def bc_X1_readPartition_44 (a : Nat) (x1 : Int32) (x2 : Int32) (x3 : Int32) (σ : cl_S) : Option (cl_S) := (lp (fun z : (Int32 × cl_S) => lc_X1_readPartition_44 a x1 x2 z.1 z.2) (x3, σ)).bind (fun z => ec_X1_readPartition_44 a x1 x2 z.1 z.2)
set_option maxHeartbeats 4000000 in
theorem wc_X1_readPartition_44 (C : cl_C D p s m args meth c cX1_readPartition 4 none RX1) {a : Nat} {x1 : Int32} {x2 : Int32} {x3 : Int32} {σ0 σ σ' : cl_S} {T : Nat → Nat × Nat} {H : Heap} {locs : List Loc} {ls : Array Slot} {cells slots : Nat} (h : bc_X1_readPartition_44 a x1 x2 x3 σ = some σ') (G : cl_G true D c0 ({ frames := 1, cells := σ0.2.2.2.2.2.1, slots := σ0.2.2.2.2.2.2, locals := 22 }) s σ0.2.2.2.1 T σ H locs cells slots) (ha : (T a).1 = 17) (hl : lv_has ls 4 [(0, .ref (c0 + a)), (1, .int x1), (2, .int x2), (3, .int x3)]) : W p l e ({ frames := 1, cells := σ0.2.2.2.2.2.1, slots := σ0.2.2.2.2.2.2, locals := 22 }) s m args below meth c H locs cells slots (MQ below (cl_Q true D c0 none cl_no σ0 σ') args s (σ0.2.2.2.2.2.1 - σ'.2.2.2.2.2.1) (σ0.2.2.2.2.2.2 - σ'.2.2.2.2.2.2) (cl_A c0 σ0.2.2.2.1 s.heap.size)) (F0 m 44 ls []) := by
  unfold bc_X1_readPartition_44 at h
  obtain ⟨y, hy, h⟩ := bd_some h
  have hE : (fun z : (Int32 × cl_S) => ∀ (T : Nat → Nat × Nat) (H : Heap) (locs : List Loc) (ls : Array Slot) (cells slots : Nat), cl_G true D c0 ({ frames := 1, cells := σ0.2.2.2.2.2.1, slots := σ0.2.2.2.2.2.2, locals := 22 }) s σ0.2.2.2.1 T z.2 H locs cells slots → (T a).1 = 17 → lv_has ls 4 [(0, .ref (c0 + a)), (1, .int x1), (2, .int x2), (3, .int (z.1))] → W p l e ({ frames := 1, cells := σ0.2.2.2.2.2.1, slots := σ0.2.2.2.2.2.2, locals := 22 }) s m args below meth c H locs cells slots (MQ below (cl_Q true D c0 none cl_no σ0 σ') args s (σ0.2.2.2.2.2.1 - σ'.2.2.2.2.2.1) (σ0.2.2.2.2.2.2 - σ'.2.2.2.2.2.2) (cl_A c0 σ0.2.2.2.1 s.heap.size)) (F0 m 103 ls [])) y := by
    clear hy G ha hl
    intro T H locs ls cells slots G ha hl
    obtain ⟨x3, σ⟩ := y
    dsimp only at h G ha hl
    unfold ec_X1_readPartition_44 at h
    refine lv_aload_n C.1 C.2.1 dX1_readPartition_103 rfl (lv_at hl 0 rfl) ?_
    refine cg_1_18 C G ha dX1_readPartition_104 (fun t_48 => ?_)
    refine lv_iload_n C.1 C.2.1 dX1_readPartition_107 rfl (lv_at hl 1 rfl) ?_
    refine lv_aload_n C.1 C.2.1 dX1_readPartition_108 rfl (lv_at hl 0 rfl) ?_
    refine lv_iconst (v := (0:Int32)) C.1 C.2.1 dX1_readPartition_109 (by decide) ?_
    refine lv_bipush (v := (8:Int32)) C.1 C.2.1 dX1_readPartition_110 (by decide) ?_
    refine lv_bipush (v := (32:Int32)) C.1 C.2.1 dX1_readPartition_112 (by decide) ?_
    refine lv_iload_n C.1 C.2.1 dX1_readPartition_114 rfl (lv_at hl 2 rfl) ?_
    refine lv_isub C.1 C.2.1 dX1_readPartition_115 ?_
    refine va_mmin C.1 C.2.1 (C.2.2.1.trans hl.1.symm) C.2.2.2.1 (C.2.2.2.2.1 _ mw_RX1_42) (C.2.2.2.2.1 _ mw_min_s) (C.2.2.2.2.1 _ mw_Math_i) (C.2.2.2.2.1 _ mw_min_c) (Nat.le_of_ble_eq_true rfl) (Nat.le_of_ble_eq_true rfl) (cl_le1 G) (cl_le2 G) dX1_readPartition_116 ?_
    obtain ⟨r_50, σ_49, hq, h_51⟩ := bd2_some h
    refine cl_callV (ci := 1) (rest := [.int x1, .ref (c0 + (a + 3))]) C G rfl ha cw_RX1_58 [.int (0:Int32), .int (if ((32:Int32) - x2) < (8:Int32) then ((32:Int32) - x2) else (8:Int32))] _ (kc_X1_nextWord l D c0 (by rw [G.1]; exact ha) hq) (Nat.le_of_ble_eq_true rfl) (Nat.le_of_ble_eq_true rfl) rfl rfl hl.1 (Nat.le_of_ble_eq_true rfl) dX1_readPartition_119 (fun T_52 H locs cells slots t_53 hu G_54 => ?_)
    have ha := hu.kind ha (by decide)
    have t_48 := cl_uparr hu t_48 (by decide)
    refine W.eq (g2 := F0 m 122 ls [.int r_50, .int x1, .ref (c0 + (a + 3))]) rfl ?_
    obtain ⟨hi, h_56⟩ := ix_some h_51
    refine cl_iast C G_54 t_48 hi dX1_readPartition_122 (fun H locs G_57 => ?_)
    refine cl_nm G_57 h_56 (fun σ_55 G_58 h_59 => ?_)
    exact cl_vret ⟨rfl, rfl⟩ rfl C G_58 h_59 dX1_readPartition_123
  refine lp_recE (fun z : (Int32 × cl_S) => ∀ (T : Nat → Nat × Nat) (H : Heap) (locs : List Loc) (ls : Array Slot) (cells slots : Nat), cl_G true D c0 ({ frames := 1, cells := σ0.2.2.2.2.2.1, slots := σ0.2.2.2.2.2.2, locals := 22 }) s σ0.2.2.2.1 T z.2 H locs cells slots → (T a).1 = 17 → lv_has ls 4 [(0, .ref (c0 + a)), (1, .int x1), (2, .int x2), (3, .int (z.1))] → W p l e ({ frames := 1, cells := σ0.2.2.2.2.2.1, slots := σ0.2.2.2.2.2.2, locals := 22 }) s m args below meth c H locs cells slots (MQ below (cl_Q true D c0 none cl_no σ0 σ') args s (σ0.2.2.2.2.2.1 - σ'.2.2.2.2.2.1) (σ0.2.2.2.2.2.2 - σ'.2.2.2.2.2.2) (cl_A c0 σ0.2.2.2.1 s.heap.size)) (F0 m 44 ls [])) (fun z : (Int32 × cl_S) => ∀ (T : Nat → Nat × Nat) (H : Heap) (locs : List Loc) (ls : Array Slot) (cells slots : Nat), cl_G true D c0 ({ frames := 1, cells := σ0.2.2.2.2.2.1, slots := σ0.2.2.2.2.2.2, locals := 22 }) s σ0.2.2.2.1 T z.2 H locs cells slots → (T a).1 = 17 → lv_has ls 4 [(0, .ref (c0 + a)), (1, .int x1), (2, .int x2), (3, .int (z.1))] → W p l e ({ frames := 1, cells := σ0.2.2.2.2.2.1, slots := σ0.2.2.2.2.2.2, locals := 22 }) s m args below meth c H locs cells slots (MQ below (cl_Q true D c0 none cl_no σ0 σ') args s (σ0.2.2.2.2.2.1 - σ'.2.2.2.2.2.1) (σ0.2.2.2.2.2.2 - σ'.2.2.2.2.2.2) (cl_A c0 σ0.2.2.2.1 s.heap.size)) (F0 m 103 ls [])) ?_ _ _ hy hE _ _ _ _ _ _ G ha hl
  clear hE hy G ha hl h
  intro z o h hP T H locs ls cells slots G ha hl
  obtain ⟨x3, σ⟩ := z
  dsimp only at h G ha hl
  unfold lc_X1_readPartition_44 at h
  refine lv_iload_n C.1 C.2.1 dX1_readPartition_44 rfl (lv_at hl 3 rfl) ?_
  refine lv_iload_n C.1 C.2.1 dX1_readPartition_45 rfl (lv_at hl 1 rfl) ?_
  refine lv_icmp_ge (tgt := 103) C.1 C.2.1 dX1_readPartition_46 (by decide) (fun hc => ?_) (fun hc => ?_)
  · rw [if_pos hc] at h
    cases h
    exact hP _ _ _ _ _ _ G ha (lv_sub hl [0, 1, 2, 3] rfl)
  · rw [if_neg hc] at h
    refine lv_aload_n C.1 C.2.1 dX1_readPartition_49 rfl (lv_at hl 0 rfl) ?_
    refine cg_1_9 C G ha dX1_readPartition_50 (fun t_28 => ?_)
    refine lv_iload_n C.1 C.2.1 dX1_readPartition_53 rfl (lv_at hl 1 rfl) ?_
    obtain ⟨hi, h_29⟩ := ix_some h
    refine cl_iald C G t_28 hi dX1_readPartition_54 ?_
    refine lv_aload_n C.1 C.2.1 dX1_readPartition_55 rfl (lv_at hl 0 rfl) ?_
    refine cg_1_9 C G ha dX1_readPartition_56 (fun t_30 => ?_)
    refine lv_iload_n C.1 C.2.1 dX1_readPartition_59 rfl (lv_at hl 3 rfl) ?_
    obtain ⟨hi, h_31⟩ := ix_some h_29
    refine cl_iald C G t_30 hi dX1_readPartition_60 ?_
    refine lv_aload_n C.1 C.2.1 dX1_readPartition_61 rfl (lv_at hl 0 rfl) ?_
    refine cg_1_15 C G ha dX1_readPartition_62 (fun t_32 => ?_)
    refine lv_iload_n C.1 C.2.1 dX1_readPartition_65 rfl (lv_at hl 3 rfl) ?_
    obtain ⟨hi, h_33⟩ := ix_some h_31
    refine cl_iald C G t_32 hi dX1_readPartition_66 ?_
    refine lv_iadd C.1 C.2.1 dX1_readPartition_67 ?_
    refine lv_icmp_ge (tgt := 97) C.1 C.2.1 dX1_readPartition_68 (by decide) (fun hc => ?_) (fun hc => ?_)
    · rw [if_pos hc] at h_33
      exact wc_X1_readPartition_97i44 C h_33 hP G ha (lv_sub hl [0, 1, 2, 3] rfl)
    · rw [if_neg hc] at h_33
      refine lv_aload_n C.1 C.2.1 dX1_readPartition_71 rfl (lv_at hl 0 rfl) ?_
      refine cg_1_9 C G ha dX1_readPartition_72 (fun t_37 => ?_)
      refine lv_iload_n C.1 C.2.1 dX1_readPartition_75 rfl (lv_at hl 3 rfl) ?_
      obtain ⟨hi, h_38⟩ := ix_some h_33
      refine cl_iald C G t_37 hi dX1_readPartition_76 ?_
      refine lv_aload_n C.1 C.2.1 dX1_readPartition_77 rfl (lv_at hl 0 rfl) ?_
      refine cg_1_9 C G ha dX1_readPartition_78 (fun t_39 => ?_)
      refine lv_iload_n C.1 C.2.1 dX1_readPartition_81 rfl (lv_at hl 1 rfl) ?_
      obtain ⟨hi, h_40⟩ := ix_some h_38
      refine cl_iald C G t_39 hi dX1_readPartition_82 ?_
      refine lv_aload_n C.1 C.2.1 dX1_readPartition_83 rfl (lv_at hl 0 rfl) ?_
      refine cg_1_15 C G ha dX1_readPartition_84 (fun t_41 => ?_)
      refine lv_iload_n C.1 C.2.1 dX1_readPartition_87 rfl (lv_at hl 1 rfl) ?_
      obtain ⟨hi, h_42⟩ := ix_some h_40
      refine cl_iald C G t_41 hi dX1_readPartition_88 ?_
      refine lv_iadd C.1 C.2.1 dX1_readPartition_89 ?_
      refine lv_icmp_ge (tgt := 97) C.1 C.2.1 dX1_readPartition_90 (by decide) (fun hc => ?_) (fun hc => ?_)
      · rw [if_pos hc] at h_42
        exact wc_X1_readPartition_97i44 C h_42 hP G ha (lv_sub hl [0, 1, 2, 3] rfl)
      · rw [if_neg hc] at h_42
        refine lv_aload_n C.1 C.2.1 dX1_readPartition_93 rfl (lv_at hl 0 rfl) ?_
        obtain ⟨σ_43, hq, h_44⟩ := bd1_some h_42
        refine cl_callV (ci := 1) (rest := []) C G rfl ha cw_RX1_82 [] _ (kc_X1_refuseLast l D c0 (by rw [G.1]; exact ha) hq) (Nat.le_of_ble_eq_true rfl) (Nat.le_of_ble_eq_true rfl) rfl rfl hl.1 (Nat.le_of_ble_eq_true rfl) dX1_readPartition_94 (fun T_45 H locs cells slots t_46 hu G_47 => ?_)
        have ha := hu.kind ha (by decide)
        refine W.eq (g2 := F0 m 97 ls []) rfl ?_
        exact wc_X1_readPartition_97i44 C h_44 hP G_47 ha (lv_sub hl [0, 1, 2, 3] rfl)
noncomputable def bc_X1_readPartition_0 (a : Nat) (x1 : Int32) (x2 : Int32) (σ : cl_S) : Option (cl_S) := bd2 (fc_X1_nextWord a (0:Int32) (8176:Int32) σ) (fun r_3 σ_2 => ix x1 8 (vl (cl_w σ_2 (a + 1) x1.toNatClampNeg r_3) (fun σ_8 => ix x1 8 (bd2 (fc_X1_nextWord a (16:Int32) (if ((8192:Int32) - (σ_8.1 (a + 1) x1.toNatClampNeg)) < (2048:Int32) then ((8192:Int32) - (σ_8.1 (a + 1) x1.toNatClampNeg)) else (2048:Int32)) σ_8) (fun r_17 σ_16 => ix x1 8 (vl (cl_w σ_16 (a + 2) x1.toNatClampNeg r_17) (fun σ_22 => bc_X1_readPartition_44 a x1 x2 (0:Int32) σ_22)))))))
set_option maxHeartbeats 4000000 in
theorem wc_X1_readPartition_0 (C : cl_C D p s m args meth c cX1_readPartition 4 none RX1) {a : Nat} {x1 : Int32} {x2 : Int32} {σ0 σ σ' : cl_S} {T : Nat → Nat × Nat} {H : Heap} {locs : List Loc} {ls : Array Slot} {cells slots : Nat} (h : bc_X1_readPartition_0 a x1 x2 σ = some σ') (G : cl_G true D c0 ({ frames := 1, cells := σ0.2.2.2.2.2.1, slots := σ0.2.2.2.2.2.2, locals := 22 }) s σ0.2.2.2.1 T σ H locs cells slots) (ha : (T a).1 = 17) (hl : lv_has ls 4 [(0, .ref (c0 + a)), (1, .int x1), (2, .int x2)]) : W p l e ({ frames := 1, cells := σ0.2.2.2.2.2.1, slots := σ0.2.2.2.2.2.2, locals := 22 }) s m args below meth c H locs cells slots (MQ below (cl_Q true D c0 none cl_no σ0 σ') args s (σ0.2.2.2.2.2.1 - σ'.2.2.2.2.2.1) (σ0.2.2.2.2.2.2 - σ'.2.2.2.2.2.2) (cl_A c0 σ0.2.2.2.1 s.heap.size)) (F0 m 0 ls []) := by
  unfold bc_X1_readPartition_0 at h
  refine lv_aload_n C.1 C.2.1 dX1_readPartition_0 rfl (lv_at hl 0 rfl) ?_
  refine cg_1_9 C G ha dX1_readPartition_1 (fun t_1 => ?_)
  refine lv_iload_n C.1 C.2.1 dX1_readPartition_4 rfl (lv_at hl 1 rfl) ?_
  refine lv_aload_n C.1 C.2.1 dX1_readPartition_5 rfl (lv_at hl 0 rfl) ?_
  refine lv_iconst (v := (0:Int32)) C.1 C.2.1 dX1_readPartition_6 (by decide) ?_
  refine lv_sipush (v := (8176:Int32)) C.1 C.2.1 dX1_readPartition_7 (by decide) ?_
  obtain ⟨r_3, σ_2, hq, h_4⟩ := bd2_some h
  refine cl_callV (ci := 1) (rest := [.int x1, .ref (c0 + (a + 1))]) C G rfl ha cw_RX1_58 [.int (0:Int32), .int (8176:Int32)] _ (kc_X1_nextWord l D c0 (by rw [G.1]; exact ha) hq) (Nat.le_of_ble_eq_true rfl) (Nat.le_of_ble_eq_true rfl) rfl rfl hl.1 (Nat.le_of_ble_eq_true rfl) dX1_readPartition_10 (fun T_5 H locs cells slots t_6 hu G_7 => ?_)
  have ha := hu.kind ha (by decide)
  have t_1 := cl_uparr hu t_1 (by decide)
  refine W.eq (g2 := F0 m 13 ls [.int r_3, .int x1, .ref (c0 + (a + 1))]) rfl ?_
  obtain ⟨hi, h_9⟩ := ix_some h_4
  refine cl_iast C G_7 t_1 hi dX1_readPartition_13 (fun H locs G_10 => ?_)
  refine cl_nm G_10 h_9 (fun σ_8 G_11 h_12 => ?_)
  refine lv_aload_n C.1 C.2.1 dX1_readPartition_14 rfl (lv_at hl 0 rfl) ?_
  refine cg_1_15 C G_11 ha dX1_readPartition_15 (fun t_13 => ?_)
  refine lv_iload_n C.1 C.2.1 dX1_readPartition_18 rfl (lv_at hl 1 rfl) ?_
  refine lv_aload_n C.1 C.2.1 dX1_readPartition_19 rfl (lv_at hl 0 rfl) ?_
  refine lv_bipush (v := (16:Int32)) C.1 C.2.1 dX1_readPartition_20 (by decide) ?_
  refine lv_sipush (v := (2048:Int32)) C.1 C.2.1 dX1_readPartition_22 (by decide) ?_
  refine lv_sipush (v := (8192:Int32)) C.1 C.2.1 dX1_readPartition_25 (by decide) ?_
  refine lv_aload_n C.1 C.2.1 dX1_readPartition_28 rfl (lv_at hl 0 rfl) ?_
  refine cg_1_9 C G_11 ha dX1_readPartition_29 (fun t_14 => ?_)
  refine lv_iload_n C.1 C.2.1 dX1_readPartition_32 rfl (lv_at hl 1 rfl) ?_
  obtain ⟨hi, h_15⟩ := ix_some h_12
  refine cl_iald C G_11 t_14 hi dX1_readPartition_33 ?_
  refine lv_isub C.1 C.2.1 dX1_readPartition_34 ?_
  refine va_mmin C.1 C.2.1 (C.2.2.1.trans hl.1.symm) C.2.2.2.1 (C.2.2.2.2.1 _ mw_RX1_42) (C.2.2.2.2.1 _ mw_min_s) (C.2.2.2.2.1 _ mw_Math_i) (C.2.2.2.2.1 _ mw_min_c) (Nat.le_of_ble_eq_true rfl) (Nat.le_of_ble_eq_true rfl) (cl_le1 G_11) (cl_le2 G_11) dX1_readPartition_35 ?_
  obtain ⟨r_17, σ_16, hq, h_18⟩ := bd2_some h_15
  refine cl_callV (ci := 1) (rest := [.int x1, .ref (c0 + (a + 2))]) C G_11 rfl ha cw_RX1_58 [.int (16:Int32), .int (if ((8192:Int32) - (σ_8.1 (a + 1) x1.toNatClampNeg)) < (2048:Int32) then ((8192:Int32) - (σ_8.1 (a + 1) x1.toNatClampNeg)) else (2048:Int32))] _ (kc_X1_nextWord l D c0 (by rw [G_11.1]; exact ha) hq) (Nat.le_of_ble_eq_true rfl) (Nat.le_of_ble_eq_true rfl) rfl rfl hl.1 (Nat.le_of_ble_eq_true rfl) dX1_readPartition_38 (fun T_19 H locs cells slots t_20 hu G_21 => ?_)
  have ha := hu.kind ha (by decide)
  have t_13 := cl_uparr hu t_13 (by decide)
  refine W.eq (g2 := F0 m 41 ls [.int r_17, .int x1, .ref (c0 + (a + 2))]) rfl ?_
  obtain ⟨hi, h_23⟩ := ix_some h_18
  refine cl_iast C G_21 t_13 hi dX1_readPartition_41 (fun H locs G_24 => ?_)
  refine cl_nm G_24 h_23 (fun σ_22 G_25 h_26 => ?_)
  refine lv_iconst (v := (0:Int32)) C.1 C.2.1 dX1_readPartition_42 (by decide) ?_
  refine lv_istore_n (lv' := [(3, .int (0:Int32)), (0, .ref (c0 + a)), (1, .int x1), (2, .int x2)]) C.1 C.2.1 dX1_readPartition_43 rfl hl (by decide) rfl (fun ls hl_27 => ?_)
  exact wc_X1_readPartition_44 C h_26 G_25 ha (lv_sub hl_27 [1, 2, 3, 0] rfl)
noncomputable def fc_X1_readPartition (a : Nat) (x1 : Int32) (x2 : Int32) (σ : cl_S) : Option (cl_S) := bc_X1_readPartition_0 a x1 x2 σ
theorem kc_X1_readPartition (l : Launch) (D : cl_D) (c0 : Nat) {a : Nat} {x1 : Int32} {x2 : Int32} {σ σ' : cl_S} (ha : (σ.2.2.2.1 a).1 = 17) (h : fc_X1_readPartition a x1 x2 σ = some σ') : cl_Met true l D c0 yX1_readPartition cX1_readPartition 4 none 1 22 [.ref (c0 + a), .int x1, .int x2] σ none cl_no σ' :=
  cl_of (by decide) (Nat.le_of_ble_eq_true rfl) (fun p e s m args below meth c ls C hn G hl => wc_X1_readPartition_0 C h G ha hl)
end CQ3
