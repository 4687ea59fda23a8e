section CQ12
variable {p : Program} {l : Launch} {e : Env} {s : State} {m : MethodId} {args : Array Value} {below : List Frame} {meth : Method} {c : Code} {D : cl_D} {c0 : Nat}
abbrev cX7_isBad : ByteArray := prog_9_method_5_code
def yX7_isBad : MethodName := ⟨RX7, "isBad", "(II)Z"⟩
theorem dX7_isBad_0 : decode cX7_isBad 0 = .ok (.iload_n 1, 1) := by decide +kernel
theorem dX7_isBad_1 : decode cX7_isBad 1 = .ok (.bipush 26, 2) := by decide +kernel
theorem dX7_isBad_3 : decode cX7_isBad 3 = .ok (.iushr, 1) := by decide +kernel
theorem dX7_isBad_4 : decode cX7_isBad 4 = .ok (.istore_n 3, 1) := by decide +kernel
theorem dX7_isBad_5 : decode cX7_isBad 5 = .ok (.iload_n 1, 1) := by decide +kernel
theorem dX7_isBad_6 : decode cX7_isBad 6 = .ok (.bipush 14, 2) := by decide +kernel
theorem dX7_isBad_8 : decode cX7_isBad 8 = .ok (.ishl, 1) := by decide +kernel
theorem dX7_isBad_9 : decode cX7_isBad 9 = .ok (.bipush 14, 2) := by decide +kernel
theorem dX7_isBad_11 : decode cX7_isBad 11 = .ok (.ishr, 1) := by decide +kernel
theorem dX7_isBad_12 : decode cX7_isBad 12 = .ok (.istore 4, 2) := by decide +kernel
theorem dX7_isBad_14 : decode cX7_isBad 14 = .ok (.iload_n 3, 1) := by decide +kernel
theorem dX7_isBad_15 : decode cX7_isBad 15 = .ok (.bipush 38, 2) := by decide +kernel
theorem dX7_isBad_17 : decode cX7_isBad 17 = .ok (.if_icmp .ne 34, 3) := by decide +kernel
theorem dX7_isBad_20 : decode cX7_isBad 20 = .ok (.iload 4, 2) := by decide +kernel
theorem dX7_isBad_22 : decode cX7_isBad 22 = .ok (.ifCond .lt 23, 3) := by decide +kernel
theorem dX7_isBad_25 : decode cX7_isBad 25 = .ok (.iload 4, 2) := by decide +kernel
theorem dX7_isBad_27 : decode cX7_isBad 27 = .ok (.bipush 34, 2) := by decide +kernel
theorem dX7_isBad_29 : decode cX7_isBad 29 = .ok (.if_icmp .gt 16, 3) := by decide +kernel
theorem dX7_isBad_32 : decode cX7_isBad 32 = .ok (.iload 4, 2) := by decide +kernel
theorem dX7_isBad_34 : decode cX7_isBad 34 = .ok (.iconst 1, 1) := by decide +kernel
theorem dX7_isBad_35 : decode cX7_isBad 35 = .ok (.if_icmp .eq 10, 3) := by decide +kernel
theorem dX7_isBad_38 : decode cX7_isBad 38 = .ok (.iload 4, 2) := by decide +kernel
theorem dX7_isBad_40 : decode cX7_isBad 40 = .ok (.bipush 8, 2) := by decide +kernel
theorem dX7_isBad_42 : decode cX7_isBad 42 = .ok (.if_icmp .ne 7, 3) := by decide +kernel
theorem dX7_isBad_45 : decode cX7_isBad 45 = .ok (.iconst 1, 1) := by decide +kernel
theorem dX7_isBad_46 : decode cX7_isBad 46 = .ok (.goto 4, 3) := by decide +kernel
theorem dX7_isBad_49 : decode cX7_isBad 49 = .ok (.iconst 0, 1) := by decide +kernel
theorem dX7_isBad_50 : decode cX7_isBad 50 = .ok (.ireturn, 1) := by decide +kernel
theorem dX7_isBad_51 : decode cX7_isBad 51 = .ok (.iload_n 3, 1) := by decide +kernel
theorem dX7_isBad_52 : decode cX7_isBad 52 = .ok (.iconst 1, 1) := by decide +kernel
theorem dX7_isBad_53 : decode cX7_isBad 53 = .ok (.if_icmp .lt 9, 3) := by decide +kernel
theorem dX7_isBad_56 : decode cX7_isBad 56 = .ok (.iload_n 3, 1) := by decide +kernel
theorem dX7_isBad_57 : decode cX7_isBad 57 = .ok (.bipush 36, 2) := by decide +kernel
theorem dX7_isBad_59 : decode cX7_isBad 59 = .ok (.if_icmp .le 5, 3) := by decide +kernel
theorem dX7_isBad_62 : decode cX7_isBad 62 = .ok (.iconst 1, 1) := by decide +kernel
theorem dX7_isBad_63 : decode cX7_isBad 63 = .ok (.ireturn, 1) := by decide +kernel
theorem dX7_isBad_64 : decode cX7_isBad 64 = .ok (.iload_n 3, 1) := by decide +kernel
theorem dX7_isBad_65 : decode cX7_isBad 65 = .ok (.invokestatic 58, 3) := by decide +kernel
theorem dX7_isBad_68 : decode cX7_isBad 68 = .ok (.ifCond .ne 5, 3) := by decide +kernel
theorem dX7_isBad_71 : decode cX7_isBad 71 = .ok (.iconst 0, 1) := by decide +kernel
theorem dX7_isBad_72 : decode cX7_isBad 72 = .ok (.ireturn, 1) := by decide +kernel
theorem dX7_isBad_73 : decode cX7_isBad 73 = .ok (.iload_n 1, 1) := by decide +kernel
theorem dX7_isBad_74 : decode cX7_isBad 74 = .ok (.bipush 18, 2) := by decide +kernel
theorem dX7_isBad_76 : decode cX7_isBad 76 = .ok (.iushr, 1) := by decide +kernel
theorem dX7_isBad_77 : decode cX7_isBad 77 = .ok (.bipush 15, 2) := by decide +kernel
theorem dX7_isBad_79 : decode cX7_isBad 79 = .ok (.iand, 1) := by decide +kernel
theorem dX7_isBad_80 : decode cX7_isBad 80 = .ok (.ifCond .ne 28, 3) := by decide +kernel
theorem dX7_isBad_83 : decode cX7_isBad 83 = .ok (.iload 4, 2) := by decide +kernel
theorem dX7_isBad_85 : decode cX7_isBad 85 = .ok (.ifCond .lt 23, 3) := by decide +kernel
theorem dX7_isBad_88 : decode cX7_isBad 88 = .ok (.iload 4, 2) := by decide +kernel
theorem dX7_isBad_90 : decode cX7_isBad 90 = .ok (.iconst 4, 1) := by decide +kernel
theorem dX7_isBad_91 : decode cX7_isBad 91 = .ok (.iload_n 2, 1) := by decide +kernel
theorem dX7_isBad_92 : decode cX7_isBad 92 = .ok (.imul, 1) := by decide +kernel
theorem dX7_isBad_93 : decode cX7_isBad 93 = .ok (.if_icmp .ge 15, 3) := by decide +kernel
theorem dX7_isBad_96 : decode cX7_isBad 96 = .ok (.iload 4, 2) := by decide +kernel
theorem dX7_isBad_98 : decode cX7_isBad 98 = .ok (.iload_n 3, 1) := by decide +kernel
theorem dX7_isBad_99 : decode cX7_isBad 99 = .ok (.invokestatic 64, 3) := by decide +kernel
theorem dX7_isBad_102 : decode cX7_isBad 102 = .ok (.iconst 1, 1) := by decide +kernel
theorem dX7_isBad_103 : decode cX7_isBad 103 = .ok (.isub, 1) := by decide +kernel
theorem dX7_isBad_104 : decode cX7_isBad 104 = .ok (.iand, 1) := by decide +kernel
theorem dX7_isBad_105 : decode cX7_isBad 105 = .ok (.ifCond .eq 7, 3) := by decide +kernel
theorem dX7_isBad_108 : decode cX7_isBad 108 = .ok (.iconst 1, 1) := by decide +kernel
theorem dX7_isBad_109 : decode cX7_isBad 109 = .ok (.goto 4, 3) := by decide +kernel
theorem dX7_isBad_112 : decode cX7_isBad 112 = .ok (.iconst 0, 1) := by decide +kernel
theorem dX7_isBad_113 : decode cX7_isBad 113 = .ok (.istore 5, 2) := by decide +kernel
theorem dX7_isBad_115 : decode cX7_isBad 115 = .ok (.iload 5, 2) := by decide +kernel
theorem dX7_isBad_117 : decode cX7_isBad 117 = .ok (.ifCond .ne 34, 3) := by decide +kernel
theorem dX7_isBad_120 : decode cX7_isBad 120 = .ok (.iload_n 3, 1) := by decide +kernel
theorem dX7_isBad_121 : decode cX7_isBad 121 = .ok (.invokestatic 68, 3) := by decide +kernel
theorem dX7_isBad_124 : decode cX7_isBad 124 = .ok (.ifCond .eq 31, 3) := by decide +kernel
theorem dX7_isBad_127 : decode cX7_isBad 127 = .ok (.iload 4, 2) := by decide +kernel
theorem dX7_isBad_129 : decode cX7_isBad 129 = .ok (.iconst 2, 1) := by decide +kernel
theorem dX7_isBad_130 : decode cX7_isBad 130 = .ok (.ishr, 1) := by decide +kernel
theorem dX7_isBad_131 : decode cX7_isBad 131 = .ok (.aload_n 0, 1) := by decide +kernel
theorem dX7_isBad_132 : decode cX7_isBad 132 = .ok (.getfield 20, 3) := by decide +kernel
theorem dX7_isBad_135 : decode cX7_isBad 135 = .ok (.if_icmp .ge 20, 3) := by decide +kernel
theorem dX7_isBad_138 : decode cX7_isBad 138 = .ok (.aload_n 0, 1) := by decide +kernel
theorem dX7_isBad_139 : decode cX7_isBad 139 = .ok (.getfield 11, 3) := by decide +kernel
theorem dX7_isBad_142 : decode cX7_isBad 142 = .ok (.iload 4, 2) := by decide +kernel
theorem dX7_isBad_144 : decode cX7_isBad 144 = .ok (.iconst 2, 1) := by decide +kernel
theorem dX7_isBad_145 : decode cX7_isBad 145 = .ok (.ishr, 1) := by decide +kernel
theorem dX7_isBad_146 : decode cX7_isBad 146 = .ok (.iaload, 1) := by decide +kernel
theorem dX7_isBad_147 : decode cX7_isBad 147 = .ok (.iconst 1, 1) := by decide +kernel
theorem dX7_isBad_148 : decode cX7_isBad 148 = .ok (.if_icmp .ne 7, 3) := by decide +kernel
theorem dX7_isBad_151 : decode cX7_isBad 151 = .ok (.iconst 1, 1) := by decide +kernel
theorem dX7_isBad_152 : decode cX7_isBad 152 = .ok (.goto 4, 3) := by decide +kernel
theorem dX7_isBad_155 : decode cX7_isBad 155 = .ok (.iconst 0, 1) := by decide +kernel
theorem dX7_isBad_156 : decode cX7_isBad 156 = .ok (.ireturn, 1) := by decide +kernel
theorem cc_X7_isBad : Cond.code yX7_isBad cX7_isBad 6 (some .boolean) ∈ rf_tb := rf_at 995 (by decide +kernel) (by decide +kernel)
theorem cw_RX7_58 : cl_wS RX7 yX2_isMemoryOp cX2_isMemoryOp 1 (some .boolean) 58 1 := ⟨⟨rf_at 996 (by decide +kernel) (by decide +kernel), rf_at 997 (by decide +kernel) (by decide +kernel), cc_X2_isMemoryOp, rf_at 16 (by decide +kernel) (by decide +kernel)⟩, ⟨by decide, by decide, by decide +kernel⟩⟩
theorem cw_RX7_64 : cl_wS RX7 yX2_width cX2_width 1 (some .int) 64 1 := ⟨⟨rf_at 999 (by decide +kernel) (by decide +kernel), rf_at 1000 (by decide +kernel) (by decide +kernel), cc_X2_width, rf_at 16 (by decide +kernel) (by decide +kernel)⟩, ⟨by decide, by decide, by decide +kernel⟩⟩
theorem cw_RX7_68 : cl_wS RX7 yX2_isStore cX2_isStore 1 (some .boolean) 68 1 := ⟨⟨rf_at 1002 (by decide +kernel) (by decide +kernel), rf_at 1003 (by decide +kernel) (by decide +kernel), cc_X2_isStore, rf_at 16 (by decide +kernel) (by decide +kernel)⟩, ⟨by decide, by decide, by decide +kernel⟩⟩
noncomputable def bc_X7_isBad_113 (a : Nat) (x3 : Int32) (x4 : Int32) (v0 : Int32) (σ : cl_S) : Option (Int32 × cl_S) := (if v0 = 0 then bd2 (fc_X2_isStore x3 σ) (fun r_15 σ_14 => (if r_15 = 0 then some ((0:Int32), σ_14) else (if (σ_14.1 a 3) ≤ (x4 >>> ((2:Int32) &&& 31)) then some ((0:Int32), σ_14) else ix (x4 >>> ((2:Int32) &&& 31)) 2048 ((if (σ_14.1 (a + 1) (x4 >>> ((2:Int32) &&& 31)).toNatClampNeg) = (1:Int32) then some ((1:Int32), σ_14) else some ((0:Int32), σ_14)))))) else some ((1:Int32), σ))
set_option maxHeartbeats 4000000 in
theorem wc_X7_isBad_113 (C : cl_C D p s m args meth c cX7_isBad 6 (some .boolean) RX7) {r : Int32} {a : Nat} {x3 : Int32} {x4 : Int32} {v0 : Int32} {σ0 σ σ' : cl_S} {T : Nat → Nat × Nat} {H : Heap} {locs : List Loc} {ls : Array Slot} {cells slots : Nat} (h : bc_X7_isBad_113 a x3 x4 v0 σ = some (r, σ')) (G : cl_G true D c0 ({ frames := 1, cells := σ0.2.2.2.2.2.1, slots := σ0.2.2.2.2.2.2, locals := 20 }) s σ0.2.2.2.1 T σ H locs cells slots) (ha : (T a).1 = 23) (hl : lv_has ls 6 [(0, .ref (c0 + a)), (3, .int x3), (4, .int x4)]) : W p l e ({ frames := 1, cells := σ0.2.2.2.2.2.1, slots := σ0.2.2.2.2.2.2, locals := 20 }) s m args below meth c H locs cells slots (MQ below (cl_Q true D c0 (some (.int r)) cl_no σ0 σ') args s (σ0.2.2.2.2.2.1 - σ'.2.2.2.2.2.1) (σ0.2.2.2.2.2.2 - σ'.2.2.2.2.2.2) (cl_A c0 σ0.2.2.2.1 s.heap.size)) (F0 m 113 ls [.int v0]) := by
  unfold bc_X7_isBad_113 at h
  refine lv_istore (lv' := [(5, .int v0), (0, .ref (c0 + a)), (3, .int x3), (4, .int x4)]) C.1 C.2.1 dX7_isBad_113 hl (by decide) rfl (fun ls hl_13 => ?_)
  refine lv_iload C.1 C.2.1 dX7_isBad_115 (lv_at hl_13 0 rfl) ?_
  refine lv_if_ne (tgt := 151) C.1 C.2.1 dX7_isBad_117 (by decide) (fun hc => ?_) (fun hc => ?_)
  · rw [if_neg hc] at h
    refine lv_iconst (v := (1:Int32)) C.1 C.2.1 dX7_isBad_151 (by decide) ?_
    refine lv_goto (tgt := 156) C.1 C.2.1 dX7_isBad_152 (by decide) ?_
    exact cl_zret ⟨rfl, rfl⟩ rfl C G h rfl dX7_isBad_156
  · rw [if_pos hc] at h
    refine lv_iload_n C.1 C.2.1 dX7_isBad_120 rfl (lv_at hl_13 2 rfl) ?_
    obtain ⟨r_15, σ_14, hq, h_16⟩ := bd2_some h
    refine cl_callS (rest := []) C G cw_RX7_68 [.int x3] _ (kc_X2_isStore l D c0 hq) (Nat.le_of_ble_eq_true rfl) (Nat.le_of_ble_eq_true rfl) rfl rfl hl_13.1 (Nat.le_of_ble_eq_true rfl) dX7_isBad_121 (fun T_17 H locs cells slots t_18 hu G_19 => ?_)
    have ha := hu.kind ha (by decide)
    refine W.eq (g2 := F0 m 124 ls [.int r_15]) rfl ?_
    refine lv_if_eq (tgt := 155) C.1 C.2.1 dX7_isBad_124 (by decide) (fun hc => ?_) (fun hc => ?_)
    · rw [if_pos hc] at h_16
      refine lv_iconst (v := (0:Int32)) C.1 C.2.1 dX7_isBad_155 (by decide) ?_
      exact cl_zret ⟨rfl, rfl⟩ rfl C G_19 h_16 rfl dX7_isBad_156
    · rw [if_neg hc] at h_16
      refine lv_iload C.1 C.2.1 dX7_isBad_127 (lv_at hl_13 3 rfl) ?_
      refine lv_iconst (v := (2:Int32)) C.1 C.2.1 dX7_isBad_129 (by decide) ?_
      refine lv_ishr C.1 C.2.1 dX7_isBad_130 ?_
      refine lv_aload_n C.1 C.2.1 dX7_isBad_131 rfl (lv_at hl_13 1 rfl) ?_
      refine cg_7_20 C G_19 ha dX7_isBad_132 ?_
      refine lv_icmp_ge (tgt := 155) C.1 C.2.1 dX7_isBad_135 (by decide) (fun hc => ?_) (fun hc => ?_)
      · rw [if_pos hc] at h_16
        refine lv_iconst (v := (0:Int32)) C.1 C.2.1 dX7_isBad_155 (by decide) ?_
        exact cl_zret ⟨rfl, rfl⟩ rfl C G_19 h_16 rfl dX7_isBad_156
      · rw [if_neg hc] at h_16
        refine lv_aload_n C.1 C.2.1 dX7_isBad_138 rfl (lv_at hl_13 1 rfl) ?_
        refine cg_7_11 C G_19 ha dX7_isBad_139 (fun t_20 => ?_)
        refine lv_iload C.1 C.2.1 dX7_isBad_142 (lv_at hl_13 3 rfl) ?_
        refine lv_iconst (v := (2:Int32)) C.1 C.2.1 dX7_isBad_144 (by decide) ?_
        refine lv_ishr C.1 C.2.1 dX7_isBad_145 ?_
        obtain ⟨hi, h_21⟩ := ix_some h_16
        refine cl_iald C G_19 t_20 hi dX7_isBad_146 ?_
        refine lv_iconst (v := (1:Int32)) C.1 C.2.1 dX7_isBad_147 (by decide) ?_
        refine lv_icmp_ne (tgt := 155) C.1 C.2.1 dX7_isBad_148 (by decide) (fun hc => ?_) (fun hc => ?_)
        · rw [if_neg hc] at h_21
          refine lv_iconst (v := (0:Int32)) C.1 C.2.1 dX7_isBad_155 (by decide) ?_
          exact cl_zret ⟨rfl, rfl⟩ rfl C G_19 h_21 rfl dX7_isBad_156
        · rw [if_pos hc] at h_21
          refine lv_iconst (v := (1:Int32)) C.1 C.2.1 dX7_isBad_151 (by decide) ?_
          refine lv_goto (tgt := 156) C.1 C.2.1 dX7_isBad_152 (by decide) ?_
          exact cl_zret ⟨rfl, rfl⟩ rfl C G_19 h_21 rfl dX7_isBad_156
noncomputable def bc_X7_isBad_108 (a : Nat) (x3 : Int32) (x4 : Int32) (σ : cl_S) : Option (Int32 × cl_S) := bc_X7_isBad_113 a x3 x4 (1:Int32) σ
set_option maxHeartbeats 4000000 in
theorem wc_X7_isBad_108 (C : cl_C D p s m args meth c cX7_isBad 6 (some .boolean) RX7) {r : Int32} {a : Nat} {x3 : Int32} {x4 : Int32} {σ0 σ σ' : cl_S} {T : Nat → Nat × Nat} {H : Heap} {locs : List Loc} {ls : Array Slot} {cells slots : Nat} (h : bc_X7_isBad_108 a x3 x4 σ = some (r, σ')) (G : cl_G true D c0 ({ frames := 1, cells := σ0.2.2.2.2.2.1, slots := σ0.2.2.2.2.2.2, locals := 20 }) s σ0.2.2.2.1 T σ H locs cells slots) (ha : (T a).1 = 23) (hl : lv_has ls 6 [(0, .ref (c0 + a)), (3, .int x3), (4, .int x4)]) : W p l e ({ frames := 1, cells := σ0.2.2.2.2.2.1, slots := σ0.2.2.2.2.2.2, locals := 20 }) s m args below meth c H locs cells slots (MQ below (cl_Q true D c0 (some (.int r)) cl_no σ0 σ') args s (σ0.2.2.2.2.2.1 - σ'.2.2.2.2.2.1) (σ0.2.2.2.2.2.2 - σ'.2.2.2.2.2.2) (cl_A c0 σ0.2.2.2.1 s.heap.size)) (F0 m 108 ls []) := by
  unfold bc_X7_isBad_108 at h
  refine lv_iconst (v := (1:Int32)) C.1 C.2.1 dX7_isBad_108 (by decide) ?_
  refine lv_goto (tgt := 113) C.1 C.2.1 dX7_isBad_109 (by decide) ?_
  exact wc_X7_isBad_113 C h G ha (lv_sub hl [0, 1, 2] rfl)
noncomputable def bc_X7_isBad_0 (a : Nat) (x1 : Int32) (x2 : Int32) (σ : cl_S) : Option (Int32 × cl_S) := vl ((x1.toUInt32 >>> ((26:Int32).toUInt32 &&& Int32.toUInt32 31)).toInt32) (fun x3_1 => vl ((x1 <<< ((14:Int32) &&& 31)) >>> ((14:Int32) &&& 31)) (fun x4_4 => (if x3_1 = (38:Int32) then (if x4_4 < 0 then some ((1:Int32), σ) else (if (34:Int32) < x4_4 then some ((1:Int32), σ) else (if x4_4 = (1:Int32) then some ((1:Int32), σ) else (if x4_4 = (8:Int32) then some ((1:Int32), σ) else some ((0:Int32), σ))))) else (if x3_1 < (1:Int32) then some ((1:Int32), σ) else (if x3_1 ≤ (36:Int32) then bd2 (fc_X2_isMemoryOp x3_1 σ) (fun r_8 σ_7 => (if r_8 = 0 then some ((0:Int32), σ_7) else (if (((x1.toUInt32 >>> ((18:Int32).toUInt32 &&& Int32.toUInt32 31)).toInt32) &&& (15:Int32)) = 0 then (if x4_4 < 0 then bc_X7_isBad_108 a x3_1 x4_4 σ_7 else (if ((4:Int32) * x2) ≤ x4_4 then bc_X7_isBad_108 a x3_1 x4_4 σ_7 else bd2 (fc_X2_width x3_1 σ_7) (fun r_23 σ_22 => (if (x4_4 &&& (r_23 - (1:Int32))) = 0 then bc_X7_isBad_113 a x3_1 x4_4 (0:Int32) σ_22 else bc_X7_isBad_108 a x3_1 x4_4 σ_22)))) else bc_X7_isBad_108 a x3_1 x4_4 σ_7))) else some ((1:Int32), σ))))))
set_option maxHeartbeats 4000000 in
theorem wc_X7_isBad_0 (C : cl_C D p s m args meth c cX7_isBad 6 (some .boolean) RX7) {r : Int32} {a : Nat} {x1 : Int32} {x2 : Int32} {σ0 σ σ' : cl_S} {T : Nat → Nat × Nat} {H : Heap} {locs : List Loc} {ls : Array Slot} {cells slots : Nat} (h : bc_X7_isBad_0 a x1 x2 σ = some (r, σ')) (G : cl_G true D c0 ({ frames := 1, cells := σ0.2.2.2.2.2.1, slots := σ0.2.2.2.2.2.2, locals := 20 }) s σ0.2.2.2.1 T σ H locs cells slots) (ha : (T a).1 = 23) (hl : lv_has ls 6 [(0, .ref (c0 + a)), (1, .int x1), (2, .int x2)]) : W p l e ({ frames := 1, cells := σ0.2.2.2.2.2.1, slots := σ0.2.2.2.2.2.2, locals := 20 }) s m args below meth c H locs cells slots (MQ below (cl_Q true D c0 (some (.int r)) cl_no σ0 σ') args s (σ0.2.2.2.2.2.1 - σ'.2.2.2.2.2.1) (σ0.2.2.2.2.2.2 - σ'.2.2.2.2.2.2) (cl_A c0 σ0.2.2.2.1 s.heap.size)) (F0 m 0 ls []) := by
  unfold bc_X7_isBad_0 at h
  refine lv_iload_n C.1 C.2.1 dX7_isBad_0 rfl (lv_at hl 1 rfl) ?_
  refine lv_bipush (v := (26:Int32)) C.1 C.2.1 dX7_isBad_1 (by decide) ?_
  refine lv_iushr C.1 C.2.1 dX7_isBad_3 rfl ?_
  refine vt_i h (fun x3_1 h_2 => ?_)
  refine lv_istore_n (lv' := [(3, .int x3_1), (0, .ref (c0 + a)), (1, .int x1), (2, .int x2)]) C.1 C.2.1 dX7_isBad_4 rfl hl (by decide) rfl (fun ls hl_3 => ?_)
  refine lv_iload_n C.1 C.2.1 dX7_isBad_5 rfl (lv_at hl_3 2 rfl) ?_
  refine lv_bipush (v := (14:Int32)) C.1 C.2.1 dX7_isBad_6 (by decide) ?_
  refine lv_ishl C.1 C.2.1 dX7_isBad_8 ?_
  refine lv_bipush (v := (14:Int32)) C.1 C.2.1 dX7_isBad_9 (by decide) ?_
  refine lv_ishr C.1 C.2.1 dX7_isBad_11 ?_
  refine vt_i h_2 (fun x4_4 h_5 => ?_)
  refine lv_istore (lv' := [(4, .int x4_4), (3, .int x3_1), (0, .ref (c0 + a)), (1, .int x1), (2, .int x2)]) C.1 C.2.1 dX7_isBad_12 hl_3 (by decide) rfl (fun ls hl_6 => ?_)
  refine lv_iload_n C.1 C.2.1 dX7_isBad_14 rfl (lv_at hl_6 1 rfl) ?_
  refine lv_bipush (v := (38:Int32)) C.1 C.2.1 dX7_isBad_15 (by decide) ?_
  refine lv_icmp_ne (tgt := 51) C.1 C.2.1 dX7_isBad_17 (by decide) (fun hc => ?_) (fun hc => ?_)
  · rw [if_neg hc] at h_5
    refine lv_iload_n C.1 C.2.1 dX7_isBad_51 rfl (lv_at hl_6 1 rfl) ?_
    refine lv_iconst (v := (1:Int32)) C.1 C.2.1 dX7_isBad_52 (by decide) ?_
    refine lv_icmp_lt (tgt := 62) C.1 C.2.1 dX7_isBad_53 (by decide) (fun hc => ?_) (fun hc => ?_)
    · rw [if_pos hc] at h_5
      refine lv_iconst (v := (1:Int32)) C.1 C.2.1 dX7_isBad_62 (by decide) ?_
      exact cl_zret ⟨rfl, rfl⟩ rfl C G h_5 rfl dX7_isBad_63
    · rw [if_neg hc] at h_5
      refine lv_iload_n C.1 C.2.1 dX7_isBad_56 rfl (lv_at hl_6 1 rfl) ?_
      refine lv_bipush (v := (36:Int32)) C.1 C.2.1 dX7_isBad_57 (by decide) ?_
      refine lv_icmp_le (tgt := 64) C.1 C.2.1 dX7_isBad_59 (by decide) (fun hc => ?_) (fun hc => ?_)
      · rw [if_pos hc] at h_5
        refine lv_iload_n C.1 C.2.1 dX7_isBad_64 rfl (lv_at hl_6 1 rfl) ?_
        obtain ⟨r_8, σ_7, hq, h_9⟩ := bd2_some h_5
        refine cl_callS (rest := []) C G cw_RX7_58 [.int x3_1] _ (kc_X2_isMemoryOp l D c0 hq) (Nat.le_of_ble_eq_true rfl) (Nat.le_of_ble_eq_true rfl) rfl rfl hl_6.1 (Nat.le_of_ble_eq_true rfl) dX7_isBad_65 (fun T_10 H locs cells slots t_11 hu G_12 => ?_)
        have ha := hu.kind ha (by decide)
        refine W.eq (g2 := F0 m 68 ls [.int r_8]) rfl ?_
        refine lv_if_ne (tgt := 73) C.1 C.2.1 dX7_isBad_68 (by decide) (fun hc => ?_) (fun hc => ?_)
        · rw [if_neg hc] at h_9
          refine lv_iload_n C.1 C.2.1 dX7_isBad_73 rfl (lv_at hl_6 3 rfl) ?_
          refine lv_bipush (v := (18:Int32)) C.1 C.2.1 dX7_isBad_74 (by decide) ?_
          refine lv_iushr C.1 C.2.1 dX7_isBad_76 rfl ?_
          refine lv_bipush (v := (15:Int32)) C.1 C.2.1 dX7_isBad_77 (by decide) ?_
          refine lv_iand C.1 C.2.1 dX7_isBad_79 ?_
          refine lv_if_ne (tgt := 108) C.1 C.2.1 dX7_isBad_80 (by decide) (fun hc => ?_) (fun hc => ?_)
          · rw [if_neg hc] at h_9
            exact wc_X7_isBad_108 C h_9 G_12 ha (lv_sub hl_6 [2, 1, 0] rfl)
          · rw [if_pos hc] at h_9
            refine lv_iload C.1 C.2.1 dX7_isBad_83 (lv_at hl_6 0 rfl) ?_
            refine lv_if_lt (tgt := 108) C.1 C.2.1 dX7_isBad_85 (by decide) (fun hc => ?_) (fun hc => ?_)
            · rw [if_pos hc] at h_9
              exact wc_X7_isBad_108 C h_9 G_12 ha (lv_sub hl_6 [2, 1, 0] rfl)
            · rw [if_neg hc] at h_9
              refine lv_iload C.1 C.2.1 dX7_isBad_88 (lv_at hl_6 0 rfl) ?_
              refine lv_iconst (v := (4:Int32)) C.1 C.2.1 dX7_isBad_90 (by decide) ?_
              refine lv_iload_n C.1 C.2.1 dX7_isBad_91 rfl (lv_at hl_6 4 rfl) ?_
              refine lv_imul C.1 C.2.1 dX7_isBad_92 ?_
              refine lv_icmp_ge (tgt := 108) C.1 C.2.1 dX7_isBad_93 (by decide) (fun hc => ?_) (fun hc => ?_)
              · rw [if_pos hc] at h_9
                exact wc_X7_isBad_108 C h_9 G_12 ha (lv_sub hl_6 [2, 1, 0] rfl)
              · rw [if_neg hc] at h_9
                refine lv_iload C.1 C.2.1 dX7_isBad_96 (lv_at hl_6 0 rfl) ?_
                refine lv_iload_n C.1 C.2.1 dX7_isBad_98 rfl (lv_at hl_6 1 rfl) ?_
                obtain ⟨r_23, σ_22, hq, h_24⟩ := bd2_some h_9
                refine cl_callS (rest := [.int x4_4]) C G_12 cw_RX7_64 [.int x3_1] _ (kc_X2_width l D c0 hq) (Nat.le_of_ble_eq_true rfl) (Nat.le_of_ble_eq_true rfl) rfl rfl hl_6.1 (Nat.le_of_ble_eq_true rfl) dX7_isBad_99 (fun T_25 H locs cells slots t_26 hu G_27 => ?_)
                have ha := hu.kind ha (by decide)
                refine W.eq (g2 := F0 m 102 ls [.int r_23, .int x4_4]) rfl ?_
                refine lv_iconst (v := (1:Int32)) C.1 C.2.1 dX7_isBad_102 (by decide) ?_
                refine lv_isub C.1 C.2.1 dX7_isBad_103 ?_
                refine lv_iand C.1 C.2.1 dX7_isBad_104 ?_
                refine lv_if_eq (tgt := 112) C.1 C.2.1 dX7_isBad_105 (by decide) (fun hc => ?_) (fun hc => ?_)
                · rw [if_pos hc] at h_24
                  refine lv_iconst (v := (0:Int32)) C.1 C.2.1 dX7_isBad_112 (by decide) ?_
                  exact wc_X7_isBad_113 C h_24 G_27 ha (lv_sub hl_6 [2, 1, 0] rfl)
                · rw [if_neg hc] at h_24
                  exact wc_X7_isBad_108 C h_24 G_27 ha (lv_sub hl_6 [2, 1, 0] rfl)
        · rw [if_pos hc] at h_9
          refine lv_iconst (v := (0:Int32)) C.1 C.2.1 dX7_isBad_71 (by decide) ?_
          exact cl_zret ⟨rfl, rfl⟩ rfl C G_12 h_9 rfl dX7_isBad_72
      · rw [if_neg hc] at h_5
        refine lv_iconst (v := (1:Int32)) C.1 C.2.1 dX7_isBad_62 (by decide) ?_
        exact cl_zret ⟨rfl, rfl⟩ rfl C G h_5 rfl dX7_isBad_63
  · rw [if_pos hc] at h_5
    refine lv_iload C.1 C.2.1 dX7_isBad_20 (lv_at hl_6 0 rfl) ?_
    refine lv_if_lt (tgt := 45) C.1 C.2.1 dX7_isBad_22 (by decide) (fun hc => ?_) (fun hc => ?_)
    · rw [if_pos hc] at h_5
      refine lv_iconst (v := (1:Int32)) C.1 C.2.1 dX7_isBad_45 (by decide) ?_
      refine lv_goto (tgt := 50) C.1 C.2.1 dX7_isBad_46 (by decide) ?_
      exact cl_zret ⟨rfl, rfl⟩ rfl C G h_5 rfl dX7_isBad_50
    · rw [if_neg hc] at h_5
      refine lv_iload C.1 C.2.1 dX7_isBad_25 (lv_at hl_6 0 rfl) ?_
      refine lv_bipush (v := (34:Int32)) C.1 C.2.1 dX7_isBad_27 (by decide) ?_
      refine lv_icmp_gt (tgt := 45) C.1 C.2.1 dX7_isBad_29 (by decide) (fun hc => ?_) (fun hc => ?_)
      · rw [if_pos hc] at h_5
        refine lv_iconst (v := (1:Int32)) C.1 C.2.1 dX7_isBad_45 (by decide) ?_
        refine lv_goto (tgt := 50) C.1 C.2.1 dX7_isBad_46 (by decide) ?_
        exact cl_zret ⟨rfl, rfl⟩ rfl C G h_5 rfl dX7_isBad_50
      · rw [if_neg hc] at h_5
        refine lv_iload C.1 C.2.1 dX7_isBad_32 (lv_at hl_6 0 rfl) ?_
        refine lv_iconst (v := (1:Int32)) C.1 C.2.1 dX7_isBad_34 (by decide) ?_
        refine lv_icmp_eq (tgt := 45) C.1 C.2.1 dX7_isBad_35 (by decide) (fun hc => ?_) (fun hc => ?_)
        · rw [if_pos hc] at h_5
          refine lv_iconst (v := (1:Int32)) C.1 C.2.1 dX7_isBad_45 (by decide) ?_
          refine lv_goto (tgt := 50) C.1 C.2.1 dX7_isBad_46 (by decide) ?_
          exact cl_zret ⟨rfl, rfl⟩ rfl C G h_5 rfl dX7_isBad_50
        · rw [if_neg hc] at h_5
          refine lv_iload C.1 C.2.1 dX7_isBad_38 (lv_at hl_6 0 rfl) ?_
          refine lv_bipush (v := (8:Int32)) C.1 C.2.1 dX7_isBad_40 (by decide) ?_
          refine lv_icmp_ne (tgt := 49) C.1 C.2.1 dX7_isBad_42 (by decide) (fun hc => ?_) (fun hc => ?_)
          · rw [if_neg hc] at h_5
            refine lv_iconst (v := (0:Int32)) C.1 C.2.1 dX7_isBad_49 (by decide) ?_
            exact cl_zret ⟨rfl, rfl⟩ rfl C G h_5 rfl dX7_isBad_50
          · rw [if_pos hc] at h_5
            refine lv_iconst (v := (1:Int32)) C.1 C.2.1 dX7_isBad_45 (by decide) ?_
            refine lv_goto (tgt := 50) C.1 C.2.1 dX7_isBad_46 (by decide) ?_
            exact cl_zret ⟨rfl, rfl⟩ rfl C G h_5 rfl dX7_isBad_50
noncomputable def fc_X7_isBad (a : Nat) (x1 : Int32) (x2 : Int32) (σ : cl_S) : Option (Int32 × cl_S) := bc_X7_isBad_0 a x1 x2 σ
theorem kc_X7_isBad (l : Launch) (D : cl_D) (c0 : Nat) {r : Int32} {a : Nat} {x1 : Int32} {x2 : Int32} {σ σ' : cl_S} (ha : (σ.2.2.2.1 a).1 = 23) (h : fc_X7_isBad a x1 x2 σ = some (r, σ')) : cl_Met true l D c0 yX7_isBad cX7_isBad 6 (some .boolean) 1 20 [.ref (c0 + a), .int x1, .int x2] σ (some (.int r)) cl_no σ' :=
  cl_of (by decide) (Nat.le_of_ble_eq_true rfl) (fun p e s m args below meth c ls C hn G hl => wc_X7_isBad_0 C h G ha hl)
abbrev cX7_leastBad : ByteArray := prog_9_method_2_code
def yX7_leastBad : MethodName := ⟨RX7, "leastBad", "([III)I"⟩
theorem dX7_leastBad_0 : decode cX7_leastBad 0 = .ok (.aload_n 0, 1) := by decide +kernel
theorem dX7_leastBad_1 : decode cX7_leastBad 1 = .ok (.iload_n 2, 1) := by decide +kernel
theorem dX7_leastBad_2 : decode cX7_leastBad 2 = .ok (.putfield 20, 3) := by decide +kernel
theorem dX7_leastBad_5 : decode cX7_leastBad 5 = .ok (.aload_n 0, 1) := by decide +kernel
theorem dX7_leastBad_6 : decode cX7_leastBad 6 = .ok (.ldc 24, 2) := by decide +kernel
theorem dX7_leastBad_8 : decode cX7_leastBad 8 = .ok (.putfield 25, 3) := by decide +kernel
theorem dX7_leastBad_11 : decode cX7_leastBad 11 = .ok (.aload_n 0, 1) := by decide +kernel
theorem dX7_leastBad_12 : decode cX7_leastBad 12 = .ok (.iconst 0, 1) := by decide +kernel
theorem dX7_leastBad_13 : decode cX7_leastBad 13 = .ok (.putfield 28, 3) := by decide +kernel
theorem dX7_leastBad_16 : decode cX7_leastBad 16 = .ok (.aload_n 0, 1) := by decide +kernel
theorem dX7_leastBad_17 : decode cX7_leastBad 17 = .ok (.getfield 11, 3) := by decide +kernel
theorem dX7_leastBad_20 : decode cX7_leastBad 20 = .ok (.iconst 0, 1) := by decide +kernel
theorem dX7_leastBad_21 : decode cX7_leastBad 21 = .ok (.invokestatic 31, 3) := by decide +kernel
theorem dX7_leastBad_24 : decode cX7_leastBad 24 = .ok (.aload_n 0, 1) := by decide +kernel
theorem dX7_leastBad_25 : decode cX7_leastBad 25 = .ok (.iconst 0, 1) := by decide +kernel
theorem dX7_leastBad_26 : decode cX7_leastBad 26 = .ok (.invokevirtual 37, 3) := by decide +kernel
theorem dX7_leastBad_29 : decode cX7_leastBad 29 = .ok (.iconst 0, 1) := by decide +kernel
theorem dX7_leastBad_30 : decode cX7_leastBad 30 = .ok (.istore 4, 2) := by decide +kernel
theorem dX7_leastBad_32 : decode cX7_leastBad 32 = .ok (.iload 4, 2) := by decide +kernel
theorem dX7_leastBad_34 : decode cX7_leastBad 34 = .ok (.sipush 2048, 3) := by decide +kernel
theorem dX7_leastBad_37 : decode cX7_leastBad 37 = .ok (.if_icmp .ge 40, 3) := by decide +kernel
theorem dX7_leastBad_40 : decode cX7_leastBad 40 = .ok (.aload_n 0, 1) := by decide +kernel
theorem dX7_leastBad_41 : decode cX7_leastBad 41 = .ok (.getfield 28, 3) := by decide +kernel
theorem dX7_leastBad_44 : decode cX7_leastBad 44 = .ok (.ifCond .le 33, 3) := by decide +kernel
theorem dX7_leastBad_47 : decode cX7_leastBad 47 = .ok (.aload_n 0, 1) := by decide +kernel
theorem dX7_leastBad_48 : decode cX7_leastBad 48 = .ok (.dup, 1) := by decide +kernel
theorem dX7_leastBad_49 : decode cX7_leastBad 49 = .ok (.getfield 28, 3) := by decide +kernel
theorem dX7_leastBad_52 : decode cX7_leastBad 52 = .ok (.iconst 1, 1) := by decide +kernel
theorem dX7_leastBad_53 : decode cX7_leastBad 53 = .ok (.isub, 1) := by decide +kernel
theorem dX7_leastBad_54 : decode cX7_leastBad 54 = .ok (.putfield 28, 3) := by decide +kernel
theorem dX7_leastBad_57 : decode cX7_leastBad 57 = .ok (.aload_n 0, 1) := by decide +kernel
theorem dX7_leastBad_58 : decode cX7_leastBad 58 = .ok (.aload_n 0, 1) := by decide +kernel
theorem dX7_leastBad_59 : decode cX7_leastBad 59 = .ok (.getfield 17, 3) := by decide +kernel
theorem dX7_leastBad_62 : decode cX7_leastBad 62 = .ok (.aload_n 0, 1) := by decide +kernel
theorem dX7_leastBad_63 : decode cX7_leastBad 63 = .ok (.getfield 28, 3) := by decide +kernel
theorem dX7_leastBad_66 : decode cX7_leastBad 66 = .ok (.iaload, 1) := by decide +kernel
theorem dX7_leastBad_67 : decode cX7_leastBad 67 = .ok (.aload_n 1, 1) := by decide +kernel
theorem dX7_leastBad_68 : decode cX7_leastBad 68 = .ok (.invokevirtual 41, 3) := by decide +kernel
theorem dX7_leastBad_71 : decode cX7_leastBad 71 = .ok (.iinc 4 1, 3) := by decide +kernel
theorem dX7_leastBad_74 : decode cX7_leastBad 74 = .ok (.goto (-42), 3) := by decide +kernel
theorem dX7_leastBad_77 : decode cX7_leastBad 77 = .ok (.iconst 0, 1) := by decide +kernel
theorem dX7_leastBad_78 : decode cX7_leastBad 78 = .ok (.istore 4, 2) := by decide +kernel
theorem dX7_leastBad_80 : decode cX7_leastBad 80 = .ok (.iload 4, 2) := by decide +kernel
theorem dX7_leastBad_82 : decode cX7_leastBad 82 = .ok (.aload_n 0, 1) := by decide +kernel
theorem dX7_leastBad_83 : decode cX7_leastBad 83 = .ok (.getfield 20, 3) := by decide +kernel
theorem dX7_leastBad_86 : decode cX7_leastBad 86 = .ok (.if_icmp .ge 47, 3) := by decide +kernel
theorem dX7_leastBad_89 : decode cX7_leastBad 89 = .ok (.iload 4, 2) := by decide +kernel
theorem dX7_leastBad_91 : decode cX7_leastBad 91 = .ok (.aload_n 0, 1) := by decide +kernel
theorem dX7_leastBad_92 : decode cX7_leastBad 92 = .ok (.getfield 25, 3) := by decide +kernel
theorem dX7_leastBad_95 : decode cX7_leastBad 95 = .ok (.if_icmp .ge 38, 3) := by decide +kernel
theorem dX7_leastBad_98 : decode cX7_leastBad 98 = .ok (.aload_n 0, 1) := by decide +kernel
theorem dX7_leastBad_99 : decode cX7_leastBad 99 = .ok (.getfield 11, 3) := by decide +kernel
theorem dX7_leastBad_102 : decode cX7_leastBad 102 = .ok (.iload 4, 2) := by decide +kernel
theorem dX7_leastBad_104 : decode cX7_leastBad 104 = .ok (.iaload, 1) := by decide +kernel
theorem dX7_leastBad_105 : decode cX7_leastBad 105 = .ok (.iconst 1, 1) := by decide +kernel
theorem dX7_leastBad_106 : decode cX7_leastBad 106 = .ok (.if_icmp .ne 21, 3) := by decide +kernel
theorem dX7_leastBad_109 : decode cX7_leastBad 109 = .ok (.aload_n 0, 1) := by decide +kernel
theorem dX7_leastBad_110 : decode cX7_leastBad 110 = .ok (.aload_n 1, 1) := by decide +kernel
theorem dX7_leastBad_111 : decode cX7_leastBad 111 = .ok (.iload 4, 2) := by decide +kernel
theorem dX7_leastBad_113 : decode cX7_leastBad 113 = .ok (.iaload, 1) := by decide +kernel
theorem dX7_leastBad_114 : decode cX7_leastBad 114 = .ok (.iload_n 3, 1) := by decide +kernel
theorem dX7_leastBad_115 : decode cX7_leastBad 115 = .ok (.invokevirtual 45, 3) := by decide +kernel
theorem dX7_leastBad_118 : decode cX7_leastBad 118 = .ok (.ifCond .eq 9, 3) := by decide +kernel
theorem dX7_leastBad_121 : decode cX7_leastBad 121 = .ok (.aload_n 0, 1) := by decide +kernel
theorem dX7_leastBad_122 : decode cX7_leastBad 122 = .ok (.iload 4, 2) := by decide +kernel
theorem dX7_leastBad_124 : decode cX7_leastBad 124 = .ok (.putfield 25, 3) := by decide +kernel
theorem dX7_leastBad_127 : decode cX7_leastBad 127 = .ok (.iinc 4 1, 3) := by decide +kernel
theorem dX7_leastBad_130 : decode cX7_leastBad 130 = .ok (.goto (-50), 3) := by decide +kernel
theorem dX7_leastBad_133 : decode cX7_leastBad 133 = .ok (.aload_n 0, 1) := by decide +kernel
theorem dX7_leastBad_134 : decode cX7_leastBad 134 = .ok (.getfield 25, 3) := by decide +kernel
theorem dX7_leastBad_137 : decode cX7_leastBad 137 = .ok (.ldc 24, 2) := by decide +kernel
theorem dX7_leastBad_139 : decode cX7_leastBad 139 = .ok (.if_icmp .ne 7, 3) := by decide +kernel
theorem dX7_leastBad_142 : decode cX7_leastBad 142 = .ok (.iconst (-1), 1) := by decide +kernel
theorem dX7_leastBad_143 : decode cX7_leastBad 143 = .ok (.goto 7, 3) := by decide +kernel
theorem dX7_leastBad_146 : decode cX7_leastBad 146 = .ok (.aload_n 0, 1) := by decide +kernel
theorem dX7_leastBad_147 : decode cX7_leastBad 147 = .ok (.getfield 25, 3) := by decide +kernel
theorem dX7_leastBad_150 : decode cX7_leastBad 150 = .ok (.ireturn, 1) := by decide +kernel
theorem cc_X7_leastBad : Cond.code yX7_leastBad cX7_leastBad 5 (some .int) ∈ rf_tb := rf_at 973 (by decide +kernel) (by decide +kernel)
theorem cw_RX7_31 : cl_wS RX7 yJ7_fill_53178 cJ7_fill_53178 4 none 31 2 := ⟨⟨rf_at 975 (by decide +kernel) (by decide +kernel), rf_at 976 (by decide +kernel) (by decide +kernel), cc_J7_fill_53178, rf_at 18 (by decide +kernel) (by decide +kernel)⟩, ⟨by decide, by decide, by decide +kernel⟩⟩
theorem cw_RX7_41 : cl_wV RX7 RX7 yX7_follow cX7_follow 5 none 41 2 := ⟨⟨rf_at 988 (by decide +kernel) (by decide +kernel), rf_at 990 (by decide +kernel) (by decide +kernel), rf_sel (q := (yX7_follow, 5)) 27 (by decide +kernel) (by decide +kernel), cc_X7_follow, rf_at 8 (by decide +kernel) (by decide +kernel)⟩, ⟨by decide, by decide, by decide +kernel⟩⟩
theorem cw_RX7_45 : cl_wV RX7 RX7 yX7_isBad cX7_isBad 6 (some .boolean) 45 2 := ⟨⟨rf_at 992 (by decide +kernel) (by decide +kernel), rf_at 994 (by decide +kernel) (by decide +kernel), rf_sel (q := (yX7_isBad, 5)) 28 (by decide +kernel) (by decide +kernel), cc_X7_isBad, rf_at 8 (by decide +kernel) (by decide +kernel)⟩, ⟨by decide, by decide, by decide +kernel⟩⟩
theorem kc_RX7_24 : Cond.constant RX7 24 (2147483647 : Int32) ∈ rf_tb := rf_at 974 (by decide +kernel) (by decide +kernel)
noncomputable def lc_X7_leastBad_32 (a : Nat) (x1 : (Option Nat)) (x3 : Int32) (x4 : Int32) (σ : cl_S) : Option ((Int32 × cl_S) ⊕ (Int32 × cl_S)) := (if (2048:Int32) ≤ x4 then some (.inr (x4, σ)) else (if (σ.1 a 2) ≤ 0 then some (.inr (x4, σ)) else vl (cl_w σ a 2 ((σ.1 a 2) - (1:Int32))) (fun σ_25 => ix (σ_25.1 a 2) 2048 (bd1 (fc_X7_follow a (σ_25.1 (a + 2) (σ_25.1 a 2).toNatClampNeg) x1 σ_25) (fun σ_31 => vl (x4 + (1:Int32)) (fun x4_36 => some (.inl (x4_36, σ_31))))))))
noncomputable def bc_X7_leastBad_127i80 (a : Nat) (x1 : (Option Nat)) (x3 : Int32) (x4 : Int32) (σ : cl_S) : Option ((Int32 × cl_S) ⊕ (Int32 × cl_S)) := vl (x4 + (1:Int32)) (fun x4_42 => some (.inl (x4_42, σ)))
set_option maxHeartbeats 4000000 in
theorem wc_X7_leastBad_127i80 (C : cl_C D p s m args meth c cX7_leastBad 5 (some .int) RX7) {r : Int32} {a : Nat} {x1 : (Option Nat)} {x3 : Int32} {x4 : Int32} {σ0 σ σ' : cl_S} {T : Nat → Nat × Nat} {H : Heap} {locs : List Loc} {ls : Array Slot} {cells slots : Nat} {o : (Int32 × cl_S) ⊕ (Int32 × cl_S)} (h : bc_X7_leastBad_127i80 a x1 x3 x4 σ = some o) (hP : Sum.elim (fun z : (Int32 × cl_S) => ∀ (T : Nat → Nat × Nat) (H : Heap) (locs : List Loc) (ls : Array Slot) (cells slots : Nat), cl_G true D c0 ({ frames := 3, cells := σ0.2.2.2.2.2.1, slots := σ0.2.2.2.2.2.2, locals := 66 }) s σ0.2.2.2.1 T z.2 H locs cells slots → (T a).1 = 23 → cl_RT T x1 1 → lv_has ls 5 [(0, .ref (c0 + a)), (1, cl_rf c0 x1), (3, .int x3), (4, .int (z.1))] → W p l e ({ frames := 3, cells := σ0.2.2.2.2.2.1, slots := σ0.2.2.2.2.2.2, locals := 66 }) s m args below meth c H locs cells slots (MQ below (cl_Q true D c0 (some (.int r)) cl_no σ0 σ') args s (σ0.2.2.2.2.2.1 - σ'.2.2.2.2.2.1) (σ0.2.2.2.2.2.2 - σ'.2.2.2.2.2.2) (cl_A c0 σ0.2.2.2.1 s.heap.size)) (F0 m 80 ls [])) (fun z : (Int32 × cl_S) => ∀ (T : Nat → Nat × Nat) (H : Heap) (locs : List Loc) (ls : Array Slot) (cells slots : Nat), cl_G true D c0 ({ frames := 3, cells := σ0.2.2.2.2.2.1, slots := σ0.2.2.2.2.2.2, locals := 66 }) s σ0.2.2.2.1 T z.2 H locs cells slots → (T a).1 = 23 → cl_RT T x1 1 → lv_has ls 5 [(0, .ref (c0 + a)), (1, cl_rf c0 x1), (3, .int x3), (4, .int (z.1))] → W p l e ({ frames := 3, cells := σ0.2.2.2.2.2.1, slots := σ0.2.2.2.2.2.2, locals := 66 }) s m args below meth c H locs cells slots (MQ below (cl_Q true D c0 (some (.int r)) cl_no σ0 σ') args s (σ0.2.2.2.2.2.1 - σ'.2.2.2.2.2.1) (σ0.2.2.2.2.2.2 - σ'.2.2.2.2.2.2) (cl_A c0 σ0.2.2.2.1 s.heap.size)) (F0 m 133 ls [])) o) (G : cl_G true D c0 ({ frames := 3, cells := σ0.2.2.2.2.2.1, slots := σ0.2.2.2.2.2.2, locals := 66 }) s σ0.2.2.2.1 T σ H locs cells slots) (ha : (T a).1 = 23) (f1 : cl_RT T x1 1) (hl : lv_has ls 5 [(0, .ref (c0 + a)), (1, cl_rf c0 x1), (3, .int x3), (4, .int x4)]) : W p l e ({ frames := 3, cells := σ0.2.2.2.2.2.1, slots := σ0.2.2.2.2.2.2, locals := 66 }) s m args below meth c H locs cells slots (MQ below (cl_Q true D c0 (some (.int r)) cl_no σ0 σ') args s (σ0.2.2.2.2.2.1 - σ'.2.2.2.2.2.1) (σ0.2.2.2.2.2.2 - σ'.2.2.2.2.2.2) (cl_A c0 σ0.2.2.2.1 s.heap.size)) (F0 m 127 ls []) := by
  unfold bc_X7_leastBad_127i80 at h
  refine vl_ex h (fun x4_42 ey h_43 => ?_)
  refine lv_iinc (v := x4_42) (lv' := [(4, .int x4_42), (0, .ref (c0 + a)), (1, cl_rf c0 x1), (3, .int x3)]) C.1 C.2.1 dX7_leastBad_127 hl (k := 3) rfl (by rw [ey]; rfl) (by decide) (by first | rfl | (cases x1 <;> rfl)) (fun ls hl_44 => ?_)
  refine lv_goto (tgt := 80) C.1 C.2.1 dX7_leastBad_130 (by decide) ?_
  cases h_43
  exact hP _ _ _ _ _ _ G ha f1 (lv_sub hl_44 [1, 2, 3, 0] rfl)
noncomputable def lc_X7_leastBad_80 (a : Nat) (x1 : (Option Nat)) (x3 : Int32) (x4 : Int32) (σ : cl_S) : Option ((Int32 × cl_S) ⊕ (Int32 × cl_S)) := (if (σ.1 a 3) ≤ x4 then some (.inr (x4, σ)) else (if (σ.1 a 4) ≤ x4 then some (.inr (x4, σ)) else ix x4 2048 ((if (σ.1 (a + 1) x4.toNatClampNeg) = (1:Int32) then nn x1 (fun a_45 => ix x4 (σ.2.2.2.1 a_45).2 (bd2 (fc_X7_isBad a (σ.1 a_45 x4.toNatClampNeg) x3 σ) (fun r_51 σ_50 => (if r_51 = 0 then bc_X7_leastBad_127i80 a (some a_45) x3 x4 σ_50 else vl (cl_w σ_50 a 4 x4) (fun σ_56 => bc_X7_leastBad_127i80 a (some a_45) x3 x4 σ_56))))) else bc_X7_leastBad_127i80 a x1 x3 x4 σ))))
noncomputable def bc_X7_leastBad_133 (a : Nat) (σ : cl_S) : Option (Int32 × cl_S) := (if (σ.1 a 4) = (2147483647:Int32) then some ((-1:Int32), σ) else some ((σ.1 a 4), σ))
set_option maxHeartbeats 4000000 in
theorem wc_X7_leastBad_133 (C : cl_C D p s m args meth c cX7_leastBad 5 (some .int) RX7) {r : Int32} {a : Nat} {σ0 σ σ' : cl_S} {T : Nat → Nat × Nat} {H : Heap} {locs : List Loc} {ls : Array Slot} {cells slots : Nat} (h : bc_X7_leastBad_133 a σ = some (r, σ')) (G : cl_G true D c0 ({ frames := 3, cells := σ0.2.2.2.2.2.1, slots := σ0.2.2.2.2.2.2, locals := 66 }) s σ0.2.2.2.1 T σ H locs cells slots) (ha : (T a).1 = 23) (hl : lv_has ls 5 [(0, .ref (c0 + a))]) : W p l e ({ frames := 3, cells := σ0.2.2.2.2.2.1, slots := σ0.2.2.2.2.2.2, locals := 66 }) s m args below meth c H locs cells slots (MQ below (cl_Q true D c0 (some (.int r)) cl_no σ0 σ') args s (σ0.2.2.2.2.2.1 - σ'.2.2.2.2.2.1) (σ0.2.2.2.2.2.2 - σ'.2.2.2.2.2.2) (cl_A c0 σ0.2.2.2.1 s.heap.size)) (F0 m 133 ls []) := by
  unfold bc_X7_leastBad_133 at h
  refine lv_aload_n C.1 C.2.1 dX7_leastBad_133 rfl (lv_at hl 0 rfl) ?_
  refine cg_7_25 C G ha dX7_leastBad_134 ?_
  refine lv_ldc (v := (2147483647:Int32)) C.1 C.2.1 C.2.2.2.1 (C.2.2.2.2.1 _ kc_RX7_24) dX7_leastBad_137 ?_
  refine lv_icmp_ne (tgt := 146) C.1 C.2.1 dX7_leastBad_139 (by decide) (fun hc => ?_) (fun hc => ?_)
  · rw [if_neg hc] at h
    refine lv_aload_n C.1 C.2.1 dX7_leastBad_146 rfl (lv_at hl 0 rfl) ?_
    refine cg_7_25 C G ha dX7_leastBad_147 ?_
    exact cl_iret ⟨rfl, rfl⟩ rfl C G h dX7_leastBad_150
  · rw [if_pos hc] at h
    refine lv_iconst (v := (-1:Int32)) C.1 C.2.1 dX7_leastBad_142 (by decide) ?_
    refine lv_goto (tgt := 150) C.1 C.2.1 dX7_leastBad_143 (by decide) ?_
    exact cl_iret ⟨rfl, rfl⟩ rfl C G h dX7_leastBad_150
noncomputable def ec_X7_leastBad_80 (a : Nat) (x1 : (Option Nat)) (x3 : Int32) (x4 : Int32) (σ : cl_S) : Option (Int32 × cl_S) := bc_X7_leastBad_133 a σ
noncomputable def bc_X7_leastBad_80 (a : Nat) (x1 : (Option Nat)) (x3 : Int32) (x4 : Int32) (σ : cl_S) : Option (Int32 × cl_S) := (lp (fun z : (Int32 × cl_S) => lc_X7_leastBad_80 a x1 x3 z.1 z.2) (x4, σ)).bind (fun z => ec_X7_leastBad_80 a x1 x3 z.1 z.2)
set_option maxHeartbeats 4000000 in
theorem wc_X7_leastBad_80 (C : cl_C D p s m args meth c cX7_leastBad 5 (some .int) RX7) {r : Int32} {a : Nat} {x1 : (Option Nat)} {x3 : Int32} {x4 : Int32} {σ0 σ σ' : cl_S} {T : Nat → Nat × Nat} {H : Heap} {locs : List Loc} {ls : Array Slot} {cells slots : Nat} (h : bc_X7_leastBad_80 a x1 x3 x4 σ = some (r, σ')) (G : cl_G true D c0 ({ frames := 3, cells := σ0.2.2.2.2.2.1, slots := σ0.2.2.2.2.2.2, locals := 66 }) s σ0.2.2.2.1 T σ H locs cells slots) (ha : (T a).1 = 23) (f1 : cl_RT T x1 1) (hl : lv_has ls 5 [(0, .ref (c0 + a)), (1, cl_rf c0 x1), (3, .int x3), (4, .int x4)]) : W p l e ({ frames := 3, cells := σ0.2.2.2.2.2.1, slots := σ0.2.2.2.2.2.2, locals := 66 }) s m args below meth c H locs cells slots (MQ below (cl_Q true D c0 (some (.int r)) cl_no σ0 σ') args s (σ0.2.2.2.2.2.1 - σ'.2.2.2.2.2.1) (σ0.2.2.2.2.2.2 - σ'.2.2.2.2.2.2) (cl_A c0 σ0.2.2.2.1 s.heap.size)) (F0 m 80 ls []) := by
  unfold bc_X7_leastBad_80 at h
  obtain ⟨y, hy, h⟩ := bd_some h
  have hE : (fun z : (Int32 × cl_S) => ∀ (T : Nat → Nat × Nat) (H : Heap) (locs : List Loc) (ls : Array Slot) (cells slots : Nat), cl_G true D c0 ({ frames := 3, cells := σ0.2.2.2.2.2.1, slots := σ0.2.2.2.2.2.2, locals := 66 }) s σ0.2.2.2.1 T z.2 H locs cells slots → (T a).1 = 23 → cl_RT T x1 1 → lv_has ls 5 [(0, .ref (c0 + a)), (1, cl_rf c0 x1), (3, .int x3), (4, .int (z.1))] → W p l e ({ frames := 3, cells := σ0.2.2.2.2.2.1, slots := σ0.2.2.2.2.2.2, locals := 66 }) s m args below meth c H locs cells slots (MQ below (cl_Q true D c0 (some (.int r)) cl_no σ0 σ') args s (σ0.2.2.2.2.2.1 - σ'.2.2.2.2.2.1) (σ0.2.2.2.2.2.2 - σ'.2.2.2.2.2.2) (cl_A c0 σ0.2.2.2.1 s.heap.size)) (F0 m 133 ls [])) y := by
    clear hy G ha f1 hl
    intro T H locs ls cells slots G ha f1 hl
    obtain ⟨x4, σ⟩ := y
    dsimp only at h G ha f1 hl
    unfold ec_X7_leastBad_80 at h
    exact wc_X7_leastBad_133 C h G ha (lv_sub hl [0] rfl)
  refine lp_recE (fun z : (Int32 × cl_S) => ∀ (T : Nat → Nat × Nat) (H : Heap) (locs : List Loc) (ls : Array Slot) (cells slots : Nat), cl_G true D c0 ({ frames := 3, cells := σ0.2.2.2.2.2.1, slots := σ0.2.2.2.2.2.2, locals := 66 }) s σ0.2.2.2.1 T z.2 H locs cells slots → (T a).1 = 23 → cl_RT T x1 1 → lv_has ls 5 [(0, .ref (c0 + a)), (1, cl_rf c0 x1), (3, .int x3), (4, .int (z.1))] → W p l e ({ frames := 3, cells := σ0.2.2.2.2.2.1, slots := σ0.2.2.2.2.2.2, locals := 66 }) s m args below meth c H locs cells slots (MQ below (cl_Q true D c0 (some (.int r)) cl_no σ0 σ') args s (σ0.2.2.2.2.2.1 - σ'.2.2.2.2.2.1) (σ0.2.2.2.2.2.2 - σ'.2.2.2.2.2.2) (cl_A c0 σ0.2.2.2.1 s.heap.size)) (F0 m 80 ls [])) (fun z : (Int32 × cl_S) => ∀ (T : Nat → Nat × Nat) (H : Heap) (locs : List Loc) (ls : Array Slot) (cells slots : Nat), cl_G true D c0 ({ frames := 3, cells := σ0.2.2.2.2.2.1, slots := σ0.2.2.2.2.2.2, locals := 66 }) s σ0.2.2.2.1 T z.2 H locs cells slots → (T a).1 = 23 → cl_RT T x1 1 → lv_has ls 5 [(0, .ref (c0 + a)), (1, cl_rf c0 x1), (3, .int x3), (4, .int (z.1))] → W p l e ({ frames := 3, cells := σ0.2.2.2.2.2.1, slots := σ0.2.2.2.2.2.2, locals := 66 }) s m args below meth c H locs cells slots (MQ below (cl_Q true D c0 (some (.int r)) cl_no σ0 σ') args s (σ0.2.2.2.2.2.1 - σ'.2.2.2.2.2.1) (σ0.2.2.2.2.2.2 - σ'.2.2.2.2.2.2) (cl_A c0 σ0.2.2.2.1 s.heap.size)) (F0 m 133 ls [])) ?_ _ _ hy hE _ _ _ _ _ _ G ha f1 hl
  clear hE hy G ha f1 hl h
  intro z o h hP T H locs ls cells slots G ha f1 hl
  obtain ⟨x4, σ⟩ := z
  dsimp only at h G ha f1 hl
  unfold lc_X7_leastBad_80 at h
  refine lv_iload C.1 C.2.1 dX7_leastBad_80 (lv_at hl 3 rfl) ?_
  refine lv_aload_n C.1 C.2.1 dX7_leastBad_82 rfl (lv_at hl 0 rfl) ?_
  refine cg_7_20 C G ha dX7_leastBad_83 ?_
  refine lv_icmp_ge (tgt := 133) C.1 C.2.1 dX7_leastBad_86 (by decide) (fun hc => ?_) (fun hc => ?_)
  · rw [if_pos hc] at h
    cases h
    exact hP _ _ _ _ _ _ G ha f1 (lv_sub hl [0, 1, 2, 3] rfl)
  · rw [if_neg hc] at h
    refine lv_iload C.1 C.2.1 dX7_leastBad_89 (lv_at hl 3 rfl) ?_
    refine lv_aload_n C.1 C.2.1 dX7_leastBad_91 rfl (lv_at hl 0 rfl) ?_
    refine cg_7_25 C G ha dX7_leastBad_92 ?_
    refine lv_icmp_ge (tgt := 133) C.1 C.2.1 dX7_leastBad_95 (by decide) (fun hc => ?_) (fun hc => ?_)
    · rw [if_pos hc] at h
      cases h
      exact hP _ _ _ _ _ _ G ha f1 (lv_sub hl [0, 1, 2, 3] rfl)
    · rw [if_neg hc] at h
      refine lv_aload_n C.1 C.2.1 dX7_leastBad_98 rfl (lv_at hl 0 rfl) ?_
      refine cg_7_11 C G ha dX7_leastBad_99 (fun t_40 => ?_)
      refine lv_iload C.1 C.2.1 dX7_leastBad_102 (lv_at hl 3 rfl) ?_
      obtain ⟨hi, h_41⟩ := ix_some h
      refine cl_iald C G t_40 hi dX7_leastBad_104 ?_
      refine lv_iconst (v := (1:Int32)) C.1 C.2.1 dX7_leastBad_105 (by decide) ?_
      refine lv_icmp_ne (tgt := 127) C.1 C.2.1 dX7_leastBad_106 (by decide) (fun hc => ?_) (fun hc => ?_)
      · rw [if_neg hc] at h_41
        exact wc_X7_leastBad_127i80 C h_41 hP G ha f1 (lv_sub hl [0, 1, 2, 3] rfl)
      · rw [if_pos hc] at h_41
        refine lv_aload_n C.1 C.2.1 dX7_leastBad_109 rfl (lv_at hl 0 rfl) ?_
        refine cl_aload_n C.1 C.2.1 dX7_leastBad_110 rfl (lv_at hl 1 rfl) ?_
        refine lv_iload C.1 C.2.1 dX7_leastBad_111 (lv_at hl 3 rfl) ?_
        obtain ⟨a_45, rfl, h_47⟩ := nn_some h_41
        have t_46 := f1 _ rfl
        have t_48 : T a_45 = (1, (σ.2.2.2.1 a_45).2) := by rw [G.1]; exact Prod.ext t_46 rfl
        obtain ⟨hi, h_49⟩ := ix_some h_47
        refine cl_iald C G t_48 hi dX7_leastBad_113 ?_
        refine lv_iload_n C.1 C.2.1 dX7_leastBad_114 rfl (lv_at hl 2 rfl) ?_
        obtain ⟨r_51, σ_50, hq, h_52⟩ := bd2_some h_49
        refine cl_callV (ci := 7) (rest := []) C G rfl ha cw_RX7_45 [.int (σ.1 a_45 x4.toNatClampNeg), .int x3] _ (kc_X7_isBad l D c0 (by rw [G.1]; exact ha) hq) (Nat.le_of_ble_eq_true rfl) (Nat.le_of_ble_eq_true rfl) rfl rfl hl.1 (Nat.le_of_ble_eq_true rfl) dX7_leastBad_115 (fun T_53 H locs cells slots t_54 hu G_55 => ?_)
        have ha := hu.kind ha (by decide)
        have t_46 := hu.kind t_46 (by decide)
        refine W.eq (g2 := F0 m 118 ls [.int r_51]) rfl ?_
        refine lv_if_eq (tgt := 127) C.1 C.2.1 dX7_leastBad_118 (by decide) (fun hc => ?_) (fun hc => ?_)
        · rw [if_pos hc] at h_52
          exact wc_X7_leastBad_127i80 C h_52 hP G_55 ha (cl_RTs (by rw [t_46])) (lv_sub hl [0, 1, 2, 3] rfl)
        · rw [if_neg hc] at h_52
          refine lv_aload_n C.1 C.2.1 dX7_leastBad_121 rfl (lv_at hl 0 rfl) ?_
          refine lv_iload C.1 C.2.1 dX7_leastBad_122 (lv_at hl 3 rfl) ?_
          refine cp_7_25 C G_55 ha dX7_leastBad_124 (fun H locs G_57 => ?_)
          refine cl_nm G_57 h_52 (fun σ_56 G_58 h_59 => ?_)
          exact wc_X7_leastBad_127i80 C h_59 hP G_58 ha (cl_RTs (by rw [t_46])) (lv_sub hl [0, 1, 2, 3] rfl)
noncomputable def bc_X7_leastBad_77 (a : Nat) (x1 : (Option Nat)) (x3 : Int32) (σ : cl_S) : Option (Int32 × cl_S) := bc_X7_leastBad_80 a x1 x3 (0:Int32) σ
set_option maxHeartbeats 4000000 in
theorem wc_X7_leastBad_77 (C : cl_C D p s m args meth c cX7_leastBad 5 (some .int) RX7) {r : Int32} {a : Nat} {x1 : (Option Nat)} {x3 : Int32} {σ0 σ σ' : cl_S} {T : Nat → Nat × Nat} {H : Heap} {locs : List Loc} {ls : Array Slot} {cells slots : Nat} (h : bc_X7_leastBad_77 a x1 x3 σ = some (r, σ')) (G : cl_G true D c0 ({ frames := 3, cells := σ0.2.2.2.2.2.1, slots := σ0.2.2.2.2.2.2, locals := 66 }) s σ0.2.2.2.1 T σ H locs cells slots) (ha : (T a).1 = 23) (f1 : cl_RT T x1 1) (hl : lv_has ls 5 [(0, .ref (c0 + a)), (1, cl_rf c0 x1), (3, .int x3)]) : W p l e ({ frames := 3, cells := σ0.2.2.2.2.2.1, slots := σ0.2.2.2.2.2.2, locals := 66 }) s m args below meth c H locs cells slots (MQ below (cl_Q true D c0 (some (.int r)) cl_no σ0 σ') args s (σ0.2.2.2.2.2.1 - σ'.2.2.2.2.2.1) (σ0.2.2.2.2.2.2 - σ'.2.2.2.2.2.2) (cl_A c0 σ0.2.2.2.1 s.heap.size)) (F0 m 77 ls []) := by
  unfold bc_X7_leastBad_77 at h
  refine lv_iconst (v := (0:Int32)) C.1 C.2.1 dX7_leastBad_77 (by decide) ?_
  refine lv_istore (lv' := [(4, .int (0:Int32)), (0, .ref (c0 + a)), (1, cl_rf c0 x1), (3, .int x3)]) C.1 C.2.1 dX7_leastBad_78 hl (by decide) (by first | rfl | (cases x1 <;> rfl)) (fun ls hl_39 => ?_)
  exact wc_X7_leastBad_80 C h G ha f1 (lv_sub hl_39 [1, 2, 3, 0] rfl)
noncomputable def ec_X7_leastBad_32 (a : Nat) (x1 : (Option Nat)) (x3 : Int32) (x4 : Int32) (σ : cl_S) : Option (Int32 × cl_S) := bc_X7_leastBad_77 a x1 x3 σ
noncomputable def bc_X7_leastBad_32 (a : Nat) (x1 : (Option Nat)) (x3 : Int32) (x4 : Int32) (σ : cl_S) : Option (Int32 × cl_S) := (lp (fun z : (Int32 × cl_S) => lc_X7_leastBad_32 a x1 x3 z.1 z.2) (x4, σ)).bind (fun z => ec_X7_leastBad_32 a x1 x3 z.1 z.2)
set_option maxHeartbeats 4000000 in
theorem wc_X7_leastBad_32 (C : cl_C D p s m args meth c cX7_leastBad 5 (some .int) RX7) {r : Int32} {a : Nat} {x1 : (Option Nat)} {x3 : Int32} {x4 : Int32} {σ0 σ σ' : cl_S} {T : Nat → Nat × Nat} {H : Heap} {locs : List Loc} {ls : Array Slot} {cells slots : Nat} (h : bc_X7_leastBad_32 a x1 x3 x4 σ = some (r, σ')) (G : cl_G true D c0 ({ frames := 3, cells := σ0.2.2.2.2.2.1, slots := σ0.2.2.2.2.2.2, locals := 66 }) s σ0.2.2.2.1 T σ H locs cells slots) (ha : (T a).1 = 23) (f1 : cl_RT T x1 1) (hl : lv_has ls 5 [(0, .ref (c0 + a)), (1, cl_rf c0 x1), (3, .int x3), (4, .int x4)]) : W p l e ({ frames := 3, cells := σ0.2.2.2.2.2.1, slots := σ0.2.2.2.2.2.2, locals := 66 }) s m args below meth c H locs cells slots (MQ below (cl_Q true D c0 (some (.int r)) cl_no σ0 σ') args s (σ0.2.2.2.2.2.1 - σ'.2.2.2.2.2.1) (σ0.2.2.2.2.2.2 - σ'.2.2.2.2.2.2) (cl_A c0 σ0.2.2.2.1 s.heap.size)) (F0 m 32 ls []) := by
  unfold bc_X7_leastBad_32 at h
  obtain ⟨y, hy, h⟩ := bd_some h
  have hE : (fun z : (Int32 × cl_S) => ∀ (T : Nat → Nat × Nat) (H : Heap) (locs : List Loc) (ls : Array Slot) (cells slots : Nat), cl_G true D c0 ({ frames := 3, cells := σ0.2.2.2.2.2.1, slots := σ0.2.2.2.2.2.2, locals := 66 }) s σ0.2.2.2.1 T z.2 H locs cells slots → (T a).1 = 23 → cl_RT T x1 1 → lv_has ls 5 [(0, .ref (c0 + a)), (1, cl_rf c0 x1), (3, .int x3), (4, .int (z.1))] → W p l e ({ frames := 3, cells := σ0.2.2.2.2.2.1, slots := σ0.2.2.2.2.2.2, locals := 66 }) s m args below meth c H locs cells slots (MQ below (cl_Q true D c0 (some (.int r)) cl_no σ0 σ') args s (σ0.2.2.2.2.2.1 - σ'.2.2.2.2.2.1) (σ0.2.2.2.2.2.2 - σ'.2.2.2.2.2.2) (cl_A c0 σ0.2.2.2.1 s.heap.size)) (F0 m 77 ls [])) y := by
    clear hy G ha f1 hl
    intro T H locs ls cells slots G ha f1 hl
    obtain ⟨x4, σ⟩ := y
    dsimp only at h G ha f1 hl
    unfold ec_X7_leastBad_32 at h
    exact wc_X7_leastBad_77 C h G ha f1 (lv_sub hl [0, 1, 2] rfl)
  refine lp_recE (fun z : (Int32 × cl_S) => ∀ (T : Nat → Nat × Nat) (H : Heap) (locs : List Loc) (ls : Array Slot) (cells slots : Nat), cl_G true D c0 ({ frames := 3, cells := σ0.2.2.2.2.2.1, slots := σ0.2.2.2.2.2.2, locals := 66 }) s σ0.2.2.2.1 T z.2 H locs cells slots → (T a).1 = 23 → cl_RT T x1 1 → lv_has ls 5 [(0, .ref (c0 + a)), (1, cl_rf c0 x1), (3, .int x3), (4, .int (z.1))] → W p l e ({ frames := 3, cells := σ0.2.2.2.2.2.1, slots := σ0.2.2.2.2.2.2, locals := 66 }) s m args below meth c H locs cells slots (MQ below (cl_Q true D c0 (some (.int r)) cl_no σ0 σ') args s (σ0.2.2.2.2.2.1 - σ'.2.2.2.2.2.1) (σ0.2.2.2.2.2.2 - σ'.2.2.2.2.2.2) (cl_A c0 σ0.2.2.2.1 s.heap.size)) (F0 m 32 ls [])) (fun z : (Int32 × cl_S) => ∀ (T : Nat → Nat × Nat) (H : Heap) (locs : List Loc) (ls : Array Slot) (cells slots : Nat), cl_G true D c0 ({ frames := 3, cells := σ0.2.2.2.2.2.1, slots := σ0.2.2.2.2.2.2, locals := 66 }) s σ0.2.2.2.1 T z.2 H locs cells slots → (T a).1 = 23 → cl_RT T x1 1 → lv_has ls 5 [(0, .ref (c0 + a)), (1, cl_rf c0 x1), (3, .int x3), (4, .int (z.1))] → W p l e ({ frames := 3, cells := σ0.2.2.2.2.2.1, slots := σ0.2.2.2.2.2.2, locals := 66 }) s m args below meth c H locs cells slots (MQ below (cl_Q true D c0 (some (.int r)) cl_no σ0 σ') args s (σ0.2.2.2.2.2.1 - σ'.2.2.2.2.2.1) (σ0.2.2.2.2.2.2 - σ'.2.2.2.2.2.2) (cl_A c0 σ0.2.2.2.1 s.heap.size)) (F0 m 77 ls [])) ?_ _ _ hy hE _ _ _ _ _ _ G ha f1 hl
  clear hE hy G ha f1 hl h
  intro z o h hP T H locs ls cells slots G ha f1 hl
  obtain ⟨x4, σ⟩ := z
  dsimp only at h G ha f1 hl
  unfold lc_X7_leastBad_32 at h
  refine lv_iload C.1 C.2.1 dX7_leastBad_32 (lv_at hl 3 rfl) ?_
  refine lv_sipush (v := (2048:Int32)) C.1 C.2.1 dX7_leastBad_34 (by decide) ?_
  refine lv_icmp_ge (tgt := 77) C.1 C.2.1 dX7_leastBad_37 (by decide) (fun hc => ?_) (fun hc => ?_)
  · rw [if_pos hc] at h
    cases h
    exact hP _ _ _ _ _ _ G ha f1 (lv_sub hl [0, 1, 2, 3] rfl)
  · rw [if_neg hc] at h
    refine lv_aload_n C.1 C.2.1 dX7_leastBad_40 rfl (lv_at hl 0 rfl) ?_
    refine cg_7_28 C G ha dX7_leastBad_41 ?_
    refine lv_if_le (tgt := 77) C.1 C.2.1 dX7_leastBad_44 (by decide) (fun hc => ?_) (fun hc => ?_)
    · rw [if_pos hc] at h
      cases h
      exact hP _ _ _ _ _ _ G ha f1 (lv_sub hl [0, 1, 2, 3] rfl)
    · rw [if_neg hc] at h
      refine lv_aload_n C.1 C.2.1 dX7_leastBad_47 rfl (lv_at hl 0 rfl) ?_
      refine lv_dup C.1 C.2.1 dX7_leastBad_48 rfl ?_
      refine cg_7_28 C G ha dX7_leastBad_49 ?_
      refine lv_iconst (v := (1:Int32)) C.1 C.2.1 dX7_leastBad_52 (by decide) ?_
      refine lv_isub C.1 C.2.1 dX7_leastBad_53 ?_
      refine cp_7_28 C G ha dX7_leastBad_54 (fun H locs G_26 => ?_)
      refine cl_nm G_26 h (fun σ_25 G_27 h_28 => ?_)
      refine lv_aload_n C.1 C.2.1 dX7_leastBad_57 rfl (lv_at hl 0 rfl) ?_
      refine lv_aload_n C.1 C.2.1 dX7_leastBad_58 rfl (lv_at hl 0 rfl) ?_
      refine cg_7_17 C G_27 ha dX7_leastBad_59 (fun t_29 => ?_)
      refine lv_aload_n C.1 C.2.1 dX7_leastBad_62 rfl (lv_at hl 0 rfl) ?_
      refine cg_7_28 C G_27 ha dX7_leastBad_63 ?_
      obtain ⟨hi, h_30⟩ := ix_some h_28
      refine cl_iald C G_27 t_29 hi dX7_leastBad_66 ?_
      refine cl_aload_n C.1 C.2.1 dX7_leastBad_67 rfl (lv_at hl 1 rfl) ?_
      obtain ⟨σ_31, hq, h_32⟩ := bd1_some h_30
      refine cl_callV (ci := 7) (rest := []) C G_27 rfl ha cw_RX7_41 [.int (σ_25.1 (a + 2) (σ_25.1 a 2).toNatClampNeg), cl_rf c0 x1] _ (kc_X7_follow l D c0 (by rw [G_27.1]; exact ha) hq (by rw [G_27.1]; exact f1)) (Nat.le_of_ble_eq_true rfl) (Nat.le_of_ble_eq_true rfl) rfl rfl hl.1 (Nat.le_of_ble_eq_true rfl) dX7_leastBad_68 (fun T_33 H locs cells slots t_34 hu G_35 => ?_)
      have ha := hu.kind ha (by decide)
      have f1 := f1.up hu (by decide)
      refine W.eq (g2 := F0 m 71 ls []) rfl ?_
      refine vl_ex h_32 (fun x4_36 ey h_37 => ?_)
      refine lv_iinc (v := x4_36) (lv' := [(4, .int x4_36), (0, .ref (c0 + a)), (1, cl_rf c0 x1), (3, .int x3)]) C.1 C.2.1 dX7_leastBad_71 hl (k := 3) rfl (by rw [ey]; rfl) (by decide) (by first | rfl | (cases x1 <;> rfl)) (fun ls hl_38 => ?_)
      refine lv_goto (tgt := 32) C.1 C.2.1 dX7_leastBad_74 (by decide) ?_
      cases h_37
      exact hP _ _ _ _ _ _ G_35 ha f1 (lv_sub hl_38 [1, 2, 3, 0] rfl)
noncomputable def bc_X7_leastBad_0 (a : Nat) (x1 : (Option Nat)) (x2 : Int32) (x3 : Int32) (σ : cl_S) : Option (Int32 × cl_S) := vl (cl_w σ a 3 x2) (fun σ_1 => vl (cl_w σ_1 a 4 (2147483647:Int32)) (fun σ_5 => vl (cl_w σ_5 a 2 (0:Int32)) (fun σ_9 => bd1 (fc_J7_fill_53178 (some (a + 1)) (0:Int32) σ_9) (fun σ_14 => bd1 (fc_X7_reach a (0:Int32) σ_14) (fun σ_19 => bc_X7_leastBad_32 a x1 x3 (0:Int32) σ_19)))))
set_option maxHeartbeats 4000000 in
theorem wc_X7_leastBad_0 (C : cl_C D p s m args meth c cX7_leastBad 5 (some .int) RX7) {r : Int32} {a : Nat} {x1 : (Option Nat)} {x2 : Int32} {x3 : Int32} {σ0 σ σ' : cl_S} {T : Nat → Nat × Nat} {H : Heap} {locs : List Loc} {ls : Array Slot} {cells slots : Nat} (h : bc_X7_leastBad_0 a x1 x2 x3 σ = some (r, σ')) (G : cl_G true D c0 ({ frames := 3, cells := σ0.2.2.2.2.2.1, slots := σ0.2.2.2.2.2.2, locals := 66 }) s σ0.2.2.2.1 T σ H locs cells slots) (ha : (T a).1 = 23) (f1 : cl_RT T x1 1) (hl : lv_has ls 5 [(0, .ref (c0 + a)), (1, cl_rf c0 x1), (2, .int x2), (3, .int x3)]) : W p l e ({ frames := 3, cells := σ0.2.2.2.2.2.1, slots := σ0.2.2.2.2.2.2, locals := 66 }) s m args below meth c H locs cells slots (MQ below (cl_Q true D c0 (some (.int r)) cl_no σ0 σ') args s (σ0.2.2.2.2.2.1 - σ'.2.2.2.2.2.1) (σ0.2.2.2.2.2.2 - σ'.2.2.2.2.2.2) (cl_A c0 σ0.2.2.2.1 s.heap.size)) (F0 m 0 ls []) := by
  unfold bc_X7_leastBad_0 at h
  refine lv_aload_n C.1 C.2.1 dX7_leastBad_0 rfl (lv_at hl 0 rfl) ?_
  refine lv_iload_n C.1 C.2.1 dX7_leastBad_1 rfl (lv_at hl 2 rfl) ?_
  refine cp_7_20 C G ha dX7_leastBad_2 (fun H locs G_2 => ?_)
  refine cl_nm G_2 h (fun σ_1 G_3 h_4 => ?_)
  refine lv_aload_n C.1 C.2.1 dX7_leastBad_5 rfl (lv_at hl 0 rfl) ?_
  refine lv_ldc (v := (2147483647:Int32)) C.1 C.2.1 C.2.2.2.1 (C.2.2.2.2.1 _ kc_RX7_24) dX7_leastBad_6 ?_
  refine cp_7_25 C G_3 ha dX7_leastBad_8 (fun H locs G_6 => ?_)
  refine cl_nm G_6 h_4 (fun σ_5 G_7 h_8 => ?_)
  refine lv_aload_n C.1 C.2.1 dX7_leastBad_11 rfl (lv_at hl 0 rfl) ?_
  refine lv_iconst (v := (0:Int32)) C.1 C.2.1 dX7_leastBad_12 (by decide) ?_
  refine cp_7_28 C G_7 ha dX7_leastBad_13 (fun H locs G_10 => ?_)
  refine cl_nm G_10 h_8 (fun σ_9 G_11 h_12 => ?_)
  refine lv_aload_n C.1 C.2.1 dX7_leastBad_16 rfl (lv_at hl 0 rfl) ?_
  refine cg_7_11 C G_11 ha dX7_leastBad_17 (fun t_13 => ?_)
  refine lv_iconst (v := (0:Int32)) C.1 C.2.1 dX7_leastBad_20 (by decide) ?_
  obtain ⟨σ_14, hq, h_15⟩ := bd1_some h_12
  refine cl_callS (rest := []) C G_11 cw_RX7_31 [.ref (c0 + (a + 1)), .int (0:Int32)] _ (kc_J7_fill_53178 l D c0 hq (by rw [G_11.1]; exact (cl_RTs (by rw [t_13])))) (Nat.le_of_ble_eq_true rfl) (Nat.le_of_ble_eq_true rfl) rfl rfl hl.1 (Nat.le_of_ble_eq_true rfl) dX7_leastBad_21 (fun T_16 H locs cells slots t_17 hu G_18 => ?_)
  have ha := hu.kind ha (by decide)
  have f1 := f1.up hu (by decide)
  refine W.eq (g2 := F0 m 24 ls []) rfl ?_
  refine lv_aload_n C.1 C.2.1 dX7_leastBad_24 rfl (lv_at hl 0 rfl) ?_
  refine lv_iconst (v := (0:Int32)) C.1 C.2.1 dX7_leastBad_25 (by decide) ?_
  obtain ⟨σ_19, hq, h_20⟩ := bd1_some h_15
  refine cl_callV (ci := 7) (rest := []) C G_18 rfl ha cw_RX7_37 [.int (0:Int32)] _ (kc_X7_reach l D c0 (by rw [G_18.1]; exact ha) hq) (Nat.le_of_ble_eq_true rfl) (Nat.le_of_ble_eq_true rfl) rfl rfl hl.1 (Nat.le_of_ble_eq_true rfl) dX7_leastBad_26 (fun T_21 H locs cells slots t_22 hu G_23 => ?_)
  have ha := hu.kind ha (by decide)
  have f1 := f1.up hu (by decide)
  refine W.eq (g2 := F0 m 29 ls []) rfl ?_
  refine lv_iconst (v := (0:Int32)) C.1 C.2.1 dX7_leastBad_29 (by decide) ?_
  refine lv_istore (lv' := [(4, .int (0:Int32)), (0, .ref (c0 + a)), (1, cl_rf c0 x1), (2, .int x2), (3, .int x3)]) C.1 C.2.1 dX7_leastBad_30 hl (by decide) (by first | rfl | (cases x1 <;> rfl)) (fun ls hl_24 => ?_)
  exact wc_X7_leastBad_32 C h_20 G_23 ha f1 (lv_sub hl_24 [1, 2, 4, 0] rfl)
noncomputable def fc_X7_leastBad (a : Nat) (x1 : (Option Nat)) (x2 : Int32) (x3 : Int32) (σ : cl_S) : Option (Int32 × cl_S) := bc_X7_leastBad_0 a x1 x2 x3 σ
theorem kc_X7_leastBad (l : Launch) (D : cl_D) (c0 : Nat) {r : Int32} {a : Nat} {x1 : (Option Nat)} {x2 : Int32} {x3 : Int32} {σ σ' : cl_S} (ha : (σ.2.2.2.1 a).1 = 23) (h : fc_X7_leastBad a x1 x2 x3 σ = some (r, σ')) (f1 : cl_RT σ.2.2.2.1 x1 1) : cl_Met true l D c0 yX7_leastBad cX7_leastBad 5 (some .int) 3 66 [.ref (c0 + a), cl_rf c0 x1, .int x2, .int x3] σ (some (.int r)) cl_no σ' :=
  by cases x1 <;> exact cl_of (by decide) (Nat.le_of_ble_eq_true rfl) (fun p e s m args below meth c ls C hn G hl => wc_X7_leastBad_0 C h G ha f1 hl)
abbrev cX9_nextUserOf : ByteArray := prog_11_method_2_code
def yX9_nextUserOf : MethodName := ⟨RX9, "nextUserOf", "(LPartHouse$Term;)LPartHouse$Term;"⟩
theorem dX9_nextUserOf_0 : decode cX9_nextUserOf 0 = .ok (.aload_n 1, 1) := by decide +kernel
theorem dX9_nextUserOf_1 : decode cX9_nextUserOf 1 = .ok (.aload_n 0, 1) := by decide +kernel
theorem dX9_nextUserOf_2 : decode cX9_nextUserOf 2 = .ok (.getfield 30, 3) := by decide +kernel
theorem dX9_nextUserOf_5 : decode cX9_nextUserOf 5 = .ok (.if_acmp .ne 8, 3) := by decide +kernel
theorem dX9_nextUserOf_8 : decode cX9_nextUserOf 8 = .ok (.aload_n 0, 1) := by decide +kernel
theorem dX9_nextUserOf_9 : decode cX9_nextUserOf 9 = .ok (.getfield 33, 3) := by decide +kernel
theorem dX9_nextUserOf_12 : decode cX9_nextUserOf 12 = .ok (.areturn, 1) := by decide +kernel
theorem dX9_nextUserOf_13 : decode cX9_nextUserOf 13 = .ok (.aload_n 1, 1) := by decide +kernel
theorem dX9_nextUserOf_14 : decode cX9_nextUserOf 14 = .ok (.aload_n 0, 1) := by decide +kernel
theorem dX9_nextUserOf_15 : decode cX9_nextUserOf 15 = .ok (.getfield 36, 3) := by decide +kernel
theorem dX9_nextUserOf_18 : decode cX9_nextUserOf 18 = .ok (.if_acmp .ne 10, 3) := by decide +kernel
theorem dX9_nextUserOf_21 : decode cX9_nextUserOf 21 = .ok (.aload_n 0, 1) := by decide +kernel
theorem dX9_nextUserOf_22 : decode cX9_nextUserOf 22 = .ok (.getfield 39, 3) := by decide +kernel
theorem dX9_nextUserOf_25 : decode cX9_nextUserOf 25 = .ok (.goto 7, 3) := by decide +kernel
theorem dX9_nextUserOf_28 : decode cX9_nextUserOf 28 = .ok (.aload_n 0, 1) := by decide +kernel
theorem dX9_nextUserOf_29 : decode cX9_nextUserOf 29 = .ok (.getfield 42, 3) := by decide +kernel
theorem dX9_nextUserOf_32 : decode cX9_nextUserOf 32 = .ok (.areturn, 1) := by decide +kernel
theorem cc_X9_nextUserOf : Cond.code yX9_nextUserOf cX9_nextUserOf 2 (some (.object "PartHouse$Term")) ∈ rf_tb := rf_at 1454 (by decide +kernel) (by decide +kernel)
noncomputable def bc_X9_nextUserOf_0 (a : Nat) (x1 : (Option Nat)) (σ : cl_S) : Option ((Option Nat) × cl_S) := vl (σ.2.2.1 a 3) (fun r_2 => (if x1 = r_2 then vl (σ.2.2.1 a 13) (fun r_18 => some (r_18, σ)) else vl (σ.2.2.1 a 4) (fun r_6 => (if x1 = r_6 then vl (σ.2.2.1 a 14) (fun r_14 => some (r_14, σ)) else vl (σ.2.2.1 a 15) (fun r_10 => some (r_10, σ))))))
set_option maxHeartbeats 4000000 in
theorem wc_X9_nextUserOf_0 (C : cl_C D p s m args meth c cX9_nextUserOf 2 (some (.object "PartHouse$Term")) RX9) {r : (Option Nat)} {a : Nat} {x1 : (Option Nat)} {σ0 σ σ' : cl_S} {T : Nat → Nat × Nat} {H : Heap} {locs : List Loc} {ls : Array Slot} {cells slots : Nat} (h : bc_X9_nextUserOf_0 a x1 σ = some (r, σ')) (G : cl_G true D c0 ({ frames := 0, cells := σ0.2.2.2.2.2.1, slots := σ0.2.2.2.2.2.2, locals := 0 }) s σ0.2.2.2.1 T σ H locs cells slots) (ha : (T a).1 = 25) (f1 : cl_RT T x1 25) (hl : lv_has ls 2 [(0, .ref (c0 + a)), (1, cl_rf c0 x1)]) : W p l e ({ frames := 0, cells := σ0.2.2.2.2.2.1, slots := σ0.2.2.2.2.2.2, locals := 0 }) s m args below meth c H locs cells slots (MQ below (cl_Q true D c0 (some (cl_rf c0 r)) (fun T1 => cl_RT T1 r 25) σ0 σ') args s (σ0.2.2.2.2.2.1 - σ'.2.2.2.2.2.1) (σ0.2.2.2.2.2.2 - σ'.2.2.2.2.2.2) (cl_A c0 σ0.2.2.2.1 s.heap.size)) (F0 m 0 ls []) := by
  unfold bc_X9_nextUserOf_0 at h
  refine cl_aload_n C.1 C.2.1 dX9_nextUserOf_0 rfl (lv_at hl 1 rfl) ?_
  refine lv_aload_n C.1 C.2.1 dX9_nextUserOf_1 rfl (lv_at hl 0 rfl) ?_
  refine cg_9_30 C G ha dX9_nextUserOf_2 (fun t_1 => ?_)
  refine vt_r (K := 25) t_1 h (fun r_2 t_3 h_4 => ?_)
  refine cl_acmp_ne (rx := x1) (ry := r_2) (tgt := 13) C.1 C.2.1 dX9_nextUserOf_5 (by decide) (fun hc => ?_) (fun hc => ?_)
  · rw [if_neg hc] at h_4
    refine cl_aload_n C.1 C.2.1 dX9_nextUserOf_13 rfl (lv_at hl 1 rfl) ?_
    refine lv_aload_n C.1 C.2.1 dX9_nextUserOf_14 rfl (lv_at hl 0 rfl) ?_
    refine cg_9_36 C G ha dX9_nextUserOf_15 (fun t_5 => ?_)
    refine vt_r (K := 25) t_5 h_4 (fun r_6 t_7 h_8 => ?_)
    refine cl_acmp_ne (rx := x1) (ry := r_6) (tgt := 28) C.1 C.2.1 dX9_nextUserOf_18 (by decide) (fun hc => ?_) (fun hc => ?_)
    · rw [if_neg hc] at h_8
      refine lv_aload_n C.1 C.2.1 dX9_nextUserOf_28 rfl (lv_at hl 0 rfl) ?_
      refine cg_9_42 C G ha dX9_nextUserOf_29 (fun t_9 => ?_)
      refine vt_r (K := 25) t_9 h_8 (fun r_10 t_11 h_12 => ?_)
      exact cl_aret (v := r_10) ⟨rfl, rfl⟩ rfl C G h_12 (by first | exact Or.inl ⟨_, rfl⟩ | exact Or.inr ⟨_, rfl⟩) t_11 dX9_nextUserOf_32
    · rw [if_pos hc] at h_8
      refine lv_aload_n C.1 C.2.1 dX9_nextUserOf_21 rfl (lv_at hl 0 rfl) ?_
      refine cg_9_39 C G ha dX9_nextUserOf_22 (fun t_13 => ?_)
      refine vt_r (K := 25) t_13 h_8 (fun r_14 t_15 h_16 => ?_)
      refine lv_goto (tgt := 32) C.1 C.2.1 dX9_nextUserOf_25 (by decide) ?_
      exact cl_aret (v := r_14) ⟨rfl, rfl⟩ rfl C G h_16 (by first | exact Or.inl ⟨_, rfl⟩ | exact Or.inr ⟨_, rfl⟩) t_15 dX9_nextUserOf_32
  · rw [if_pos hc] at h_4
    refine lv_aload_n C.1 C.2.1 dX9_nextUserOf_8 rfl (lv_at hl 0 rfl) ?_
    refine cg_9_33 C G ha dX9_nextUserOf_9 (fun t_17 => ?_)
    refine vt_r (K := 25) t_17 h_4 (fun r_18 t_19 h_20 => ?_)
    exact cl_aret (v := r_18) ⟨rfl, rfl⟩ rfl C G h_20 (by first | exact Or.inl ⟨_, rfl⟩ | exact Or.inr ⟨_, rfl⟩) t_19 dX9_nextUserOf_12
noncomputable def fc_X9_nextUserOf (a : Nat) (x1 : (Option Nat)) (σ : cl_S) : Option ((Option Nat) × cl_S) := bc_X9_nextUserOf_0 a x1 σ
theorem kc_X9_nextUserOf (l : Launch) (D : cl_D) (c0 : Nat) {r : (Option Nat)} {a : Nat} {x1 : (Option Nat)} {σ σ' : cl_S} (ha : (σ.2.2.2.1 a).1 = 25) (h : fc_X9_nextUserOf a x1 σ = some (r, σ')) (f1 : cl_RT σ.2.2.2.1 x1 25) : cl_Met true l D c0 yX9_nextUserOf cX9_nextUserOf 2 (some (.object "PartHouse$Term")) 0 0 [.ref (c0 + a), cl_rf c0 x1] σ (some (cl_rf c0 r)) (fun T1 => cl_RT T1 r 25) σ' :=
  by cases x1 <;> exact cl_of (by decide) (Nat.le_of_ble_eq_true rfl) (fun p e s m args below meth c ls C hn G hl => wc_X9_nextUserOf_0 C h G ha f1 hl)
abbrev cX10_init : ByteArray := prog_12_method_1_code
def yX10_init : MethodName := ⟨RX10, "<init>", "()V"⟩
theorem dX10_init_0 : decode cX10_init 0 = .ok (.aload_n 0, 1) := by decide +kernel
theorem dX10_init_1 : decode cX10_init 1 = .ok (.invokespecial 3, 3) := by decide +kernel
theorem dX10_init_4 : decode cX10_init 4 = .ok (.aload_n 0, 1) := by decide +kernel
theorem dX10_init_5 : decode cX10_init 5 = .ok (.sipush 4096, 3) := by decide +kernel
theorem dX10_init_8 : decode cX10_init 8 = .ok (.anewarray 11, 3) := by decide +kernel
theorem dX10_init_11 : decode cX10_init 11 = .ok (.putfield 13, 3) := by decide +kernel
theorem dX10_init_14 : decode cX10_init 14 = .ok (.aload_n 0, 1) := by decide +kernel
theorem dX10_init_15 : decode cX10_init 15 = .ok (.new 11, 3) := by decide +kernel
theorem dX10_init_18 : decode cX10_init 18 = .ok (.dup, 1) := by decide +kernel
theorem dX10_init_19 : decode cX10_init 19 = .ok (.iconst (-1), 1) := by decide +kernel
theorem dX10_init_20 : decode cX10_init 20 = .ok (.iconst 0, 1) := by decide +kernel
theorem dX10_init_21 : decode cX10_init 21 = .ok (.iconst 0, 1) := by decide +kernel
theorem dX10_init_22 : decode cX10_init 22 = .ok (.aconst_null, 1) := by decide +kernel
theorem dX10_init_23 : decode cX10_init 23 = .ok (.invokespecial 17, 3) := by decide +kernel
theorem dX10_init_26 : decode cX10_init 26 = .ok (.putfield 20, 3) := by decide +kernel
theorem dX10_init_29 : decode cX10_init 29 = .ok (.aload_n 0, 1) := by decide +kernel
theorem dX10_init_30 : decode cX10_init 30 = .ok (.getfield 20, 3) := by decide +kernel
theorem dX10_init_33 : decode cX10_init 33 = .ok (.aload_n 0, 1) := by decide +kernel
theorem dX10_init_34 : decode cX10_init 34 = .ok (.getfield 20, 3) := by decide +kernel
theorem dX10_init_37 : decode cX10_init 37 = .ok (.putfield 24, 3) := by decide +kernel
theorem dX10_init_40 : decode cX10_init 40 = .ok (.aload_n 0, 1) := by decide +kernel
theorem dX10_init_41 : decode cX10_init 41 = .ok (.getfield 20, 3) := by decide +kernel
theorem dX10_init_44 : decode cX10_init 44 = .ok (.aload_n 0, 1) := by decide +kernel
theorem dX10_init_45 : decode cX10_init 45 = .ok (.getfield 20, 3) := by decide +kernel
theorem dX10_init_48 : decode cX10_init 48 = .ok (.putfield 27, 3) := by decide +kernel
theorem dX10_init_51 : decode cX10_init 51 = .ok (.aload_n 0, 1) := by decide +kernel
theorem dX10_init_52 : decode cX10_init 52 = .ok (.getfield 20, 3) := by decide +kernel
theorem dX10_init_55 : decode cX10_init 55 = .ok (.aload_n 0, 1) := by decide +kernel
theorem dX10_init_56 : decode cX10_init 56 = .ok (.getfield 20, 3) := by decide +kernel
theorem dX10_init_59 : decode cX10_init 59 = .ok (.putfield 30, 3) := by decide +kernel
theorem dX10_init_62 : decode cX10_init 62 = .ok (.aload_n 0, 1) := by decide +kernel
theorem dX10_init_63 : decode cX10_init 63 = .ok (.aload_n 0, 1) := by decide +kernel
theorem dX10_init_64 : decode cX10_init 64 = .ok (.invokevirtual 33, 3) := by decide +kernel
theorem dX10_init_67 : decode cX10_init 67 = .ok (.putfield 37, 3) := by decide +kernel
theorem dX10_init_70 : decode cX10_init 70 = .ok (.aload_n 0, 1) := by decide +kernel
theorem dX10_init_71 : decode cX10_init 71 = .ok (.aload_n 0, 1) := by decide +kernel
theorem dX10_init_72 : decode cX10_init 72 = .ok (.bipush 9, 2) := by decide +kernel
theorem dX10_init_74 : decode cX10_init 74 = .ok (.aload_n 0, 1) := by decide +kernel
theorem dX10_init_75 : decode cX10_init 75 = .ok (.getfield 37, 3) := by decide +kernel
theorem dX10_init_78 : decode cX10_init 78 = .ok (.aload_n 0, 1) := by decide +kernel
theorem dX10_init_79 : decode cX10_init 79 = .ok (.iconst 1, 1) := by decide +kernel
theorem dX10_init_80 : decode cX10_init 80 = .ok (.invokevirtual 40, 3) := by decide +kernel
theorem dX10_init_83 : decode cX10_init 83 = .ok (.aload_n 0, 1) := by decide +kernel
theorem dX10_init_84 : decode cX10_init 84 = .ok (.getfield 20, 3) := by decide +kernel
theorem dX10_init_87 : decode cX10_init 87 = .ok (.invokevirtual 44, 3) := by decide +kernel
theorem dX10_init_90 : decode cX10_init 90 = .ok (.putfield 48, 3) := by decide +kernel
theorem dX10_init_93 : decode cX10_init 93 = .ok (.aload_n 0, 1) := by decide +kernel
theorem dX10_init_94 : decode cX10_init 94 = .ok (.aload_n 0, 1) := by decide +kernel
theorem dX10_init_95 : decode cX10_init 95 = .ok (.bipush 6, 2) := by decide +kernel
theorem dX10_init_97 : decode cX10_init 97 = .ok (.aload_n 0, 1) := by decide +kernel
theorem dX10_init_98 : decode cX10_init 98 = .ok (.getfield 48, 3) := by decide +kernel
theorem dX10_init_101 : decode cX10_init 101 = .ok (.aload_n 0, 1) := by decide +kernel
theorem dX10_init_102 : decode cX10_init 102 = .ok (.getfield 20, 3) := by decide +kernel
theorem dX10_init_105 : decode cX10_init 105 = .ok (.aload_n 0, 1) := by decide +kernel
theorem dX10_init_106 : decode cX10_init 106 = .ok (.getfield 20, 3) := by decide +kernel
theorem dX10_init_109 : decode cX10_init 109 = .ok (.invokevirtual 44, 3) := by decide +kernel
theorem dX10_init_112 : decode cX10_init 112 = .ok (.putfield 51, 3) := by decide +kernel
theorem dX10_init_115 : decode cX10_init 115 = .ok (.aload_n 0, 1) := by decide +kernel
theorem dX10_init_116 : decode cX10_init 116 = .ok (.aload_n 0, 1) := by decide +kernel
theorem dX10_init_117 : decode cX10_init 117 = .ok (.getfield 51, 3) := by decide +kernel
theorem dX10_init_120 : decode cX10_init 120 = .ok (.invokevirtual 54, 3) := by decide +kernel
theorem dX10_init_123 : decode cX10_init 123 = .ok (.return_, 1) := by decide +kernel
theorem cc_X10_init : Cond.code yX10_init cX10_init 1 none ∈ rf_tb := rf_at 199 (by decide +kernel) (by decide +kernel)
theorem cw_RX10_33 : cl_wV RX10 RX10 yX10_newSecret cX10_newSecret 2 (some (.object "PartHouse$Term")) 33 0 := ⟨⟨rf_at 286 (by decide +kernel) (by decide +kernel), rf_at 287 (by decide +kernel) (by decide +kernel), rf_at 288 (by decide +kernel) (by decide +kernel), cc_X10_newSecret, rf_at 9 (by decide +kernel) (by decide +kernel)⟩, ⟨by decide, by decide, by decide +kernel⟩⟩
theorem cw_RX10_40 : cl_wV RX10 RX10 yX10_numberTerm cX10_numberTerm 3 (some (.object "PartHouse$Term")) 40 1 := ⟨⟨rf_at 302 (by decide +kernel) (by decide +kernel), rf_at 303 (by decide +kernel) (by decide +kernel), rf_at 304 (by decide +kernel) (by decide +kernel), cc_X10_numberTerm, rf_at 9 (by decide +kernel) (by decide +kernel)⟩, ⟨by decide, by decide, by decide +kernel⟩⟩
theorem cw_RX10_44 : cl_wV RX10 RX10 yX10_made cX10_made 6 (some (.object "PartHouse$Term")) 44 4 := ⟨⟨rf_at 310 (by decide +kernel) (by decide +kernel), rf_at 311 (by decide +kernel) (by decide +kernel), rf_at 312 (by decide +kernel) (by decide +kernel), cc_X10_made, rf_at 9 (by decide +kernel) (by decide +kernel)⟩, ⟨by decide, by decide, by decide +kernel⟩⟩
theorem cw_RX10_54 : cl_wV RX10 RX10 yX10_tell cX10_tell 2 none 54 1 := ⟨⟨rf_at 314 (by decide +kernel) (by decide +kernel), rf_at 315 (by decide +kernel) (by decide +kernel), rf_at 316 (by decide +kernel) (by decide +kernel), cc_X10_tell, rf_at 9 (by decide +kernel) (by decide +kernel)⟩, ⟨by decide, by decide, by decide +kernel⟩⟩
theorem cl_RX10_11 : Cond.classLink RX10 11 "PartHouse$Term" ∈ rf_tb := rf_at 201 (by decide +kernel) (by decide +kernel)
theorem oi_RX10_3 : Cond.methodLink RX10 3 Lib.objectInit ∈ rf_tb := rf_at 200 (by decide +kernel) (by decide +kernel)
noncomputable def bc_X10_init_0 (a : Nat) (σ : cl_S) : Option (cl_S) := nag (4096:Int32) (al σ (4096:Int32).toNatClampNeg (vl σ.2.2.2.2.1 (fun a_1 => vl (cl_nw σ 4 (4096:Int32).toNatClampNeg (4096:Int32).toNatClampNeg) (fun σ_2 => vl (cl_wr σ_2 a 0 (some a_1)) (fun σ_11 => al σ_11 16 (vl σ_11.2.2.2.2.1 (fun a_15 => vl (cl_nw σ_11 125 0 16) (fun σ_16 => bd1 (fc_X9_init a_15 (-1:Int32) (0:Int32) (0:Int32) none σ_16) (fun σ_25 => sealed σ_25 a_15 9 (vl (cl_seal σ_25 a_15 9) (fun σ_30 => vl (cl_wr σ_30 a 4 (some a_15)) (fun σ_35 => vl (σ_35.2.2.1 a 4) (fun r_40 => vl (σ_35.2.2.1 a 4) (fun r_44 => nn r_40 (fun a_47 => vl (cl_wr σ_35 a_47 3 r_44) (fun σ_50 => vl (σ_50.2.2.1 a 4) (fun r_55 => vl (σ_50.2.2.1 a 4) (fun r_59 => nn r_55 (fun a_62 => vl (cl_wr σ_50 a_62 4 r_59) (fun σ_65 => vl (σ_65.2.2.1 a 4) (fun r_70 => vl (σ_65.2.2.1 a 4) (fun r_74 => nn r_70 (fun a_77 => vl (cl_wr σ_65 a_77 5 r_74) (fun σ_80 => bd2 (fc_X10_newSecret a σ_80) (fun r_85 σ_84 => vl (cl_wr σ_84 a 5 r_85) (fun σ_90 => vl (σ_90.2.2.1 a 5) (fun r_95 => bd2 (fc_X10_numberTerm a (1:Int32) σ_90) (fun r_99 σ_98 => vl (σ_98.2.2.1 a 4) (fun r_105 => bd2 (fc_X10_made a (9:Int32) r_95 r_99 r_105 σ_98) (fun r_109 σ_108 => vl (cl_wr σ_108 a 6 r_109) (fun σ_114 => vl (σ_114.2.2.1 a 6) (fun r_119 => vl (σ_114.2.2.1 a 4) (fun r_123 => vl (σ_114.2.2.1 a 4) (fun r_127 => bd2 (fc_X10_made a (6:Int32) r_119 r_123 r_127 σ_114) (fun r_131 σ_130 => vl (cl_wr σ_130 a 7 r_131) (fun σ_136 => vl (σ_136.2.2.1 a 7) (fun r_141 => bd1 (fc_X10_tell a r_141 σ_136) (fun σ_144 => some σ_144))))))))))))))))))))))))))))))))))))))
set_option maxHeartbeats 4000000 in
theorem wc_X10_init_0 (C : cl_C D p s m args meth c cX10_init 1 none RX10) (hn9 : meth.name = "<init>") {a : Nat} {σ0 σ σ' : cl_S} {T : Nat → Nat × Nat} {H : Heap} {locs : List Loc} {ls : Array Slot} {cells slots : Nat} (h : bc_X10_init_0 a σ = some σ') (G : cl_G true D c0 ({ frames := 4, cells := σ0.2.2.2.2.2.1, slots := σ0.2.2.2.2.2.2, locals := 96 }) s σ0.2.2.2.1 T σ H locs cells slots) (ha : (T a).1 = 26) (hl : lv_has ls 1 [(0, .ref (c0 + a))]) : W p l e ({ frames := 4, cells := σ0.2.2.2.2.2.1, slots := σ0.2.2.2.2.2.2, locals := 96 }) s m args below meth c H locs cells slots (MQ below (cl_Q true D c0 none cl_no σ0 σ') args s (σ0.2.2.2.2.2.1 - σ'.2.2.2.2.2.1) (σ0.2.2.2.2.2.2 - σ'.2.2.2.2.2.2) (cl_A c0 σ0.2.2.2.1 s.heap.size)) (F0 m 0 ls []) := by
  unfold bc_X10_init_0 at h
  refine lv_aload_n C.1 C.2.1 dX10_init_0 rfl (lv_at hl 0 rfl) ?_
  refine W.objInit (rest := []) C.1 C.2.1 C.2.2.2.1 (C.2.2.2.2.1 _ oi_RX10_3) (C.2.2.2.2.1 _ oi_i) (C.2.2.2.2.1 _ oi_c) rfl (by rw [C.2.2.1]; exact hl.1) rfl dX10_init_1 (Nat.le_of_ble_eq_true rfl) (Nat.le_of_ble_eq_true rfl) ?_
  refine W.eq (g2 := F0 m 4 ls []) rfl ?_
  refine lv_aload_n C.1 C.2.1 dX10_init_4 rfl (lv_at hl 0 rfl) ?_
  refine lv_sipush (v := (4096:Int32)) C.1 C.2.1 dX10_init_5 (by decide) ?_
  obtain ⟨hng, h_5⟩ := nag_some h
  obtain ⟨hal, h_6⟩ := al_some h_5
  refine cl_newq (t := 4) C G (by decide) (by decide) rfl C.2.2.2.2.2.1.2.2.2.2.1 cl_RX10_11 hng.1 rfl (by have := hng.2; omega) hal dX10_init_8 (fun T_4 H cells slots t_3 hu G_7 => ?_)
  have ha := hu.kind ha (by decide)
  refine cl_nmB h_6 t_3 (fun a_1 t_3 h_8 => ?_)
  refine cl_nm G_7 h_8 (fun σ_2 G_9 h_10 => ?_)
  refine cp_10_13 (x := (some a_1)) hn9 C G_9 ha (cl_RTs (by rw [t_3])) dX10_init_11 (fun H locs G_12 => ?_)
  refine cl_nm G_12 h_10 (fun σ_11 G_13 h_14 => ?_)
  refine lv_aload_n C.1 C.2.1 dX10_init_14 rfl (lv_at hl 0 rfl) ?_
  obtain ⟨hal, h_20⟩ := al_some h_14
  refine cl_new (ci := 9) C G_13 rfl rfl inX9 tyX9 tyX9_ok (by intro k hk; exact nd_9 k hk) nw_RX10_11 ni_9 nz_9 hal dX10_init_15 (fun T_19 H cells slots z_18 t_17 hu G_21 => ?_)
  have ha := hu.kind ha (by decide)
  refine cl_nmA h_20 z_18 t_17 (fun a_15 z_18 t_17 h_22 => ?_)
  refine cl_nm G_21 h_22 (fun σ_16 G_23 h_24 => ?_)
  refine lv_dup C.1 C.2.1 dX10_init_18 rfl ?_
  refine lv_iconst (v := (-1:Int32)) C.1 C.2.1 dX10_init_19 (by decide) ?_
  refine lv_iconst (v := (0:Int32)) C.1 C.2.1 dX10_init_20 (by decide) ?_
  refine lv_iconst (v := (0:Int32)) C.1 C.2.1 dX10_init_21 (by decide) ?_
  refine lv_null C.1 C.2.1 dX10_init_22 ?_
  refine W.eq (g2 := F0 m 23 ls [cl_rf c0 none, .int (0:Int32), .int (0:Int32), .int (-1:Int32), .ref (c0 + a_15), .ref (c0 + a_15), .ref (c0 + a)]) rfl ?_
  obtain ⟨σ_25, hq, h_26⟩ := bd1_some h_24
  refine cl_callI (rest := [.ref (c0 + a_15), .ref (c0 + a)]) C G_23 cw_RX10_17 [.int (-1:Int32), .int (0:Int32), .int (0:Int32), cl_rf c0 none] _ (kc_X9_init l D c0 (by rw [G_23.1]; exact t_17) hq (by rw [G_23.1]; exact (cl_RTn _ _))) (Nat.le_of_ble_eq_true rfl) (Nat.le_of_ble_eq_true rfl) rfl rfl hl.1 (Nat.le_of_ble_eq_true rfl) dX10_init_23 (fun T_27 H locs cells slots t_28 hu G_29 => ?_)
  have ha := hu.kind ha (by decide)
  have t_17 := hu.kind t_17 (by decide)
  refine W.eq (g2 := F0 m 26 ls [.ref (c0 + a_15), .ref (c0 + a)]) rfl ?_
  refine cl_sealrow (ci := 9) G_29 (by decide) t_17 z_18 h_26 (fun σ_30 T_31 hs t_32 G_33 h_34 => ?_)
  have ha := cl_upS hs ha (by decide)
  have t_32 : (T_31 a_15).1 = 25 := by rw [t_32]
  refine cp_10_20 (x := (some a_15)) hn9 C G_33 ha (cl_RTs t_32) dX10_init_26 (fun H locs G_36 => ?_)
  refine cl_nm G_36 h_34 (fun σ_35 G_37 h_38 => ?_)
  refine lv_aload_n C.1 C.2.1 dX10_init_29 rfl (lv_at hl 0 rfl) ?_
  refine cg_10_20 C G_37 ha dX10_init_30 (fun t_39 => ?_)
  refine vt_r (K := 25) t_39 h_38 (fun r_40 t_41 h_42 => ?_)
  refine lv_aload_n C.1 C.2.1 dX10_init_33 rfl (lv_at hl 0 rfl) ?_
  refine cg_10_20 C G_37 ha dX10_init_34 (fun t_43 => ?_)
  refine vt_r (K := 25) t_43 h_42 (fun r_44 t_45 h_46 => ?_)
  obtain ⟨a_47, rfl, h_49⟩ := nn_some h_46
  have t_48 := t_41 _ rfl
  refine cp_10_24 (x := r_44) C G_37 t_48 t_45 dX10_init_37 (fun H locs G_51 => ?_)
  refine cl_nm G_51 h_49 (fun σ_50 G_52 h_53 => ?_)
  refine lv_aload_n C.1 C.2.1 dX10_init_40 rfl (lv_at hl 0 rfl) ?_
  refine cg_10_20 C G_52 ha dX10_init_41 (fun t_54 => ?_)
  refine vt_r (K := 25) t_54 h_53 (fun r_55 t_56 h_57 => ?_)
  refine lv_aload_n C.1 C.2.1 dX10_init_44 rfl (lv_at hl 0 rfl) ?_
  refine cg_10_20 C G_52 ha dX10_init_45 (fun t_58 => ?_)
  refine vt_r (K := 25) t_58 h_57 (fun r_59 t_60 h_61 => ?_)
  obtain ⟨a_62, rfl, h_64⟩ := nn_some h_61
  have t_63 := t_56 _ rfl
  refine cp_10_27 (x := r_59) C G_52 t_63 t_60 dX10_init_48 (fun H locs G_66 => ?_)
  refine cl_nm G_66 h_64 (fun σ_65 G_67 h_68 => ?_)
  refine lv_aload_n C.1 C.2.1 dX10_init_51 rfl (lv_at hl 0 rfl) ?_
  refine cg_10_20 C G_67 ha dX10_init_52 (fun t_69 => ?_)
  refine vt_r (K := 25) t_69 h_68 (fun r_70 t_71 h_72 => ?_)
  refine lv_aload_n C.1 C.2.1 dX10_init_55 rfl (lv_at hl 0 rfl) ?_
  refine cg_10_20 C G_67 ha dX10_init_56 (fun t_73 => ?_)
  refine vt_r (K := 25) t_73 h_72 (fun r_74 t_75 h_76 => ?_)
  obtain ⟨a_77, rfl, h_79⟩ := nn_some h_76
  have t_78 := t_71 _ rfl
  refine cp_10_30 (x := r_74) C G_67 t_78 t_75 dX10_init_59 (fun H locs G_81 => ?_)
  refine cl_nm G_81 h_79 (fun σ_80 G_82 h_83 => ?_)
  refine lv_aload_n C.1 C.2.1 dX10_init_62 rfl (lv_at hl 0 rfl) ?_
  refine lv_aload_n C.1 C.2.1 dX10_init_63 rfl (lv_at hl 0 rfl) ?_
  obtain ⟨r_85, σ_84, hq, h_86⟩ := bd2_some h_83
  refine cl_callV (ci := 10) (rest := [.ref (c0 + a)]) C G_82 rfl ha cw_RX10_33 [] _ (kc_X10_newSecret l D c0 (by rw [G_82.1]; exact ha) hq) (Nat.le_of_ble_eq_true rfl) (Nat.le_of_ble_eq_true rfl) rfl rfl hl.1 (Nat.le_of_ble_eq_true rfl) dX10_init_64 (fun T_87 H locs cells slots t_88 hu G_89 => ?_)
  have ha := hu.kind ha (by decide)
  refine W.eq (g2 := F0 m 67 ls [cl_rf c0 r_85, .ref (c0 + a)]) rfl ?_
  refine cp_10_37 (x := r_85) hn9 C G_89 ha t_88 dX10_init_67 (fun H locs G_91 => ?_)
  refine cl_nm G_91 h_86 (fun σ_90 G_92 h_93 => ?_)
  refine lv_aload_n C.1 C.2.1 dX10_init_70 rfl (lv_at hl 0 rfl) ?_
  refine lv_aload_n C.1 C.2.1 dX10_init_71 rfl (lv_at hl 0 rfl) ?_
  refine lv_bipush (v := (9:Int32)) C.1 C.2.1 dX10_init_72 (by decide) ?_
  refine lv_aload_n C.1 C.2.1 dX10_init_74 rfl (lv_at hl 0 rfl) ?_
  refine cg_10_37 C G_92 ha dX10_init_75 (fun t_94 => ?_)
  refine vt_r (K := 25) t_94 h_93 (fun r_95 t_96 h_97 => ?_)
  refine lv_aload_n C.1 C.2.1 dX10_init_78 rfl (lv_at hl 0 rfl) ?_
  refine lv_iconst (v := (1:Int32)) C.1 C.2.1 dX10_init_79 (by decide) ?_
  obtain ⟨r_99, σ_98, hq, h_100⟩ := bd2_some h_97
  refine cl_callV (ci := 10) (rest := [cl_rf c0 r_95, .int (9:Int32), .ref (c0 + a), .ref (c0 + a)]) C G_92 rfl ha cw_RX10_40 [.int (1:Int32)] _ (kc_X10_numberTerm l D c0 (by rw [G_92.1]; exact ha) hq) (Nat.le_of_ble_eq_true rfl) (Nat.le_of_ble_eq_true rfl) rfl rfl hl.1 (by cases r_95 <;> exact Nat.le_of_ble_eq_true rfl) dX10_init_80 (fun T_101 H locs cells slots t_102 hu G_103 => ?_)
  have ha := hu.kind ha (by decide)
  have t_96 := t_96.up hu (by decide)
  refine W.eq (g2 := F0 m 83 ls [cl_rf c0 r_99, cl_rf c0 r_95, .int (9:Int32), .ref (c0 + a), .ref (c0 + a)]) rfl ?_
  refine lv_aload_n C.1 C.2.1 dX10_init_83 rfl (lv_at hl 0 rfl) ?_
  refine cg_10_20 C G_103 ha dX10_init_84 (fun t_104 => ?_)
  refine vt_r (K := 25) t_104 h_100 (fun r_105 t_106 h_107 => ?_)
  obtain ⟨r_109, σ_108, hq, h_110⟩ := bd2_some h_107
  refine cl_callV (ci := 10) (rest := [.ref (c0 + a)]) C G_103 rfl ha cw_RX10_44 [.int (9:Int32), cl_rf c0 r_95, cl_rf c0 r_99, cl_rf c0 r_105] _ (kc_X10_made l D c0 (by rw [G_103.1]; exact ha) hq (by rw [G_103.1]; exact t_96) (by rw [G_103.1]; exact t_102) (by rw [G_103.1]; exact t_106)) (Nat.le_of_ble_eq_true rfl) (Nat.le_of_ble_eq_true rfl) rfl rfl hl.1 (Nat.le_of_ble_eq_true rfl) dX10_init_87 (fun T_111 H locs cells slots t_112 hu G_113 => ?_)
  have ha := hu.kind ha (by decide)
  refine W.eq (g2 := F0 m 90 ls [cl_rf c0 r_109, .ref (c0 + a)]) rfl ?_
  refine cp_10_48 (x := r_109) hn9 C G_113 ha t_112 dX10_init_90 (fun H locs G_115 => ?_)
  refine cl_nm G_115 h_110 (fun σ_114 G_116 h_117 => ?_)
  refine lv_aload_n C.1 C.2.1 dX10_init_93 rfl (lv_at hl 0 rfl) ?_
  refine lv_aload_n C.1 C.2.1 dX10_init_94 rfl (lv_at hl 0 rfl) ?_
  refine lv_bipush (v := (6:Int32)) C.1 C.2.1 dX10_init_95 (by decide) ?_
  refine lv_aload_n C.1 C.2.1 dX10_init_97 rfl (lv_at hl 0 rfl) ?_
  refine cg_10_48 C G_116 ha dX10_init_98 (fun t_118 => ?_)
  refine vt_r (K := 25) t_118 h_117 (fun r_119 t_120 h_121 => ?_)
  refine lv_aload_n C.1 C.2.1 dX10_init_101 rfl (lv_at hl 0 rfl) ?_
  refine cg_10_20 C G_116 ha dX10_init_102 (fun t_122 => ?_)
  refine vt_r (K := 25) t_122 h_121 (fun r_123 t_124 h_125 => ?_)
  refine lv_aload_n C.1 C.2.1 dX10_init_105 rfl (lv_at hl 0 rfl) ?_
  refine cg_10_20 C G_116 ha dX10_init_106 (fun t_126 => ?_)
  refine vt_r (K := 25) t_126 h_125 (fun r_127 t_128 h_129 => ?_)
  obtain ⟨r_131, σ_130, hq, h_132⟩ := bd2_some h_129
  refine cl_callV (ci := 10) (rest := [.ref (c0 + a)]) C G_116 rfl ha cw_RX10_44 [.int (6:Int32), cl_rf c0 r_119, cl_rf c0 r_123, cl_rf c0 r_127] _ (kc_X10_made l D c0 (by rw [G_116.1]; exact ha) hq (by rw [G_116.1]; exact t_120) (by rw [G_116.1]; exact t_124) (by rw [G_116.1]; exact t_128)) (Nat.le_of_ble_eq_true rfl) (Nat.le_of_ble_eq_true rfl) rfl rfl hl.1 (Nat.le_of_ble_eq_true rfl) dX10_init_109 (fun T_133 H locs cells slots t_134 hu G_135 => ?_)
  have ha := hu.kind ha (by decide)
  refine W.eq (g2 := F0 m 112 ls [cl_rf c0 r_131, .ref (c0 + a)]) rfl ?_
  refine cp_10_51 (x := r_131) hn9 C G_135 ha t_134 dX10_init_112 (fun H locs G_137 => ?_)
  refine cl_nm G_137 h_132 (fun σ_136 G_138 h_139 => ?_)
  refine lv_aload_n C.1 C.2.1 dX10_init_115 rfl (lv_at hl 0 rfl) ?_
  refine lv_aload_n C.1 C.2.1 dX10_init_116 rfl (lv_at hl 0 rfl) ?_
  refine cg_10_51 C G_138 ha dX10_init_117 (fun t_140 => ?_)
  refine vt_r (K := 25) t_140 h_139 (fun r_141 t_142 h_143 => ?_)
  obtain ⟨σ_144, hq, h_145⟩ := bd1_some h_143
  refine cl_callV (ci := 10) (rest := []) C G_138 rfl ha cw_RX10_54 [cl_rf c0 r_141] _ (kc_X10_tell l D c0 (by rw [G_138.1]; exact ha) hq (by rw [G_138.1]; exact t_142)) (Nat.le_of_ble_eq_true rfl) (Nat.le_of_ble_eq_true rfl) rfl rfl hl.1 (Nat.le_of_ble_eq_true rfl) dX10_init_120 (fun T_146 H locs cells slots t_147 hu G_148 => ?_)
  have ha := hu.kind ha (by decide)
  refine W.eq (g2 := F0 m 123 ls []) rfl ?_
  exact cl_vret ⟨rfl, rfl⟩ rfl C G_148 h_145 dX10_init_123
noncomputable def fc_X10_init (a : Nat) (σ : cl_S) : Option (cl_S) := bc_X10_init_0 a σ
theorem kc_X10_init (l : Launch) (D : cl_D) (c0 : Nat) {a : Nat} {σ σ' : cl_S} (ha : (σ.2.2.2.1 a).1 = 26) (h : fc_X10_init a σ = some σ') : cl_Met true l D c0 yX10_init cX10_init 1 none 4 96 [.ref (c0 + a)] σ none cl_no σ' :=
  cl_of (by decide) (Nat.le_of_ble_eq_true rfl) (fun p e s m args below meth c ls C hn G hl => wc_X10_init_0 C hn h G ha hl)
abbrev cX10_hasWords : ByteArray := prog_12_method_11_code
def yX10_hasWords : MethodName := ⟨RX10, "hasWords", "(LPartHouse$Term;[II)Z"⟩
theorem dX10_hasWords_0 : decode cX10_hasWords 0 = .ok (.aload_n 0, 1) := by decide +kernel
theorem dX10_hasWords_1 : decode cX10_hasWords 1 = .ok (.getfield 121, 3) := by decide +kernel
theorem dX10_hasWords_4 : decode cX10_hasWords 4 = .ok (.arraylength, 1) := by decide +kernel
theorem dX10_hasWords_5 : decode cX10_hasWords 5 = .ok (.iload_n 2, 1) := by decide +kernel
theorem dX10_hasWords_6 : decode cX10_hasWords 6 = .ok (.if_icmp .eq 5, 3) := by decide +kernel
theorem dX10_hasWords_9 : decode cX10_hasWords 9 = .ok (.iconst 0, 1) := by decide +kernel
theorem dX10_hasWords_10 : decode cX10_hasWords 10 = .ok (.ireturn, 1) := by decide +kernel
theorem dX10_hasWords_11 : decode cX10_hasWords 11 = .ok (.iconst 0, 1) := by decide +kernel
theorem dX10_hasWords_12 : decode cX10_hasWords 12 = .ok (.istore_n 3, 1) := by decide +kernel
theorem dX10_hasWords_13 : decode cX10_hasWords 13 = .ok (.iload_n 3, 1) := by decide +kernel
theorem dX10_hasWords_14 : decode cX10_hasWords 14 = .ok (.iload_n 2, 1) := by decide +kernel
theorem dX10_hasWords_15 : decode cX10_hasWords 15 = .ok (.if_icmp .ge 23, 3) := by decide +kernel
theorem dX10_hasWords_18 : decode cX10_hasWords 18 = .ok (.aload_n 0, 1) := by decide +kernel
theorem dX10_hasWords_19 : decode cX10_hasWords 19 = .ok (.getfield 121, 3) := by decide +kernel
theorem dX10_hasWords_22 : decode cX10_hasWords 22 = .ok (.iload_n 3, 1) := by decide +kernel
theorem dX10_hasWords_23 : decode cX10_hasWords 23 = .ok (.iaload, 1) := by decide +kernel
theorem dX10_hasWords_24 : decode cX10_hasWords 24 = .ok (.aload_n 1, 1) := by decide +kernel
theorem dX10_hasWords_25 : decode cX10_hasWords 25 = .ok (.iload_n 3, 1) := by decide +kernel
theorem dX10_hasWords_26 : decode cX10_hasWords 26 = .ok (.iaload, 1) := by decide +kernel
theorem dX10_hasWords_27 : decode cX10_hasWords 27 = .ok (.if_icmp .eq 5, 3) := by decide +kernel
theorem dX10_hasWords_30 : decode cX10_hasWords 30 = .ok (.iconst 0, 1) := by decide +kernel
theorem dX10_hasWords_31 : decode cX10_hasWords 31 = .ok (.ireturn, 1) := by decide +kernel
theorem dX10_hasWords_32 : decode cX10_hasWords 32 = .ok (.iinc 3 1, 3) := by decide +kernel
theorem dX10_hasWords_35 : decode cX10_hasWords 35 = .ok (.goto (-22), 3) := by decide +kernel
theorem dX10_hasWords_38 : decode cX10_hasWords 38 = .ok (.iconst 1, 1) := by decide +kernel
theorem dX10_hasWords_39 : decode cX10_hasWords 39 = .ok (.ireturn, 1) := by decide +kernel
theorem cc_X10_hasWords : Cond.code yX10_hasWords cX10_hasWords 4 (some .boolean) ∈ rf_tb := rf_at 1067 (by decide +kernel) (by decide +kernel)
noncomputable def lc_X10_hasWords_13 (x0 : (Option Nat)) (x1 : (Option Nat)) (x2 : Int32) (x3 : Int32) (σ : cl_S) : Option ((Int32 × cl_S) ⊕ ((Int32 × cl_S) ⊕ (Int32 × cl_S))) := (if x2 ≤ x3 then some (.inr (.inr (x3, σ))) else nn x0 (fun a_9 => nn (σ.2.2.1 a_9 6) (fun a_12 => ix x3 (σ.2.2.2.1 a_12).2 (nn x1 (fun a_17 => ix x3 (σ.2.2.2.1 a_17).2 ((if (σ.1 a_12 x3.toNatClampNeg) = (σ.1 a_17 x3.toNatClampNeg) then vl (x3 + (1:Int32)) (fun x3_22 => some (.inl (x3_22, σ))) else some (.inr (.inl ((0:Int32), σ))))))))))
noncomputable def ec_X10_hasWords_13 (x0 : (Option Nat)) (x1 : (Option Nat)) (x2 : Int32) (x3 : Int32) (σ : cl_S) : Option (Int32 × cl_S) := some ((1:Int32), σ)
noncomputable def bc_X10_hasWords_13 (x0 : (Option Nat)) (x1 : (Option Nat)) (x2 : Int32) (x3 : Int32) (σ : cl_S) : Option (Int32 × cl_S) := (lp (fun z : (Int32 × cl_S) => lc_X10_hasWords_13 x0 x1 x2 z.1 z.2) (x3, σ)).bind (fun y => Sum.elim (fun z => some z) (fun z => ec_X10_hasWords_13 x0 x1 x2 z.1 z.2) y)
set_option maxHeartbeats 4000000 in
theorem wc_X10_hasWords_13 (C : cl_C D p s m args meth c cX10_hasWords 4 (some .boolean) RX10) {r : Int32} {x0 : (Option Nat)} {x1 : (Option Nat)} {x2 : Int32} {x3 : Int32} {σ0 σ σ' : cl_S} {T : Nat → Nat × Nat} {H : Heap} {locs : List Loc} {ls : Array Slot} {cells slots : Nat} (h : bc_X10_hasWords_13 x0 x1 x2 x3 σ = some (r, σ')) (G : cl_G true D c0 ({ frames := 0, cells := σ0.2.2.2.2.2.1, slots := σ0.2.2.2.2.2.2, locals := 0 }) s σ0.2.2.2.1 T σ H locs cells slots) (f0 : cl_RT T x0 25) (f1 : cl_RT T x1 1) (hl : lv_has ls 4 [(0, cl_rf c0 x0), (1, cl_rf c0 x1), (2, .int x2), (3, .int x3)]) : W p l e ({ frames := 0, cells := σ0.2.2.2.2.2.1, slots := σ0.2.2.2.2.2.2, locals := 0 }) s m args below meth c H locs cells slots (MQ below (cl_Q true D c0 (some (.int r)) cl_no σ0 σ') args s (σ0.2.2.2.2.2.1 - σ'.2.2.2.2.2.1) (σ0.2.2.2.2.2.2 - σ'.2.2.2.2.2.2) (cl_A c0 σ0.2.2.2.1 s.heap.size)) (F0 m 13 ls []) := by
  unfold bc_X10_hasWords_13 at h
  obtain ⟨y, hy, h⟩ := bd_some h
  have hE : (Sum.elim (fun z : Int32 × cl_S => z = (r, σ')) (fun z : (Int32 × cl_S) => ∀ (T : Nat → Nat × Nat) (H : Heap) (locs : List Loc) (ls : Array Slot) (cells slots : Nat), cl_G true D c0 ({ frames := 0, cells := σ0.2.2.2.2.2.1, slots := σ0.2.2.2.2.2.2, locals := 0 }) s σ0.2.2.2.1 T z.2 H locs cells slots → cl_RT T x0 25 → cl_RT T x1 1 → lv_has ls 4 [(0, cl_rf c0 x0), (1, cl_rf c0 x1), (2, .int x2), (3, .int (z.1))] → W p l e ({ frames := 0, cells := σ0.2.2.2.2.2.1, slots := σ0.2.2.2.2.2.2, locals := 0 }) s m args below meth c H locs cells slots (MQ below (cl_Q true D c0 (some (.int r)) cl_no σ0 σ') args s (σ0.2.2.2.2.2.1 - σ'.2.2.2.2.2.1) (σ0.2.2.2.2.2.2 - σ'.2.2.2.2.2.2) (cl_A c0 σ0.2.2.2.1 s.heap.size)) (F0 m 38 ls []))) y := by
    clear hy G f0 f1 hl
    cases y with
    | inl z =>
      exact Option.some.inj h
    | inr z =>
      intro T H locs ls cells slots G f0 f1 hl
      have h := se_r h
      obtain ⟨x3, σ⟩ := z
      dsimp only at h G f0 f1 hl
      unfold ec_X10_hasWords_13 at h
      refine lv_iconst (v := (1:Int32)) C.1 C.2.1 dX10_hasWords_38 (by decide) ?_
      exact cl_zret ⟨rfl, rfl⟩ rfl C G h rfl dX10_hasWords_39
  refine lp_recE (fun z : (Int32 × cl_S) => ∀ (T : Nat → Nat × Nat) (H : Heap) (locs : List Loc) (ls : Array Slot) (cells slots : Nat), cl_G true D c0 ({ frames := 0, cells := σ0.2.2.2.2.2.1, slots := σ0.2.2.2.2.2.2, locals := 0 }) s σ0.2.2.2.1 T z.2 H locs cells slots → cl_RT T x0 25 → cl_RT T x1 1 → lv_has ls 4 [(0, cl_rf c0 x0), (1, cl_rf c0 x1), (2, .int x2), (3, .int (z.1))] → W p l e ({ frames := 0, cells := σ0.2.2.2.2.2.1, slots := σ0.2.2.2.2.2.2, locals := 0 }) s m args below meth c H locs cells slots (MQ below (cl_Q true D c0 (some (.int r)) cl_no σ0 σ') args s (σ0.2.2.2.2.2.1 - σ'.2.2.2.2.2.1) (σ0.2.2.2.2.2.2 - σ'.2.2.2.2.2.2) (cl_A c0 σ0.2.2.2.1 s.heap.size)) (F0 m 13 ls [])) (Sum.elim (fun z : Int32 × cl_S => z = (r, σ')) (fun z : (Int32 × cl_S) => ∀ (T : Nat → Nat × Nat) (H : Heap) (locs : List Loc) (ls : Array Slot) (cells slots : Nat), cl_G true D c0 ({ frames := 0, cells := σ0.2.2.2.2.2.1, slots := σ0.2.2.2.2.2.2, locals := 0 }) s σ0.2.2.2.1 T z.2 H locs cells slots → cl_RT T x0 25 → cl_RT T x1 1 → lv_has ls 4 [(0, cl_rf c0 x0), (1, cl_rf c0 x1), (2, .int x2), (3, .int (z.1))] → W p l e ({ frames := 0, cells := σ0.2.2.2.2.2.1, slots := σ0.2.2.2.2.2.2, locals := 0 }) s m args below meth c H locs cells slots (MQ below (cl_Q true D c0 (some (.int r)) cl_no σ0 σ') args s (σ0.2.2.2.2.2.1 - σ'.2.2.2.2.2.1) (σ0.2.2.2.2.2.2 - σ'.2.2.2.2.2.2) (cl_A c0 σ0.2.2.2.1 s.heap.size)) (F0 m 38 ls []))) ?_ _ _ hy hE _ _ _ _ _ _ G f0 f1 hl
  clear hE hy G f0 f1 hl h
  intro z o h hP T H locs ls cells slots G f0 f1 hl
  obtain ⟨x3, σ⟩ := z
  dsimp only at h G f0 f1 hl
  unfold lc_X10_hasWords_13 at h
  refine lv_iload_n C.1 C.2.1 dX10_hasWords_13 rfl (lv_at hl 3 rfl) ?_
  refine lv_iload_n C.1 C.2.1 dX10_hasWords_14 rfl (lv_at hl 2 rfl) ?_
  refine lv_icmp_ge (tgt := 38) C.1 C.2.1 dX10_hasWords_15 (by decide) (fun hc => ?_) (fun hc => ?_)
  · rw [if_pos hc] at h
    cases h
    exact hP _ _ _ _ _ _ G f0 f1 (lv_sub hl [0, 1, 2, 3] rfl)
  · rw [if_neg hc] at h
    refine cl_aload_n C.1 C.2.1 dX10_hasWords_18 rfl (lv_at hl 0 rfl) ?_
    obtain ⟨a_9, rfl, h_11⟩ := nn_some h
    have t_10 := f0 _ rfl
    obtain ⟨a_12, hw, h_14⟩ := nn_some h_11
    refine cg_10_121 C G t_10 hw dX10_hasWords_19 (fun t_13 => ?_)
    refine lv_iload_n C.1 C.2.1 dX10_hasWords_22 rfl (lv_at hl 3 rfl) ?_
    have t_15 : T a_12 = (1, (σ.2.2.2.1 a_12).2) := by rw [G.1]; exact Prod.ext t_13 rfl
    obtain ⟨hi, h_16⟩ := ix_some h_14
    refine cl_iald C G t_15 hi dX10_hasWords_23 ?_
    refine cl_aload_n C.1 C.2.1 dX10_hasWords_24 rfl (lv_at hl 1 rfl) ?_
    refine lv_iload_n C.1 C.2.1 dX10_hasWords_25 rfl (lv_at hl 3 rfl) ?_
    obtain ⟨a_17, rfl, h_19⟩ := nn_some h_16
    have t_18 := f1 _ rfl
    have t_20 : T a_17 = (1, (σ.2.2.2.1 a_17).2) := by rw [G.1]; exact Prod.ext t_18 rfl
    obtain ⟨hi, h_21⟩ := ix_some h_19
    refine cl_iald C G t_20 hi dX10_hasWords_26 ?_
    refine lv_icmp_eq (tgt := 32) C.1 C.2.1 dX10_hasWords_27 (by decide) (fun hc => ?_) (fun hc => ?_)
    · rw [if_pos hc] at h_21
      refine vl_ex h_21 (fun x3_22 ey h_23 => ?_)
      refine lv_iinc (v := x3_22) (lv' := [(3, .int x3_22), (0, .ref (c0 + a_9)), (1, .ref (c0 + a_17)), (2, .int x2)]) C.1 C.2.1 dX10_hasWords_32 hl (k := 3) rfl (by rw [ey]; rfl) (by decide) rfl (fun ls hl_24 => ?_)
      refine lv_goto (tgt := 13) C.1 C.2.1 dX10_hasWords_35 (by decide) ?_
      cases h_23
      exact hP _ _ _ _ _ _ G (cl_RTs t_10) (cl_RTs (by rw [t_18])) (lv_sub hl_24 [1, 2, 3, 0] rfl)
    · rw [if_neg hc] at h_21
      refine lv_iconst (v := (0:Int32)) C.1 C.2.1 dX10_hasWords_30 (by decide) ?_
      cases h_21
      have hP := congrArg some hP
      exact cl_zret ⟨rfl, rfl⟩ rfl C G hP rfl dX10_hasWords_31
noncomputable def bc_X10_hasWords_0 (x0 : (Option Nat)) (x1 : (Option Nat)) (x2 : Int32) (σ : cl_S) : Option (Int32 × cl_S) := nn x0 (fun a_1 => nn (σ.2.2.1 a_1 6) (fun a_4 => (if (nI ((σ.2.2.2.1 a_4).2)) = x2 then bc_X10_hasWords_13 (some a_1) x1 x2 (0:Int32) σ else some ((0:Int32), σ))))
set_option maxHeartbeats 4000000 in
theorem wc_X10_hasWords_0 (C : cl_C D p s m args meth c cX10_hasWords 4 (some .boolean) RX10) {r : Int32} {x0 : (Option Nat)} {x1 : (Option Nat)} {x2 : Int32} {σ0 σ σ' : cl_S} {T : Nat → Nat × Nat} {H : Heap} {locs : List Loc} {ls : Array Slot} {cells slots : Nat} (h : bc_X10_hasWords_0 x0 x1 x2 σ = some (r, σ')) (G : cl_G true D c0 ({ frames := 0, cells := σ0.2.2.2.2.2.1, slots := σ0.2.2.2.2.2.2, locals := 0 }) s σ0.2.2.2.1 T σ H locs cells slots) (f0 : cl_RT T x0 25) (f1 : cl_RT T x1 1) (hl : lv_has ls 4 [(0, cl_rf c0 x0), (1, cl_rf c0 x1), (2, .int x2)]) : W p l e ({ frames := 0, cells := σ0.2.2.2.2.2.1, slots := σ0.2.2.2.2.2.2, locals := 0 }) s m args below meth c H locs cells slots (MQ below (cl_Q true D c0 (some (.int r)) cl_no σ0 σ') args s (σ0.2.2.2.2.2.1 - σ'.2.2.2.2.2.1) (σ0.2.2.2.2.2.2 - σ'.2.2.2.2.2.2) (cl_A c0 σ0.2.2.2.1 s.heap.size)) (F0 m 0 ls []) := by
  unfold bc_X10_hasWords_0 at h
  refine cl_aload_n C.1 C.2.1 dX10_hasWords_0 rfl (lv_at hl 0 rfl) ?_
  obtain ⟨a_1, rfl, h_3⟩ := nn_some h
  have t_2 := f0 _ rfl
  obtain ⟨a_4, hw, h_6⟩ := nn_some h_3
  refine cg_10_121 C G t_2 hw dX10_hasWords_1 (fun t_5 => ?_)
  have t_7 : T a_4 = (1, (σ.2.2.2.1 a_4).2) := by rw [G.1]; exact Prod.ext t_5 rfl
  refine cl_alen C G t_7 dX10_hasWords_4 ?_
  refine lv_iload_n C.1 C.2.1 dX10_hasWords_5 rfl (lv_at hl 2 rfl) ?_
  refine lv_icmp_eq (tgt := 11) C.1 C.2.1 dX10_hasWords_6 (by decide) (fun hc => ?_) (fun hc => ?_)
  · rw [if_pos hc] at h_6
    refine lv_iconst (v := (0:Int32)) C.1 C.2.1 dX10_hasWords_11 (by decide) ?_
    refine lv_istore_n (lv' := [(3, .int (0:Int32)), (0, .ref (c0 + a_1)), (1, cl_rf c0 x1), (2, .int x2)]) C.1 C.2.1 dX10_hasWords_12 rfl hl (by decide) (by first | rfl | (cases x1 <;> rfl)) (fun ls hl_8 => ?_)
    exact wc_X10_hasWords_13 C h_6 G (cl_RTs t_2) f1 (lv_sub hl_8 [1, 2, 3, 0] rfl)
  · rw [if_neg hc] at h_6
    refine lv_iconst (v := (0:Int32)) C.1 C.2.1 dX10_hasWords_9 (by decide) ?_
    exact cl_zret ⟨rfl, rfl⟩ rfl C G h_6 rfl dX10_hasWords_10
noncomputable def fc_X10_hasWords (x0 : (Option Nat)) (x1 : (Option Nat)) (x2 : Int32) (σ : cl_S) : Option (Int32 × cl_S) := bc_X10_hasWords_0 x0 x1 x2 σ
theorem kc_X10_hasWords (l : Launch) (D : cl_D) (c0 : Nat) {r : Int32} {x0 : (Option Nat)} {x1 : (Option Nat)} {x2 : Int32} {σ σ' : cl_S} (h : fc_X10_hasWords x0 x1 x2 σ = some (r, σ')) (f0 : cl_RT σ.2.2.2.1 x0 25) (f1 : cl_RT σ.2.2.2.1 x1 1) : cl_Met true l D c0 yX10_hasWords cX10_hasWords 4 (some .boolean) 0 0 [cl_rf c0 x0, cl_rf c0 x1, .int x2] σ (some (.int r)) cl_no σ' :=
  by cases x0 <;> cases x1 <;> exact cl_of (by decide) (Nat.le_of_ble_eq_true rfl) (fun p e s m args below meth c ls C hn G hl => wc_X10_hasWords_0 C h G f0 f1 hl)
abbrev cJ7_copyOf_59c91 : ByteArray := prog_21_method_123_code
def yJ7_copyOf_59c91 : MethodName := ⟨RJ7, "copyOf", "([II)[I"⟩
theorem dJ7_copyOf_59c91_0 : decode cJ7_copyOf_59c91 0 = .ok (.iload_n 1, 1) := by decide +kernel
theorem dJ7_copyOf_59c91_1 : decode cJ7_copyOf_59c91 1 = .ok (.aload_n 0, 1) := by decide +kernel
theorem dJ7_copyOf_59c91_2 : decode cJ7_copyOf_59c91 2 = .ok (.arraylength, 1) := by decide +kernel
theorem dJ7_copyOf_59c91_3 : decode cJ7_copyOf_59c91 3 = .ok (.if_icmp .ne 11, 3) := by decide +kernel
theorem dJ7_copyOf_59c91_6 : decode cJ7_copyOf_59c91 6 = .ok (.aload_n 0, 1) := by decide +kernel
theorem dJ7_copyOf_59c91_7 : decode cJ7_copyOf_59c91 7 = .ok (.invokevirtual 316, 3) := by decide +kernel
theorem dJ7_copyOf_59c91_10 : decode cJ7_copyOf_59c91 10 = .ok (.checkcast 317, 3) := by decide +kernel
theorem dJ7_copyOf_59c91_13 : decode cJ7_copyOf_59c91 13 = .ok (.areturn, 1) := by decide +kernel
theorem dJ7_copyOf_59c91_14 : decode cJ7_copyOf_59c91 14 = .ok (.iload_n 1, 1) := by decide +kernel
theorem dJ7_copyOf_59c91_15 : decode cJ7_copyOf_59c91 15 = .ok (.newarray .int, 2) := by decide +kernel
theorem dJ7_copyOf_59c91_17 : decode cJ7_copyOf_59c91 17 = .ok (.astore_n 2, 1) := by decide +kernel
theorem dJ7_copyOf_59c91_18 : decode cJ7_copyOf_59c91 18 = .ok (.aload_n 0, 1) := by decide +kernel
theorem dJ7_copyOf_59c91_19 : decode cJ7_copyOf_59c91 19 = .ok (.iconst 0, 1) := by decide +kernel
theorem dJ7_copyOf_59c91_20 : decode cJ7_copyOf_59c91 20 = .ok (.aload_n 2, 1) := by decide +kernel
theorem dJ7_copyOf_59c91_21 : decode cJ7_copyOf_59c91 21 = .ok (.iconst 0, 1) := by decide +kernel
theorem dJ7_copyOf_59c91_22 : decode cJ7_copyOf_59c91 22 = .ok (.aload_n 0, 1) := by decide +kernel
theorem dJ7_copyOf_59c91_23 : decode cJ7_copyOf_59c91 23 = .ok (.arraylength, 1) := by decide +kernel
theorem dJ7_copyOf_59c91_24 : decode cJ7_copyOf_59c91 24 = .ok (.iload_n 1, 1) := by decide +kernel
theorem dJ7_copyOf_59c91_25 : decode cJ7_copyOf_59c91 25 = .ok (.invokestatic 304, 3) := by decide +kernel
theorem dJ7_copyOf_59c91_28 : decode cJ7_copyOf_59c91 28 = .ok (.invokestatic 150, 3) := by decide +kernel
theorem dJ7_copyOf_59c91_31 : decode cJ7_copyOf_59c91 31 = .ok (.aload_n 2, 1) := by decide +kernel
theorem dJ7_copyOf_59c91_32 : decode cJ7_copyOf_59c91 32 = .ok (.areturn, 1) := by decide +kernel
theorem cc_J7_copyOf_59c91 : Cond.code yJ7_copyOf_59c91 cJ7_copyOf_59c91 3 (some (.array .int)) ∈ rf_tb := rf_at 1070 (by decide +kernel) (by decide +kernel)
theorem cl_RJ7_317 : Cond.classLink RJ7 317 "[I" ∈ rf_tb := rf_at 1077 (by decide +kernel) (by decide +kernel)
theorem clw_1 : Cond.methodLink RJ7 316 ⟨"[I", "clone", "()Ljava/lang/Object;"⟩ ∈ rf_tb := rf_at 1071 (by decide +kernel) (by decide +kernel)
theorem clw_2 : Cond.sameMethod "[I" "java/lang/Object" "clone" "()Ljava/lang/Object;" ∈ rf_tb := rf_at 1072 (by decide +kernel) (by decide +kernel)
theorem clw_3 : Cond.native ⟨"java/lang/Object", "clone", "()Ljava/lang/Object;"⟩ ∈ rf_tb := rf_at 1073 (by decide +kernel) (by decide +kernel)
theorem clw_4 : Cond.instanceMethod ⟨"java/lang/Object", "clone", "()Ljava/lang/Object;"⟩ ∈ rf_tb := rf_at 1074 (by decide +kernel) (by decide +kernel)
theorem clw_5 : Cond.selects "[I" ⟨"[I", "clone", "()Ljava/lang/Object;"⟩ ⟨"java/lang/Object", "clone", "()Ljava/lang/Object;"⟩ ∈ rf_tb := rf_at 1075 (by decide +kernel) (by decide +kernel)
theorem mw_RJ7_150 : Cond.methodLink RJ7 150 arraycopyName ∈ rf_tb := rf_at 1079 (by decide +kernel) (by decide +kernel)
theorem mw_RJ7_304 : Cond.methodLink RJ7 304 Lib.Math.min.name ∈ rf_tb := rf_at 1078 (by decide +kernel) (by decide +kernel)
noncomputable def bc_J7_copyOf_59c91_0 (x0 : (Option Nat)) (x1 : Int32) (σ : cl_S) : Option ((Option Nat) × cl_S) := nn x0 (fun a_1 => (if x1 = (nI ((σ.2.2.2.1 a_1).2)) then al σ ((σ.2.2.2.1 a_1).2) (vl σ.2.2.2.2.1 (fun a_24 => vl (cl_mkR σ a_1 ((σ.2.2.2.1 a_1).2)) (fun σ_25 => some ((some a_24), σ_25)))) else nag x1 (al σ x1.toNatClampNeg (vl σ.2.2.2.2.1 (fun a_5 => vl (cl_nw σ 1 x1.toNatClampNeg x1.toNatClampNeg) (fun σ_6 => cpg (0:Int32) (0:Int32) (if x1 < (nI ((σ_6.2.2.2.1 a_1).2)) then x1 else (nI ((σ_6.2.2.2.1 a_1).2))) (σ_6.2.2.2.1 a_1).2 x1.toNatClampNeg (vl (cl_cp σ_6 a_1 a_5 (0:Int32) (0:Int32) (if x1 < (nI ((σ_6.2.2.2.1 a_1).2)) then x1 else (nI ((σ_6.2.2.2.1 a_1).2)))) (fun σ_18 => some ((some a_5), σ_18)))))))))
set_option maxHeartbeats 4000000 in
theorem wc_J7_copyOf_59c91_0 (C : cl_C D p s m args meth c cJ7_copyOf_59c91 3 (some (.array .int)) RJ7) {r : (Option Nat)} {x0 : (Option Nat)} {x1 : Int32} {σ0 σ σ' : cl_S} {T : Nat → Nat × Nat} {H : Heap} {locs : List Loc} {ls : Array Slot} {cells slots : Nat} (h : bc_J7_copyOf_59c91_0 x0 x1 σ = some (r, σ')) (G : cl_G true D c0 ({ frames := 1, cells := σ0.2.2.2.2.2.1, slots := σ0.2.2.2.2.2.2, locals := 48 }) s σ0.2.2.2.1 T σ H locs cells slots) (f0 : cl_RT T x0 1) (hl : lv_has ls 3 [(0, cl_rf c0 x0), (1, .int x1)]) : W p l e ({ frames := 1, cells := σ0.2.2.2.2.2.1, slots := σ0.2.2.2.2.2.2, locals := 48 }) s m args below meth c H locs cells slots (MQ below (cl_Q true D c0 (some (cl_rf c0 r)) (fun T1 => cl_RT T1 r 1) σ0 σ') args s (σ0.2.2.2.2.2.1 - σ'.2.2.2.2.2.1) (σ0.2.2.2.2.2.2 - σ'.2.2.2.2.2.2) (cl_A c0 σ0.2.2.2.1 s.heap.size)) (F0 m 0 ls []) := by
  unfold bc_J7_copyOf_59c91_0 at h
  refine lv_iload_n C.1 C.2.1 dJ7_copyOf_59c91_0 rfl (lv_at hl 1 rfl) ?_
  refine cl_aload_n C.1 C.2.1 dJ7_copyOf_59c91_1 rfl (lv_at hl 0 rfl) ?_
  obtain ⟨a_1, rfl, h_3⟩ := nn_some h
  have t_2 := f0 _ rfl
  have t_4 : T a_1 = (1, (σ.2.2.2.1 a_1).2) := by rw [G.1]; exact Prod.ext t_2 rfl
  refine cl_alen C G t_4 dJ7_copyOf_59c91_2 ?_
  refine lv_icmp_ne (tgt := 14) C.1 C.2.1 dJ7_copyOf_59c91_3 (by decide) (fun hc => ?_) (fun hc => ?_)
  · rw [if_neg hc] at h_3
    refine lv_iload_n C.1 C.2.1 dJ7_copyOf_59c91_14 rfl (lv_at hl 1 rfl) ?_
    obtain ⟨hng, h_9⟩ := nag_some h_3
    obtain ⟨hal, h_10⟩ := al_some h_9
    refine cl_newa (t := 1) C G (by decide) (by decide) .int rfl aw_1 hng.1 rfl (cl_bytes hng.2 (by decide) (by decide)) hal dJ7_copyOf_59c91_15 (fun T_8 H cells slots t_7 hu G_11 => ?_)
    have t_2 := hu.kind t_2 (by decide)
    refine cl_nmB h_10 t_7 (fun a_5 t_7 h_12 => ?_)
    refine cl_nm G_11 h_12 (fun σ_6 G_13 h_14 => ?_)
    refine lv_astore_n (lv' := [(2, .ref (c0 + a_5)), (0, .ref (c0 + a_1)), (1, .int x1)]) C.1 C.2.1 dJ7_copyOf_59c91_17 rfl hl (by decide) rfl (fun ls hl_15 => ?_)
    refine lv_aload_n C.1 C.2.1 dJ7_copyOf_59c91_18 rfl (lv_at hl_15 1 rfl) ?_
    refine lv_iconst (v := (0:Int32)) C.1 C.2.1 dJ7_copyOf_59c91_19 (by decide) ?_
    refine lv_aload_n C.1 C.2.1 dJ7_copyOf_59c91_20 rfl (lv_at hl_15 0 rfl) ?_
    refine lv_iconst (v := (0:Int32)) C.1 C.2.1 dJ7_copyOf_59c91_21 (by decide) ?_
    refine lv_aload_n C.1 C.2.1 dJ7_copyOf_59c91_22 rfl (lv_at hl_15 1 rfl) ?_
    have t_16 : T_8 a_1 = (1, (σ_6.2.2.2.1 a_1).2) := by rw [G_13.1]; exact Prod.ext t_2 rfl
    refine cl_alen C G_13 t_16 dJ7_copyOf_59c91_23 ?_
    refine lv_iload_n C.1 C.2.1 dJ7_copyOf_59c91_24 rfl (lv_at hl_15 2 rfl) ?_
    refine va_mmin C.1 C.2.1 (C.2.2.1.trans hl_15.1.symm) C.2.2.2.1 (C.2.2.2.2.1 _ mw_RJ7_304) (C.2.2.2.2.1 _ mw_min_s) (C.2.2.2.2.1 _ mw_Math_i) (C.2.2.2.2.1 _ mw_min_c) (Nat.le_of_ble_eq_true rfl) (Nat.le_of_ble_eq_true rfl) (cl_le1 G_13) (cl_le2 G_13) dJ7_copyOf_59c91_25 ?_
    have t_17 : T_8 a_1 = (1, (σ_6.2.2.2.1 a_1).2) := by rw [G_13.1]; exact Prod.ext t_2 rfl
    obtain ⟨hcp, h_19⟩ := cpg_some h_14
    refine cl_copy C G_13 t_17 t_7 hcp (C.2.2.2.2.1 _ mw_RJ7_150) (Nat.le_of_ble_eq_true rfl) (show 0 + 18 ≤ 48 from by decide) hl_15.1 dJ7_copyOf_59c91_28 (fun H locs G_20 => ?_)
    refine cl_nm G_20 h_19 (fun σ_18 G_21 h_22 => ?_)
    refine lv_aload_n C.1 C.2.1 dJ7_copyOf_59c91_31 rfl (lv_at hl_15 0 rfl) ?_
    exact cl_aret (v := (some a_5)) ⟨rfl, rfl⟩ rfl C G_21 h_22 (by first | exact Or.inl ⟨_, rfl⟩ | exact Or.inr ⟨_, rfl⟩) (cl_RTs (by rw [t_7])) dJ7_copyOf_59c91_32
  · rw [if_pos hc] at h_3
    refine lv_aload_n C.1 C.2.1 dJ7_copyOf_59c91_6 rfl (lv_at hl 0 rfl) ?_
    have t_23 : T a_1 = (1, (σ.2.2.2.1 a_1).2) := by rw [G.1]; exact Prod.ext t_2 rfl
    obtain ⟨hal, h_28⟩ := al_some h_3
    refine cl_clone (rest := []) C G t_23 clw_1 clw_2 clw_3 clw_4 clw_5 hl.1 hal (Nat.le_of_ble_eq_true rfl) (Nat.le_of_ble_eq_true rfl) dJ7_copyOf_59c91_7 (fun T_27 H cells slots t_26 hu G_29 => ?_)
    have t_2 := hu.kind t_2 (by decide)
    refine cl_nmB h_28 t_26 (fun a_24 t_26 h_30 => ?_)
    refine cl_nm G_29 h_30 (fun σ_25 G_31 h_32 => ?_)
    refine cl_castI C G_31 t_26 cl_RJ7_317 dJ7_copyOf_59c91_10 ?_
    exact cl_aret (v := (some a_24)) ⟨rfl, rfl⟩ rfl C G_31 h_32 (by first | exact Or.inl ⟨_, rfl⟩ | exact Or.inr ⟨_, rfl⟩) (cl_RTs (by rw [t_26])) dJ7_copyOf_59c91_13
noncomputable def fc_J7_copyOf_59c91 (x0 : (Option Nat)) (x1 : Int32) (σ : cl_S) : Option ((Option Nat) × cl_S) := bc_J7_copyOf_59c91_0 x0 x1 σ
theorem kc_J7_copyOf_59c91 (l : Launch) (D : cl_D) (c0 : Nat) {r : (Option Nat)} {x0 : (Option Nat)} {x1 : Int32} {σ σ' : cl_S} (h : fc_J7_copyOf_59c91 x0 x1 σ = some (r, σ')) (f0 : cl_RT σ.2.2.2.1 x0 1) : cl_Met true l D c0 yJ7_copyOf_59c91 cJ7_copyOf_59c91 3 (some (.array .int)) 1 48 [cl_rf c0 x0, .int x1] σ (some (cl_rf c0 r)) (fun T1 => cl_RT T1 r 1) σ' :=
  by cases x0 <;> exact cl_of (by decide) (Nat.le_of_ble_eq_true rfl) (fun p e s m args below meth c ls C hn G hl => wc_J7_copyOf_59c91_0 C h G f0 hl)
abbrev cX10_row : ByteArray := prog_12_method_10_code
def yX10_row : MethodName := ⟨RX10, "row", "([II)LPartHouse$Term;"⟩
theorem dX10_row_0 : decode cX10_row 0 = .ok (.iload_n 2, 1) := by decide +kernel
theorem dX10_row_1 : decode cX10_row 1 = .ok (.istore_n 3, 1) := by decide +kernel
theorem dX10_row_2 : decode cX10_row 2 = .ok (.iconst 0, 1) := by decide +kernel
theorem dX10_row_3 : decode cX10_row 3 = .ok (.istore 4, 2) := by decide +kernel
theorem dX10_row_5 : decode cX10_row 5 = .ok (.iload 4, 2) := by decide +kernel
theorem dX10_row_7 : decode cX10_row 7 = .ok (.iload_n 2, 1) := by decide +kernel
theorem dX10_row_8 : decode cX10_row 8 = .ok (.if_icmp .ge 19, 3) := by decide +kernel
theorem dX10_row_11 : decode cX10_row 11 = .ok (.iload_n 3, 1) := by decide +kernel
theorem dX10_row_12 : decode cX10_row 12 = .ok (.bipush 31, 2) := by decide +kernel
theorem dX10_row_14 : decode cX10_row 14 = .ok (.imul, 1) := by decide +kernel
theorem dX10_row_15 : decode cX10_row 15 = .ok (.aload_n 1, 1) := by decide +kernel
theorem dX10_row_16 : decode cX10_row 16 = .ok (.iload 4, 2) := by decide +kernel
theorem dX10_row_18 : decode cX10_row 18 = .ok (.iaload, 1) := by decide +kernel
theorem dX10_row_19 : decode cX10_row 19 = .ok (.iadd, 1) := by decide +kernel
theorem dX10_row_20 : decode cX10_row 20 = .ok (.istore_n 3, 1) := by decide +kernel
theorem dX10_row_21 : decode cX10_row 21 = .ok (.iinc 4 1, 3) := by decide +kernel
theorem dX10_row_24 : decode cX10_row 24 = .ok (.goto (-19), 3) := by decide +kernel
theorem dX10_row_27 : decode cX10_row 27 = .ok (.aload_n 0, 1) := by decide +kernel
theorem dX10_row_28 : decode cX10_row 28 = .ok (.getfield 13, 3) := by decide +kernel
theorem dX10_row_31 : decode cX10_row 31 = .ok (.iconst 1, 1) := by decide +kernel
theorem dX10_row_32 : decode cX10_row 32 = .ok (.iload_n 3, 1) := by decide +kernel
theorem dX10_row_33 : decode cX10_row 33 = .ok (.aload_n 0, 1) := by decide +kernel
theorem dX10_row_34 : decode cX10_row 34 = .ok (.getfield 20, 3) := by decide +kernel
theorem dX10_row_37 : decode cX10_row 37 = .ok (.aload_n 0, 1) := by decide +kernel
theorem dX10_row_38 : decode cX10_row 38 = .ok (.getfield 20, 3) := by decide +kernel
theorem dX10_row_41 : decode cX10_row 41 = .ok (.aload_n 0, 1) := by decide +kernel
theorem dX10_row_42 : decode cX10_row 42 = .ok (.getfield 20, 3) := by decide +kernel
theorem dX10_row_45 : decode cX10_row 45 = .ok (.invokestatic 63, 3) := by decide +kernel
theorem dX10_row_48 : decode cX10_row 48 = .ok (.aaload, 1) := by decide +kernel
theorem dX10_row_49 : decode cX10_row 49 = .ok (.astore 4, 2) := by decide +kernel
theorem dX10_row_51 : decode cX10_row 51 = .ok (.aload 4, 2) := by decide +kernel
theorem dX10_row_53 : decode cX10_row 53 = .ok (.ifnull 44, 3) := by decide +kernel
theorem dX10_row_56 : decode cX10_row 56 = .ok (.aload 4, 2) := by decide +kernel
theorem dX10_row_58 : decode cX10_row 58 = .ok (.getfield 67, 3) := by decide +kernel
theorem dX10_row_61 : decode cX10_row 61 = .ok (.iconst 1, 1) := by decide +kernel
theorem dX10_row_62 : decode cX10_row 62 = .ok (.if_icmp .ne 25, 3) := by decide +kernel
theorem dX10_row_65 : decode cX10_row 65 = .ok (.aload 4, 2) := by decide +kernel
theorem dX10_row_67 : decode cX10_row 67 = .ok (.getfield 70, 3) := by decide +kernel
theorem dX10_row_70 : decode cX10_row 70 = .ok (.iload_n 3, 1) := by decide +kernel
theorem dX10_row_71 : decode cX10_row 71 = .ok (.if_icmp .ne 16, 3) := by decide +kernel
theorem dX10_row_74 : decode cX10_row 74 = .ok (.aload 4, 2) := by decide +kernel
theorem dX10_row_76 : decode cX10_row 76 = .ok (.aload_n 1, 1) := by decide +kernel
theorem dX10_row_77 : decode cX10_row 77 = .ok (.iload_n 2, 1) := by decide +kernel
theorem dX10_row_78 : decode cX10_row 78 = .ok (.invokestatic 111, 3) := by decide +kernel
theorem dX10_row_81 : decode cX10_row 81 = .ok (.ifCond .eq 6, 3) := by decide +kernel
theorem dX10_row_84 : decode cX10_row 84 = .ok (.aload 4, 2) := by decide +kernel
theorem dX10_row_86 : decode cX10_row 86 = .ok (.areturn, 1) := by decide +kernel
theorem dX10_row_87 : decode cX10_row 87 = .ok (.aload 4, 2) := by decide +kernel
theorem dX10_row_89 : decode cX10_row 89 = .ok (.getfield 73, 3) := by decide +kernel
theorem dX10_row_92 : decode cX10_row 92 = .ok (.astore 4, 2) := by decide +kernel
theorem dX10_row_94 : decode cX10_row 94 = .ok (.goto (-43), 3) := by decide +kernel
theorem dX10_row_97 : decode cX10_row 97 = .ok (.aload_n 0, 1) := by decide +kernel
theorem dX10_row_98 : decode cX10_row 98 = .ok (.iconst 1, 1) := by decide +kernel
theorem dX10_row_99 : decode cX10_row 99 = .ok (.iload_n 3, 1) := by decide +kernel
theorem dX10_row_100 : decode cX10_row 100 = .ok (.aload_n 0, 1) := by decide +kernel
theorem dX10_row_101 : decode cX10_row 101 = .ok (.getfield 20, 3) := by decide +kernel
theorem dX10_row_104 : decode cX10_row 104 = .ok (.aload_n 0, 1) := by decide +kernel
theorem dX10_row_105 : decode cX10_row 105 = .ok (.getfield 20, 3) := by decide +kernel
theorem dX10_row_108 : decode cX10_row 108 = .ok (.aload_n 0, 1) := by decide +kernel
theorem dX10_row_109 : decode cX10_row 109 = .ok (.getfield 20, 3) := by decide +kernel
theorem dX10_row_112 : decode cX10_row 112 = .ok (.invokevirtual 105, 3) := by decide +kernel
theorem dX10_row_115 : decode cX10_row 115 = .ok (.astore 5, 2) := by decide +kernel
theorem dX10_row_117 : decode cX10_row 117 = .ok (.aload 5, 2) := by decide +kernel
theorem dX10_row_119 : decode cX10_row 119 = .ok (.aload_n 1, 1) := by decide +kernel
theorem dX10_row_120 : decode cX10_row 120 = .ok (.iload_n 2, 1) := by decide +kernel
theorem dX10_row_121 : decode cX10_row 121 = .ok (.invokestatic 115, 3) := by decide +kernel
theorem dX10_row_124 : decode cX10_row 124 = .ok (.putfield 121, 3) := by decide +kernel
theorem dX10_row_127 : decode cX10_row 127 = .ok (.aload 5, 2) := by decide +kernel
theorem dX10_row_129 : decode cX10_row 129 = .ok (.areturn, 1) := by decide +kernel
theorem cc_X10_row : Cond.code yX10_row cX10_row 6 (some (.object "PartHouse$Term")) ∈ rf_tb := rf_at 1064 (by decide +kernel) (by decide +kernel)
theorem cw_RX10_111 : cl_wS RX10 yX10_hasWords cX10_hasWords 4 (some .boolean) 111 3 := ⟨⟨rf_at 1065 (by decide +kernel) (by decide +kernel), rf_at 1066 (by decide +kernel) (by decide +kernel), cc_X10_hasWords, rf_at 9 (by decide +kernel) (by decide +kernel)⟩, ⟨by decide, by decide, by decide +kernel⟩⟩
theorem cw_RX10_115 : cl_wS RX10 yJ7_copyOf_59c91 cJ7_copyOf_59c91 3 (some (.array .int)) 115 2 := ⟨⟨rf_at 1068 (by decide +kernel) (by decide +kernel), rf_at 1069 (by decide +kernel) (by decide +kernel), cc_J7_copyOf_59c91, rf_at 18 (by decide +kernel) (by decide +kernel)⟩, ⟨by decide, by decide, by decide +kernel⟩⟩
noncomputable def lc_X10_row_5 (a : Nat) (x1 : (Option Nat)) (x2 : Int32) (x3 : Int32) (x4 : Int32) (σ : cl_S) : Option ((Int32 × Int32 × cl_S) ⊕ (Int32 × Int32 × cl_S)) := (if x2 ≤ x4 then some (.inr (x3, x4, σ)) else nn x1 (fun a_3 => ix x4 (σ.2.2.2.1 a_3).2 (vl ((x3 * (31:Int32)) + (σ.1 a_3 x4.toNatClampNeg)) (fun x3_8 => vl (x4 + (1:Int32)) (fun x4_11 => some (.inl (x3_8, x4_11, σ)))))))
noncomputable def bc_X10_row_87i51 (a : Nat) (x1 : (Option Nat)) (x2 : Int32) (x3 : Int32) (x4 : (Option Nat)) (σ : cl_S) : Option (((Option Nat) × cl_S) ⊕ (((Option Nat) × cl_S) ⊕ ((Option Nat) × cl_S))) := nn x4 (fun a_49 => vl (σ.2.2.1 a_49 7) (fun r_53 => some (.inl (r_53, σ))))
set_option maxHeartbeats 4000000 in
theorem wc_X10_row_87i51 (C : cl_C D p s m args meth c cX10_row 6 (some (.object "PartHouse$Term")) RX10) {r : (Option Nat)} {a : Nat} {x1 : (Option Nat)} {x2 : Int32} {x3 : Int32} {x4 : (Option Nat)} {σ0 σ σ' : cl_S} {T : Nat → Nat × Nat} {H : Heap} {locs : List Loc} {ls : Array Slot} {cells slots : Nat} {o : ((Option Nat) × cl_S) ⊕ (((Option Nat) × cl_S) ⊕ ((Option Nat) × cl_S))} (h : bc_X10_row_87i51 a x1 x2 x3 x4 σ = some o) (hP : Sum.elim (fun z : ((Option Nat) × cl_S) => ∀ (T : Nat → Nat × Nat) (H : Heap) (locs : List Loc) (ls : Array Slot) (cells slots : Nat), cl_G true D c0 ({ frames := 3, cells := σ0.2.2.2.2.2.1, slots := σ0.2.2.2.2.2.2, locals := 71 }) s σ0.2.2.2.1 T z.2 H locs cells slots → (T a).1 = 26 → cl_RT T x1 1 → cl_RT T (z.1) 25 → lv_has ls 6 [(0, .ref (c0 + a)), (1, cl_rf c0 x1), (2, .int x2), (3, .int x3), (4, cl_rf c0 (z.1))] → W p l e ({ frames := 3, cells := σ0.2.2.2.2.2.1, slots := σ0.2.2.2.2.2.2, locals := 71 }) s m args below meth c H locs cells slots (MQ below (cl_Q true D c0 (some (cl_rf c0 r)) (fun T1 => cl_RT T1 r 25) σ0 σ') args s (σ0.2.2.2.2.2.1 - σ'.2.2.2.2.2.1) (σ0.2.2.2.2.2.2 - σ'.2.2.2.2.2.2) (cl_A c0 σ0.2.2.2.1 s.heap.size)) (F0 m 51 ls [])) (Sum.elim (fun z : (Option Nat) × cl_S => z = (r, σ')) (fun z : ((Option Nat) × cl_S) => ∀ (T : Nat → Nat × Nat) (H : Heap) (locs : List Loc) (ls : Array Slot) (cells slots : Nat), cl_G true D c0 ({ frames := 3, cells := σ0.2.2.2.2.2.1, slots := σ0.2.2.2.2.2.2, locals := 71 }) s σ0.2.2.2.1 T z.2 H locs cells slots → (T a).1 = 26 → cl_RT T x1 1 → cl_RT T (z.1) 25 → lv_has ls 6 [(0, .ref (c0 + a)), (1, cl_rf c0 x1), (2, .int x2), (3, .int x3), (4, cl_rf c0 (z.1))] → W p l e ({ frames := 3, cells := σ0.2.2.2.2.2.1, slots := σ0.2.2.2.2.2.2, locals := 71 }) s m args below meth c H locs cells slots (MQ below (cl_Q true D c0 (some (cl_rf c0 r)) (fun T1 => cl_RT T1 r 25) σ0 σ') args s (σ0.2.2.2.2.2.1 - σ'.2.2.2.2.2.1) (σ0.2.2.2.2.2.2 - σ'.2.2.2.2.2.2) (cl_A c0 σ0.2.2.2.1 s.heap.size)) (F0 m 97 ls []))) o) (G : cl_G true D c0 ({ frames := 3, cells := σ0.2.2.2.2.2.1, slots := σ0.2.2.2.2.2.2, locals := 71 }) s σ0.2.2.2.1 T σ H locs cells slots) (ha : (T a).1 = 26) (f1 : cl_RT T x1 1) (f4 : cl_RT T x4 25) (hl : lv_has ls 6 [(0, .ref (c0 + a)), (1, cl_rf c0 x1), (2, .int x2), (3, .int x3), (4, cl_rf c0 x4)]) : W p l e ({ frames := 3, cells := σ0.2.2.2.2.2.1, slots := σ0.2.2.2.2.2.2, locals := 71 }) s m args below meth c H locs cells slots (MQ below (cl_Q true D c0 (some (cl_rf c0 r)) (fun T1 => cl_RT T1 r 25) σ0 σ') args s (σ0.2.2.2.2.2.1 - σ'.2.2.2.2.2.1) (σ0.2.2.2.2.2.2 - σ'.2.2.2.2.2.2) (cl_A c0 σ0.2.2.2.1 s.heap.size)) (F0 m 87 ls []) := by
  unfold bc_X10_row_87i51 at h
  refine cl_aload C.1 C.2.1 dX10_row_87 (lv_at hl 4 rfl) ?_
  obtain ⟨a_49, rfl, h_51⟩ := nn_some h
  have t_50 := f4 _ rfl
  refine cg_10_73 C G t_50 dX10_row_89 (fun t_52 => ?_)
  refine vt_r (K := 25) t_52 h_51 (fun r_53 t_54 h_55 => ?_)
  refine cl_astore (lv' := [(4, cl_rf c0 r_53), (0, .ref (c0 + a)), (1, cl_rf c0 x1), (2, .int x2), (3, .int x3)]) C.1 C.2.1 dX10_row_92 hl (by decide) (by first | rfl | (cases x1 <;> rfl)) (fun ls hl_56 => ?_)
  refine lv_goto (tgt := 51) C.1 C.2.1 dX10_row_94 (by decide) ?_
  cases h_55
  exact hP _ _ _ _ _ _ G ha f1 t_54 (lv_sub hl_56 [1, 2, 3, 4, 0] rfl)
noncomputable def lc_X10_row_51 (a : Nat) (x1 : (Option Nat)) (x2 : Int32) (x3 : Int32) (x4 : (Option Nat)) (σ : cl_S) : Option (((Option Nat) × cl_S) ⊕ (((Option Nat) × cl_S) ⊕ ((Option Nat) × cl_S))) := (if x4 = none then some (.inr (.inr (x4, σ))) else nn x4 (fun a_46 => (if (σ.1 a_46 0) = (1:Int32) then (if (σ.1 a_46 1) = x3 then bd2 (fc_X10_hasWords (some a_46) x1 x2 σ) (fun r_58 σ_57 => (if r_58 = 0 then bc_X10_row_87i51 a x1 x2 x3 (some a_46) σ_57 else some (.inr (.inl ((some a_46), σ_57))))) else bc_X10_row_87i51 a x1 x2 x3 (some a_46) σ) else bc_X10_row_87i51 a x1 x2 x3 (some a_46) σ)))
noncomputable def ec_X10_row_51 (a : Nat) (x1 : (Option Nat)) (x2 : Int32) (x3 : Int32) (x4 : (Option Nat)) (σ : cl_S) : Option ((Option Nat) × cl_S) := vl (σ.2.2.1 a 4) (fun r_64 => vl (σ.2.2.1 a 4) (fun r_68 => vl (σ.2.2.1 a 4) (fun r_72 => bd2 (fc_X10_add a (1:Int32) x3 r_64 r_68 r_72 σ) (fun r_76 σ_75 => bd2 (fc_J7_copyOf_59c91 x1 x2 σ_75) (fun r_83 σ_82 => nn r_76 (fun a_88 => nn r_83 (fun a_92 => vl (cl_wr σ_82 a_88 6 (some a_92)) (fun σ_91 => some ((some a_88), σ_91)))))))))
noncomputable def bc_X10_row_51 (a : Nat) (x1 : (Option Nat)) (x2 : Int32) (x3 : Int32) (x4 : (Option Nat)) (σ : cl_S) : Option ((Option Nat) × cl_S) := (lp (fun z : ((Option Nat) × cl_S) => lc_X10_row_51 a x1 x2 x3 z.1 z.2) (x4, σ)).bind (fun y => Sum.elim (fun z => some z) (fun z => ec_X10_row_51 a x1 x2 x3 z.1 z.2) y)
set_option maxHeartbeats 4000000 in
theorem wc_X10_row_51 (C : cl_C D p s m args meth c cX10_row 6 (some (.object "PartHouse$Term")) RX10) {r : (Option Nat)} {a : Nat} {x1 : (Option Nat)} {x2 : Int32} {x3 : Int32} {x4 : (Option Nat)} {σ0 σ σ' : cl_S} {T : Nat → Nat × Nat} {H : Heap} {locs : List Loc} {ls : Array Slot} {cells slots : Nat} (h : bc_X10_row_51 a x1 x2 x3 x4 σ = some (r, σ')) (G : cl_G true D c0 ({ frames := 3, cells := σ0.2.2.2.2.2.1, slots := σ0.2.2.2.2.2.2, locals := 71 }) s σ0.2.2.2.1 T σ H locs cells slots) (ha : (T a).1 = 26) (f1 : cl_RT T x1 1) (f4 : cl_RT T x4 25) (hl : lv_has ls 6 [(0, .ref (c0 + a)), (1, cl_rf c0 x1), (2, .int x2), (3, .int x3), (4, cl_rf c0 x4)]) : W p l e ({ frames := 3, cells := σ0.2.2.2.2.2.1, slots := σ0.2.2.2.2.2.2, locals := 71 }) s m args below meth c H locs cells slots (MQ below (cl_Q true D c0 (some (cl_rf c0 r)) (fun T1 => cl_RT T1 r 25) σ0 σ') args s (σ0.2.2.2.2.2.1 - σ'.2.2.2.2.2.1) (σ0.2.2.2.2.2.2 - σ'.2.2.2.2.2.2) (cl_A c0 σ0.2.2.2.1 s.heap.size)) (F0 m 51 ls []) := by
  unfold bc_X10_row_51 at h
  obtain ⟨y, hy, h⟩ := bd_some h
  have hE : (Sum.elim (fun z : (Option Nat) × cl_S => z = (r, σ')) (fun z : ((Option Nat) × cl_S) => ∀ (T : Nat → Nat × Nat) (H : Heap) (locs : List Loc) (ls : Array Slot) (cells slots : Nat), cl_G true D c0 ({ frames := 3, cells := σ0.2.2.2.2.2.1, slots := σ0.2.2.2.2.2.2, locals := 71 }) s σ0.2.2.2.1 T z.2 H locs cells slots → (T a).1 = 26 → cl_RT T x1 1 → cl_RT T (z.1) 25 → lv_has ls 6 [(0, .ref (c0 + a)), (1, cl_rf c0 x1), (2, .int x2), (3, .int x3), (4, cl_rf c0 (z.1))] → W p l e ({ frames := 3, cells := σ0.2.2.2.2.2.1, slots := σ0.2.2.2.2.2.2, locals := 71 }) s m args below meth c H locs cells slots (MQ below (cl_Q true D c0 (some (cl_rf c0 r)) (fun T1 => cl_RT T1 r 25) σ0 σ') args s (σ0.2.2.2.2.2.1 - σ'.2.2.2.2.2.1) (σ0.2.2.2.2.2.2 - σ'.2.2.2.2.2.2) (cl_A c0 σ0.2.2.2.1 s.heap.size)) (F0 m 97 ls []))) y := by
    clear hy G ha f1 f4 hl
    cases y with
    | inl z =>
      exact Option.some.inj h
    | inr z =>
      intro T H locs ls cells slots G ha f1 f4 hl
      have h := se_r h
      obtain ⟨x4, σ⟩ := z
      dsimp only at h G ha f1 f4 hl
      unfold ec_X10_row_51 at h
      refine lv_aload_n C.1 C.2.1 dX10_row_97 rfl (lv_at hl 0 rfl) ?_
      refine lv_iconst (v := (1:Int32)) C.1 C.2.1 dX10_row_98 (by decide) ?_
      refine lv_iload_n C.1 C.2.1 dX10_row_99 rfl (lv_at hl 3 rfl) ?_
      refine lv_aload_n C.1 C.2.1 dX10_row_100 rfl (lv_at hl 0 rfl) ?_
      refine cg_10_20 C G ha dX10_row_101 (fun t_63 => ?_)
      refine vt_r (K := 25) t_63 h (fun r_64 t_65 h_66 => ?_)
      refine lv_aload_n C.1 C.2.1 dX10_row_104 rfl (lv_at hl 0 rfl) ?_
      refine cg_10_20 C G ha dX10_row_105 (fun t_67 => ?_)
      refine vt_r (K := 25) t_67 h_66 (fun r_68 t_69 h_70 => ?_)
      refine lv_aload_n C.1 C.2.1 dX10_row_108 rfl (lv_at hl 0 rfl) ?_
      refine cg_10_20 C G ha dX10_row_109 (fun t_71 => ?_)
      refine vt_r (K := 25) t_71 h_70 (fun r_72 t_73 h_74 => ?_)
      obtain ⟨r_76, σ_75, hq, h_77⟩ := bd2_some h_74
      refine cl_callV (ci := 10) (rest := []) C G rfl ha cw_RX10_105 [.int (1:Int32), .int x3, cl_rf c0 r_64, cl_rf c0 r_68, cl_rf c0 r_72] _ (kc_X10_add l D c0 (by rw [G.1]; exact ha) hq (by rw [G.1]; exact t_65) (by rw [G.1]; exact t_69) (by rw [G.1]; exact t_73)) (Nat.le_of_ble_eq_true rfl) (Nat.le_of_ble_eq_true rfl) rfl rfl hl.1 (Nat.le_of_ble_eq_true rfl) dX10_row_112 (fun T_78 H locs cells slots t_79 hu G_80 => ?_)
      have ha := hu.kind ha (by decide)
      have f1 := f1.up hu (by decide)
      have f4 := f4.up hu (by decide)
      refine W.eq (g2 := F0 m 115 ls [cl_rf c0 r_76]) rfl ?_
      refine cl_astore (lv' := [(5, cl_rf c0 r_76), (0, .ref (c0 + a)), (1, cl_rf c0 x1), (2, .int x2), (3, .int x3), (4, cl_rf c0 x4)]) C.1 C.2.1 dX10_row_115 hl (by decide) (by first | rfl | (cases x1 <;> cases x4 <;> rfl)) (fun ls hl_81 => ?_)
      refine cl_aload C.1 C.2.1 dX10_row_117 (lv_at hl_81 0 rfl) ?_
      refine cl_aload_n C.1 C.2.1 dX10_row_119 rfl (lv_at hl_81 2 rfl) ?_
      refine lv_iload_n C.1 C.2.1 dX10_row_120 rfl (lv_at hl_81 3 rfl) ?_
      obtain ⟨r_83, σ_82, hq, h_84⟩ := bd2_some h_77
      refine cl_callS (rest := [cl_rf c0 r_76]) C G_80 cw_RX10_115 [cl_rf c0 x1, .int x2] _ (kc_J7_copyOf_59c91 l D c0 hq (by rw [G_80.1]; exact f1)) (Nat.le_of_ble_eq_true rfl) (Nat.le_of_ble_eq_true rfl) rfl rfl hl_81.1 (by cases r_76 <;> exact Nat.le_of_ble_eq_true rfl) dX10_row_121 (fun T_85 H locs cells slots t_86 hu G_87 => ?_)
      have t_79 := t_79.up hu (by decide)
      have ha := hu.kind ha (by decide)
      have f1 := f1.up hu (by decide)
      have f4 := f4.up hu (by decide)
      refine W.eq (g2 := F0 m 124 ls [cl_rf c0 r_83, cl_rf c0 r_76]) rfl ?_
      obtain ⟨a_88, rfl, h_90⟩ := nn_some h_84
      have t_89 := t_79 _ rfl
      obtain ⟨a_92, rfl, h_94⟩ := nn_some h_90
      have t_93 := t_86 _ rfl
      refine cp_10_121 C G_87 t_89 t_93 dX10_row_124 (fun H locs G_95 => ?_)
      refine cl_nm G_95 h_94 (fun σ_91 G_96 h_97 => ?_)
      refine lv_aload C.1 C.2.1 dX10_row_127 (lv_at hl_81 0 rfl) ?_
      exact cl_aret (v := (some a_88)) ⟨rfl, rfl⟩ rfl C G_96 h_97 (by first | exact Or.inl ⟨_, rfl⟩ | exact Or.inr ⟨_, rfl⟩) (cl_RTs t_89) dX10_row_129
  refine lp_recE (fun z : ((Option Nat) × cl_S) => ∀ (T : Nat → Nat × Nat) (H : Heap) (locs : List Loc) (ls : Array Slot) (cells slots : Nat), cl_G true D c0 ({ frames := 3, cells := σ0.2.2.2.2.2.1, slots := σ0.2.2.2.2.2.2, locals := 71 }) s σ0.2.2.2.1 T z.2 H locs cells slots → (T a).1 = 26 → cl_RT T x1 1 → cl_RT T (z.1) 25 → lv_has ls 6 [(0, .ref (c0 + a)), (1, cl_rf c0 x1), (2, .int x2), (3, .int x3), (4, cl_rf c0 (z.1))] → W p l e ({ frames := 3, cells := σ0.2.2.2.2.2.1, slots := σ0.2.2.2.2.2.2, locals := 71 }) s m args below meth c H locs cells slots (MQ below (cl_Q true D c0 (some (cl_rf c0 r)) (fun T1 => cl_RT T1 r 25) σ0 σ') args s (σ0.2.2.2.2.2.1 - σ'.2.2.2.2.2.1) (σ0.2.2.2.2.2.2 - σ'.2.2.2.2.2.2) (cl_A c0 σ0.2.2.2.1 s.heap.size)) (F0 m 51 ls [])) (Sum.elim (fun z : (Option Nat) × cl_S => z = (r, σ')) (fun z : ((Option Nat) × cl_S) => ∀ (T : Nat → Nat × Nat) (H : Heap) (locs : List Loc) (ls : Array Slot) (cells slots : Nat), cl_G true D c0 ({ frames := 3, cells := σ0.2.2.2.2.2.1, slots := σ0.2.2.2.2.2.2, locals := 71 }) s σ0.2.2.2.1 T z.2 H locs cells slots → (T a).1 = 26 → cl_RT T x1 1 → cl_RT T (z.1) 25 → lv_has ls 6 [(0, .ref (c0 + a)), (1, cl_rf c0 x1), (2, .int x2), (3, .int x3), (4, cl_rf c0 (z.1))] → W p l e ({ frames := 3, cells := σ0.2.2.2.2.2.1, slots := σ0.2.2.2.2.2.2, locals := 71 }) s m args below meth c H locs cells slots (MQ below (cl_Q true D c0 (some (cl_rf c0 r)) (fun T1 => cl_RT T1 r 25) σ0 σ') args s (σ0.2.2.2.2.2.1 - σ'.2.2.2.2.2.1) (σ0.2.2.2.2.2.2 - σ'.2.2.2.2.2.2) (cl_A c0 σ0.2.2.2.1 s.heap.size)) (F0 m 97 ls []))) ?_ _ _ hy hE _ _ _ _ _ _ G ha f1 f4 hl
  clear hE hy G ha f1 f4 hl h
  intro z o h hP T H locs ls cells slots G ha f1 f4 hl
  obtain ⟨x4, σ⟩ := z
  dsimp only at h G ha f1 f4 hl
  unfold lc_X10_row_51 at h
  refine cl_aload C.1 C.2.1 dX10_row_51 (lv_at hl 4 rfl) ?_
  refine cl_ifnull (r := x4) (tgt := 97) C.1 C.2.1 dX10_row_53 (by decide) (fun hc => ?_) (fun hc => ?_)
  · rw [if_pos hc] at h
    cases h
    exact hP _ _ _ _ _ _ G ha f1 f4 (lv_sub hl [0, 1, 2, 3, 4] rfl)
  · rw [if_neg hc] at h
    refine cl_aload C.1 C.2.1 dX10_row_56 (lv_at hl 4 rfl) ?_
    obtain ⟨a_46, rfl, h_48⟩ := nn_some h
    have t_47 := f4 _ rfl
    refine cg_10_67 C G t_47 dX10_row_58 ?_
    refine lv_iconst (v := (1:Int32)) C.1 C.2.1 dX10_row_61 (by decide) ?_
    refine lv_icmp_ne (tgt := 87) C.1 C.2.1 dX10_row_62 (by decide) (fun hc => ?_) (fun hc => ?_)
    · rw [if_neg hc] at h_48
      exact wc_X10_row_87i51 C h_48 hP G ha f1 (cl_RTs t_47) (lv_sub hl [0, 1, 2, 3, 4] rfl)
    · rw [if_pos hc] at h_48
      refine lv_aload C.1 C.2.1 dX10_row_65 (lv_at hl 4 rfl) ?_
      refine cg_10_70 C G t_47 dX10_row_67 ?_
      refine lv_iload_n C.1 C.2.1 dX10_row_70 rfl (lv_at hl 3 rfl) ?_
      refine lv_icmp_ne (tgt := 87) C.1 C.2.1 dX10_row_71 (by decide) (fun hc => ?_) (fun hc => ?_)
      · rw [if_neg hc] at h_48
        exact wc_X10_row_87i51 C h_48 hP G ha f1 (cl_RTs t_47) (lv_sub hl [0, 1, 2, 3, 4] rfl)
      · rw [if_pos hc] at h_48
        refine lv_aload C.1 C.2.1 dX10_row_74 (lv_at hl 4 rfl) ?_
        refine cl_aload_n C.1 C.2.1 dX10_row_76 rfl (lv_at hl 1 rfl) ?_
        refine lv_iload_n C.1 C.2.1 dX10_row_77 rfl (lv_at hl 2 rfl) ?_
        obtain ⟨r_58, σ_57, hq, h_59⟩ := bd2_some h_48
        refine cl_callS (rest := []) C G cw_RX10_111 [.ref (c0 + a_46), cl_rf c0 x1, .int x2] _ (kc_X10_hasWords l D c0 hq (by rw [G.1]; exact (cl_RTs t_47)) (by rw [G.1]; exact f1)) (Nat.le_of_ble_eq_true rfl) (Nat.le_of_ble_eq_true rfl) rfl rfl hl.1 (Nat.le_of_ble_eq_true rfl) dX10_row_78 (fun T_60 H locs cells slots t_61 hu G_62 => ?_)
        have ha := hu.kind ha (by decide)
        have f1 := f1.up hu (by decide)
        have t_47 := hu.kind t_47 (by decide)
        refine W.eq (g2 := F0 m 81 ls [.int r_58]) rfl ?_
        refine lv_if_eq (tgt := 87) C.1 C.2.1 dX10_row_81 (by decide) (fun hc => ?_) (fun hc => ?_)
        · rw [if_pos hc] at h_59
          exact wc_X10_row_87i51 C h_59 hP G_62 ha f1 (cl_RTs t_47) (lv_sub hl [0, 1, 2, 3, 4] rfl)
        · rw [if_neg hc] at h_59
          refine lv_aload C.1 C.2.1 dX10_row_84 (lv_at hl 4 rfl) ?_
          cases h_59
          have hP := congrArg some hP
          exact cl_aret (v := (some a_46)) ⟨rfl, rfl⟩ rfl C G_62 hP (by first | exact Or.inl ⟨_, rfl⟩ | exact Or.inr ⟨_, rfl⟩) (cl_RTs t_47) dX10_row_86
noncomputable def ec_X10_row_5 (a : Nat) (x1 : (Option Nat)) (x2 : Int32) (x3 : Int32) (x4 : Int32) (σ : cl_S) : Option ((Option Nat) × cl_S) := vl (σ.2.2.1 a 0) (fun r_15 => vl (σ.2.2.1 a 4) (fun r_19 => vl (σ.2.2.1 a 4) (fun r_23 => vl (σ.2.2.1 a 4) (fun r_27 => bd2 (fc_X10_bucketOf (1:Int32) x3 r_19 r_23 r_27 σ) (fun r_31 σ_30 => nn r_15 (fun a_36 => ix r_31 (σ_30.2.2.2.1 a_36).2 (vl (σ_30.2.2.1 a_36 r_31.toNatClampNeg) (fun r_42 => bc_X10_row_51 a x1 x2 x3 r_42 σ_30))))))))
noncomputable def bc_X10_row_5 (a : Nat) (x1 : (Option Nat)) (x2 : Int32) (x3 : Int32) (x4 : Int32) (σ : cl_S) : Option ((Option Nat) × cl_S) := (lp (fun z : (Int32 × Int32 × cl_S) => lc_X10_row_5 a x1 x2 z.1 z.2.1 z.2.2) (x3, x4, σ)).bind (fun z => ec_X10_row_5 a x1 x2 z.1 z.2.1 z.2.2)
set_option maxHeartbeats 4000000 in
theorem wc_X10_row_5 (C : cl_C D p s m args meth c cX10_row 6 (some (.object "PartHouse$Term")) RX10) {r : (Option Nat)} {a : Nat} {x1 : (Option Nat)} {x2 : Int32} {x3 : Int32} {x4 : Int32} {σ0 σ σ' : cl_S} {T : Nat → Nat × Nat} {H : Heap} {locs : List Loc} {ls : Array Slot} {cells slots : Nat} (h : bc_X10_row_5 a x1 x2 x3 x4 σ = some (r, σ')) (G : cl_G true D c0 ({ frames := 3, cells := σ0.2.2.2.2.2.1, slots := σ0.2.2.2.2.2.2, locals := 71 }) s σ0.2.2.2.1 T σ H locs cells slots) (ha : (T a).1 = 26) (f1 : cl_RT T x1 1) (hl : lv_has ls 6 [(0, .ref (c0 + a)), (1, cl_rf c0 x1), (2, .int x2), (3, .int x3), (4, .int x4)]) : W p l e ({ frames := 3, cells := σ0.2.2.2.2.2.1, slots := σ0.2.2.2.2.2.2, locals := 71 }) s m args below meth c H locs cells slots (MQ below (cl_Q true D c0 (some (cl_rf c0 r)) (fun T1 => cl_RT T1 r 25) σ0 σ') args s (σ0.2.2.2.2.2.1 - σ'.2.2.2.2.2.1) (σ0.2.2.2.2.2.2 - σ'.2.2.2.2.2.2) (cl_A c0 σ0.2.2.2.1 s.heap.size)) (F0 m 5 ls []) := by
  unfold bc_X10_row_5 at h
  obtain ⟨y, hy, h⟩ := bd_some h
  have hE : (fun z : (Int32 × Int32 × cl_S) => ∀ (T : Nat → Nat × Nat) (H : Heap) (locs : List Loc) (ls : Array Slot) (cells slots : Nat), cl_G true D c0 ({ frames := 3, cells := σ0.2.2.2.2.2.1, slots := σ0.2.2.2.2.2.2, locals := 71 }) s σ0.2.2.2.1 T z.2.2 H locs cells slots → (T a).1 = 26 → cl_RT T x1 1 → lv_has ls 6 [(0, .ref (c0 + a)), (1, cl_rf c0 x1), (2, .int x2), (3, .int (z.1)), (4, .int (z.2.1))] → W p l e ({ frames := 3, cells := σ0.2.2.2.2.2.1, slots := σ0.2.2.2.2.2.2, locals := 71 }) s m args below meth c H locs cells slots (MQ below (cl_Q true D c0 (some (cl_rf c0 r)) (fun T1 => cl_RT T1 r 25) σ0 σ') args s (σ0.2.2.2.2.2.1 - σ'.2.2.2.2.2.1) (σ0.2.2.2.2.2.2 - σ'.2.2.2.2.2.2) (cl_A c0 σ0.2.2.2.1 s.heap.size)) (F0 m 27 ls [])) y := by
    clear hy G ha f1 hl
    intro T H locs ls cells slots G ha f1 hl
    obtain ⟨x3, x4, σ⟩ := y
    dsimp only at h G ha f1 hl
    unfold ec_X10_row_5 at h
    refine lv_aload_n C.1 C.2.1 dX10_row_27 rfl (lv_at hl 0 rfl) ?_
    refine cg_10_13 C G ha dX10_row_28 (fun t_14 => ?_)
    refine vt_r (K := 4) t_14 h (fun r_15 t_16 h_17 => ?_)
    refine lv_iconst (v := (1:Int32)) C.1 C.2.1 dX10_row_31 (by decide) ?_
    refine lv_iload_n C.1 C.2.1 dX10_row_32 rfl (lv_at hl 3 rfl) ?_
    refine lv_aload_n C.1 C.2.1 dX10_row_33 rfl (lv_at hl 0 rfl) ?_
    refine cg_10_20 C G ha dX10_row_34 (fun t_18 => ?_)
    refine vt_r (K := 25) t_18 h_17 (fun r_19 t_20 h_21 => ?_)
    refine lv_aload_n C.1 C.2.1 dX10_row_37 rfl (lv_at hl 0 rfl) ?_
    refine cg_10_20 C G ha dX10_row_38 (fun t_22 => ?_)
    refine vt_r (K := 25) t_22 h_21 (fun r_23 t_24 h_25 => ?_)
    refine lv_aload_n C.1 C.2.1 dX10_row_41 rfl (lv_at hl 0 rfl) ?_
    refine cg_10_20 C G ha dX10_row_42 (fun t_26 => ?_)
    refine vt_r (K := 25) t_26 h_25 (fun r_27 t_28 h_29 => ?_)
    obtain ⟨r_31, σ_30, hq, h_32⟩ := bd2_some h_29
    refine cl_callS (rest := [cl_rf c0 r_15]) C G cw_RX10_63 [.int (1:Int32), .int x3, cl_rf c0 r_19, cl_rf c0 r_23, cl_rf c0 r_27] _ (kc_X10_bucketOf l D c0 hq (by rw [G.1]; exact t_20) (by rw [G.1]; exact t_24) (by rw [G.1]; exact t_28)) (Nat.le_of_ble_eq_true rfl) (Nat.le_of_ble_eq_true rfl) rfl rfl hl.1 (by cases r_15 <;> exact Nat.le_of_ble_eq_true rfl) dX10_row_45 (fun T_33 H locs cells slots t_34 hu G_35 => ?_)
    have ha := hu.kind ha (by decide)
    have f1 := f1.up hu (by decide)
    have t_16 := t_16.up hu (by decide)
    refine W.eq (g2 := F0 m 48 ls [.int r_31, cl_rf c0 r_15]) rfl ?_
    obtain ⟨a_36, rfl, h_38⟩ := nn_some h_32
    have t_37 := t_16 _ rfl
    have t_39 : T_33 a_36 = (4, (σ_30.2.2.2.1 a_36).2) := by rw [G_35.1]; exact Prod.ext t_37 rfl
    obtain ⟨hi, h_40⟩ := ix_some h_38
    refine cl_aald C G_35 t_39 (by decide) (by decide) rfl hi dX10_row_48 (fun t_41 => ?_)
    refine vt_r (K := 25) t_41 h_40 (fun r_42 t_43 h_44 => ?_)
    refine cl_astore (lv' := [(4, cl_rf c0 r_42), (0, .ref (c0 + a)), (1, cl_rf c0 x1), (2, .int x2), (3, .int x3)]) C.1 C.2.1 dX10_row_49 hl (by decide) (by first | rfl | (cases x1 <;> rfl)) (fun ls hl_45 => ?_)
    exact wc_X10_row_51 C h_44 G_35 ha f1 t_43 (lv_sub hl_45 [1, 2, 3, 4, 0] rfl)
  refine lp_recE (fun z : (Int32 × Int32 × cl_S) => ∀ (T : Nat → Nat × Nat) (H : Heap) (locs : List Loc) (ls : Array Slot) (cells slots : Nat), cl_G true D c0 ({ frames := 3, cells := σ0.2.2.2.2.2.1, slots := σ0.2.2.2.2.2.2, locals := 71 }) s σ0.2.2.2.1 T z.2.2 H locs cells slots → (T a).1 = 26 → cl_RT T x1 1 → lv_has ls 6 [(0, .ref (c0 + a)), (1, cl_rf c0 x1), (2, .int x2), (3, .int (z.1)), (4, .int (z.2.1))] → W p l e ({ frames := 3, cells := σ0.2.2.2.2.2.1, slots := σ0.2.2.2.2.2.2, locals := 71 }) s m args below meth c H locs cells slots (MQ below (cl_Q true D c0 (some (cl_rf c0 r)) (fun T1 => cl_RT T1 r 25) σ0 σ') args s (σ0.2.2.2.2.2.1 - σ'.2.2.2.2.2.1) (σ0.2.2.2.2.2.2 - σ'.2.2.2.2.2.2) (cl_A c0 σ0.2.2.2.1 s.heap.size)) (F0 m 5 ls [])) (fun z : (Int32 × Int32 × cl_S) => ∀ (T : Nat → Nat × Nat) (H : Heap) (locs : List Loc) (ls : Array Slot) (cells slots : Nat), cl_G true D c0 ({ frames := 3, cells := σ0.2.2.2.2.2.1, slots := σ0.2.2.2.2.2.2, locals := 71 }) s σ0.2.2.2.1 T z.2.2 H locs cells slots → (T a).1 = 26 → cl_RT T x1 1 → lv_has ls 6 [(0, .ref (c0 + a)), (1, cl_rf c0 x1), (2, .int x2), (3, .int (z.1)), (4, .int (z.2.1))] → W p l e ({ frames := 3, cells := σ0.2.2.2.2.2.1, slots := σ0.2.2.2.2.2.2, locals := 71 }) s m args below meth c H locs cells slots (MQ below (cl_Q true D c0 (some (cl_rf c0 r)) (fun T1 => cl_RT T1 r 25) σ0 σ') args s (σ0.2.2.2.2.2.1 - σ'.2.2.2.2.2.1) (σ0.2.2.2.2.2.2 - σ'.2.2.2.2.2.2) (cl_A c0 σ0.2.2.2.1 s.heap.size)) (F0 m 27 ls [])) ?_ _ _ hy hE _ _ _ _ _ _ G ha f1 hl
  clear hE hy G ha f1 hl h
  intro z o h hP T H locs ls cells slots G ha f1 hl
  obtain ⟨x3, x4, σ⟩ := z
  dsimp only at h G ha f1 hl
  unfold lc_X10_row_5 at h
  refine lv_iload C.1 C.2.1 dX10_row_5 (lv_at hl 4 rfl) ?_
  refine lv_iload_n C.1 C.2.1 dX10_row_7 rfl (lv_at hl 2 rfl) ?_
  refine lv_icmp_ge (tgt := 27) C.1 C.2.1 dX10_row_8 (by decide) (fun hc => ?_) (fun hc => ?_)
  · rw [if_pos hc] at h
    cases h
    exact hP _ _ _ _ _ _ G ha f1 (lv_sub hl [0, 1, 2, 3, 4] rfl)
  · rw [if_neg hc] at h
    refine lv_iload_n C.1 C.2.1 dX10_row_11 rfl (lv_at hl 3 rfl) ?_
    refine lv_bipush (v := (31:Int32)) C.1 C.2.1 dX10_row_12 (by decide) ?_
    refine lv_imul C.1 C.2.1 dX10_row_14 ?_
    refine cl_aload_n C.1 C.2.1 dX10_row_15 rfl (lv_at hl 1 rfl) ?_
    refine lv_iload C.1 C.2.1 dX10_row_16 (lv_at hl 4 rfl) ?_
    obtain ⟨a_3, rfl, h_5⟩ := nn_some h
    have t_4 := f1 _ rfl
    have t_6 : T a_3 = (1, (σ.2.2.2.1 a_3).2) := by rw [G.1]; exact Prod.ext t_4 rfl
    obtain ⟨hi, h_7⟩ := ix_some h_5
    refine cl_iald C G t_6 hi dX10_row_18 ?_
    refine lv_iadd C.1 C.2.1 dX10_row_19 ?_
    refine vt_i h_7 (fun x3_8 h_9 => ?_)
    refine lv_istore_n (lv' := [(3, .int x3_8), (0, .ref (c0 + a)), (1, .ref (c0 + a_3)), (2, .int x2), (4, .int x4)]) C.1 C.2.1 dX10_row_20 rfl hl (by decide) rfl (fun ls hl_10 => ?_)
    refine vl_ex h_9 (fun x4_11 ey h_12 => ?_)
    refine lv_iinc (v := x4_11) (lv' := [(4, .int x4_11), (3, .int x3_8), (0, .ref (c0 + a)), (1, .ref (c0 + a_3)), (2, .int x2)]) C.1 C.2.1 dX10_row_21 hl_10 (k := 4) rfl (by rw [ey]; rfl) (by decide) rfl (fun ls hl_13 => ?_)
    refine lv_goto (tgt := 5) C.1 C.2.1 dX10_row_24 (by decide) ?_
    cases h_12
    exact hP _ _ _ _ _ _ G ha (cl_RTs (by rw [t_4])) (lv_sub hl_13 [2, 3, 4, 1, 0] rfl)
noncomputable def bc_X10_row_0 (a : Nat) (x1 : (Option Nat)) (x2 : Int32) (σ : cl_S) : Option ((Option Nat) × cl_S) := bc_X10_row_5 a x1 x2 x2 (0:Int32) σ
set_option maxHeartbeats 4000000 in
theorem wc_X10_row_0 (C : cl_C D p s m args meth c cX10_row 6 (some (.object "PartHouse$Term")) RX10) {r : (Option Nat)} {a : Nat} {x1 : (Option Nat)} {x2 : Int32} {σ0 σ σ' : cl_S} {T : Nat → Nat × Nat} {H : Heap} {locs : List Loc} {ls : Array Slot} {cells slots : Nat} (h : bc_X10_row_0 a x1 x2 σ = some (r, σ')) (G : cl_G true D c0 ({ frames := 3, cells := σ0.2.2.2.2.2.1, slots := σ0.2.2.2.2.2.2, locals := 71 }) s σ0.2.2.2.1 T σ H locs cells slots) (ha : (T a).1 = 26) (f1 : cl_RT T x1 1) (hl : lv_has ls 6 [(0, .ref (c0 + a)), (1, cl_rf c0 x1), (2, .int x2)]) : W p l e ({ frames := 3, cells := σ0.2.2.2.2.2.1, slots := σ0.2.2.2.2.2.2, locals := 71 }) s m args below meth c H locs cells slots (MQ below (cl_Q true D c0 (some (cl_rf c0 r)) (fun T1 => cl_RT T1 r 25) σ0 σ') args s (σ0.2.2.2.2.2.1 - σ'.2.2.2.2.2.1) (σ0.2.2.2.2.2.2 - σ'.2.2.2.2.2.2) (cl_A c0 σ0.2.2.2.1 s.heap.size)) (F0 m 0 ls []) := by
  unfold bc_X10_row_0 at h
  refine lv_iload_n C.1 C.2.1 dX10_row_0 rfl (lv_at hl 2 rfl) ?_
  refine lv_istore_n (lv' := [(3, .int x2), (0, .ref (c0 + a)), (1, cl_rf c0 x1), (2, .int x2)]) C.1 C.2.1 dX10_row_1 rfl hl (by decide) (by first | rfl | (cases x1 <;> rfl)) (fun ls hl_1 => ?_)
  refine lv_iconst (v := (0:Int32)) C.1 C.2.1 dX10_row_2 (by decide) ?_
  refine lv_istore (lv' := [(4, .int (0:Int32)), (3, .int x2), (0, .ref (c0 + a)), (1, cl_rf c0 x1), (2, .int x2)]) C.1 C.2.1 dX10_row_3 hl_1 (by decide) (by first | rfl | (cases x1 <;> rfl)) (fun ls hl_2 => ?_)
  exact wc_X10_row_5 C h G ha f1 (lv_sub hl_2 [2, 3, 4, 1, 0] rfl)
noncomputable def fc_X10_row (a : Nat) (x1 : (Option Nat)) (x2 : Int32) (σ : cl_S) : Option ((Option Nat) × cl_S) := bc_X10_row_0 a x1 x2 σ
theorem kc_X10_row (l : Launch) (D : cl_D) (c0 : Nat) {r : (Option Nat)} {a : Nat} {x1 : (Option Nat)} {x2 : Int32} {σ σ' : cl_S} (ha : (σ.2.2.2.1 a).1 = 26) (h : fc_X10_row a x1 x2 σ = some (r, σ')) (f1 : cl_RT σ.2.2.2.1 x1 1) : cl_Met true l D c0 yX10_row cX10_row 6 (some (.object "PartHouse$Term")) 3 71 [.ref (c0 + a), cl_rf c0 x1, .int x2] σ (some (cl_rf c0 r)) (fun T1 => cl_RT T1 r 25) σ' :=
  by cases x1 <;> exact cl_of (by decide) (Nat.le_of_ble_eq_true rfl) (fun p e s m args below meth c ls C hn G hl => wc_X10_row_0 C h G ha f1 hl)
abbrev cX10_measured : ByteArray := prog_12_method_12_code
def yX10_measured : MethodName := ⟨RX10, "measured", "(LPartHouse$Term;ILPartHouse$Term;)LPartHouse$Term;"⟩
theorem dX10_measured_0 : decode cX10_measured 0 = .ok (.aload_n 0, 1) := by decide +kernel
theorem dX10_measured_1 : decode cX10_measured 1 = .ok (.iconst 4, 1) := by decide +kernel
theorem dX10_measured_2 : decode cX10_measured 2 = .ok (.aload_n 3, 1) := by decide +kernel
theorem dX10_measured_3 : decode cX10_measured 3 = .ok (.aload_n 0, 1) := by decide +kernel
theorem dX10_measured_4 : decode cX10_measured 4 = .ok (.getfield 20, 3) := by decide +kernel
theorem dX10_measured_7 : decode cX10_measured 7 = .ok (.aload_n 0, 1) := by decide +kernel
theorem dX10_measured_8 : decode cX10_measured 8 = .ok (.getfield 20, 3) := by decide +kernel
theorem dX10_measured_11 : decode cX10_measured 11 = .ok (.invokevirtual 44, 3) := by decide +kernel
theorem dX10_measured_14 : decode cX10_measured 14 = .ok (.astore 4, 2) := by decide +kernel
theorem dX10_measured_16 : decode cX10_measured 16 = .ok (.aload_n 0, 1) := by decide +kernel
theorem dX10_measured_17 : decode cX10_measured 17 = .ok (.iconst 3, 1) := by decide +kernel
theorem dX10_measured_18 : decode cX10_measured 18 = .ok (.aload_n 0, 1) := by decide +kernel
theorem dX10_measured_19 : decode cX10_measured 19 = .ok (.iload_n 2, 1) := by decide +kernel
theorem dX10_measured_20 : decode cX10_measured 20 = .ok (.invokevirtual 40, 3) := by decide +kernel
theorem dX10_measured_23 : decode cX10_measured 23 = .ok (.aload 4, 2) := by decide +kernel
theorem dX10_measured_25 : decode cX10_measured 25 = .ok (.aload_n 0, 1) := by decide +kernel
theorem dX10_measured_26 : decode cX10_measured 26 = .ok (.getfield 20, 3) := by decide +kernel
theorem dX10_measured_29 : decode cX10_measured 29 = .ok (.invokevirtual 44, 3) := by decide +kernel
theorem dX10_measured_32 : decode cX10_measured 32 = .ok (.astore 5, 2) := by decide +kernel
theorem dX10_measured_34 : decode cX10_measured 34 = .ok (.aload_n 0, 1) := by decide +kernel
theorem dX10_measured_35 : decode cX10_measured 35 = .ok (.iconst 4, 1) := by decide +kernel
theorem dX10_measured_36 : decode cX10_measured 36 = .ok (.aload_n 0, 1) := by decide +kernel
theorem dX10_measured_37 : decode cX10_measured 37 = .ok (.iconst 3, 1) := by decide +kernel
theorem dX10_measured_38 : decode cX10_measured 38 = .ok (.aload_n 1, 1) := by decide +kernel
theorem dX10_measured_39 : decode cX10_measured 39 = .ok (.aload 5, 2) := by decide +kernel
theorem dX10_measured_41 : decode cX10_measured 41 = .ok (.aload_n 0, 1) := by decide +kernel
theorem dX10_measured_42 : decode cX10_measured 42 = .ok (.getfield 20, 3) := by decide +kernel
theorem dX10_measured_45 : decode cX10_measured 45 = .ok (.invokevirtual 44, 3) := by decide +kernel
theorem dX10_measured_48 : decode cX10_measured 48 = .ok (.aload_n 0, 1) := by decide +kernel
theorem dX10_measured_49 : decode cX10_measured 49 = .ok (.getfield 20, 3) := by decide +kernel
theorem dX10_measured_52 : decode cX10_measured 52 = .ok (.aload_n 0, 1) := by decide +kernel
theorem dX10_measured_53 : decode cX10_measured 53 = .ok (.getfield 20, 3) := by decide +kernel
theorem dX10_measured_56 : decode cX10_measured 56 = .ok (.invokevirtual 44, 3) := by decide +kernel
theorem dX10_measured_59 : decode cX10_measured 59 = .ok (.areturn, 1) := by decide +kernel
theorem cc_X10_measured : Cond.code yX10_measured cX10_measured 6 (some (.object "PartHouse$Term")) ∈ rf_tb := rf_at 1084 (by decide +kernel) (by decide +kernel)
noncomputable def bc_X10_measured_0 (a : Nat) (x1 : (Option Nat)) (x2 : Int32) (x3 : (Option Nat)) (σ : cl_S) : Option ((Option Nat) × cl_S) := vl (σ.2.2.1 a 4) (fun r_2 => vl (σ.2.2.1 a 4) (fun r_6 => bd2 (fc_X10_made a (4:Int32) x3 r_2 r_6 σ) (fun r_10 σ_9 => bd2 (fc_X10_numberTerm a x2 σ_9) (fun r_17 σ_16 => vl (σ_16.2.2.1 a 4) (fun r_23 => bd2 (fc_X10_made a (3:Int32) r_17 r_10 r_23 σ_16) (fun r_27 σ_26 => vl (σ_26.2.2.1 a 4) (fun r_34 => bd2 (fc_X10_made a (3:Int32) x1 r_27 r_34 σ_26) (fun r_38 σ_37 => vl (σ_37.2.2.1 a 4) (fun r_44 => vl (σ_37.2.2.1 a 4) (fun r_48 => bd2 (fc_X10_made a (4:Int32) r_38 r_44 r_48 σ_37) (fun r_52 σ_51 => some (r_52, σ_51))))))))))))
set_option maxHeartbeats 4000000 in
theorem wc_X10_measured_0 (C : cl_C D p s m args meth c cX10_measured 6 (some (.object "PartHouse$Term")) RX10) {r : (Option Nat)} {a : Nat} {x1 : (Option Nat)} {x2 : Int32} {x3 : (Option Nat)} {σ0 σ σ' : cl_S} {T : Nat → Nat × Nat} {H : Heap} {locs : List Loc} {ls : Array Slot} {cells slots : Nat} (h : bc_X10_measured_0 a x1 x2 x3 σ = some (r, σ')) (G : cl_G true D c0 ({ frames := 4, cells := σ0.2.2.2.2.2.1, slots := σ0.2.2.2.2.2.2, locals := 96 }) s σ0.2.2.2.1 T σ H locs cells slots) (ha : (T a).1 = 26) (f1 : cl_RT T x1 25) (f3 : cl_RT T x3 25) (hl : lv_has ls 6 [(0, .ref (c0 + a)), (1, cl_rf c0 x1), (2, .int x2), (3, cl_rf c0 x3)]) : W p l e ({ frames := 4, cells := σ0.2.2.2.2.2.1, slots := σ0.2.2.2.2.2.2, locals := 96 }) s m args below meth c H locs cells slots (MQ below (cl_Q true D c0 (some (cl_rf c0 r)) (fun T1 => cl_RT T1 r 25) σ0 σ') args s (σ0.2.2.2.2.2.1 - σ'.2.2.2.2.2.1) (σ0.2.2.2.2.2.2 - σ'.2.2.2.2.2.2) (cl_A c0 σ0.2.2.2.1 s.heap.size)) (F0 m 0 ls []) := by
  unfold bc_X10_measured_0 at h
  refine lv_aload_n C.1 C.2.1 dX10_measured_0 rfl (lv_at hl 0 rfl) ?_
  refine lv_iconst (v := (4:Int32)) C.1 C.2.1 dX10_measured_1 (by decide) ?_
  refine cl_aload_n C.1 C.2.1 dX10_measured_2 rfl (lv_at hl 3 rfl) ?_
  refine lv_aload_n C.1 C.2.1 dX10_measured_3 rfl (lv_at hl 0 rfl) ?_
  refine cg_10_20 C G ha dX10_measured_4 (fun t_1 => ?_)
  refine vt_r (K := 25) t_1 h (fun r_2 t_3 h_4 => ?_)
  refine lv_aload_n C.1 C.2.1 dX10_measured_7 rfl (lv_at hl 0 rfl) ?_
  refine cg_10_20 C G ha dX10_measured_8 (fun t_5 => ?_)
  refine vt_r (K := 25) t_5 h_4 (fun r_6 t_7 h_8 => ?_)
  obtain ⟨r_10, σ_9, hq, h_11⟩ := bd2_some h_8
  refine cl_callV (ci := 10) (rest := []) C G rfl ha cw_RX10_44 [.int (4:Int32), cl_rf c0 x3, cl_rf c0 r_2, cl_rf c0 r_6] _ (kc_X10_made l D c0 (by rw [G.1]; exact ha) hq (by rw [G.1]; exact f3) (by rw [G.1]; exact t_3) (by rw [G.1]; exact t_7)) (Nat.le_of_ble_eq_true rfl) (Nat.le_of_ble_eq_true rfl) rfl rfl hl.1 (Nat.le_of_ble_eq_true rfl) dX10_measured_11 (fun T_12 H locs cells slots t_13 hu G_14 => ?_)
  have ha := hu.kind ha (by decide)
  have f1 := f1.up hu (by decide)
  have f3 := f3.up hu (by decide)
  refine W.eq (g2 := F0 m 14 ls [cl_rf c0 r_10]) rfl ?_
  refine cl_astore (lv' := [(4, cl_rf c0 r_10), (0, .ref (c0 + a)), (1, cl_rf c0 x1), (2, .int x2), (3, cl_rf c0 x3)]) C.1 C.2.1 dX10_measured_14 hl (by decide) (by first | rfl | (cases x1 <;> cases x3 <;> rfl)) (fun ls hl_15 => ?_)
  refine lv_aload_n C.1 C.2.1 dX10_measured_16 rfl (lv_at hl_15 1 rfl) ?_
  refine lv_iconst (v := (3:Int32)) C.1 C.2.1 dX10_measured_17 (by decide) ?_
  refine lv_aload_n C.1 C.2.1 dX10_measured_18 rfl (lv_at hl_15 1 rfl) ?_
  refine lv_iload_n C.1 C.2.1 dX10_measured_19 rfl (lv_at hl_15 3 rfl) ?_
  obtain ⟨r_17, σ_16, hq, h_18⟩ := bd2_some h_11
  refine cl_callV (ci := 10) (rest := [.int (3:Int32), .ref (c0 + a)]) C G_14 rfl ha cw_RX10_40 [.int x2] _ (kc_X10_numberTerm l D c0 (by rw [G_14.1]; exact ha) hq) (Nat.le_of_ble_eq_true rfl) (Nat.le_of_ble_eq_true rfl) rfl rfl hl_15.1 (Nat.le_of_ble_eq_true rfl) dX10_measured_20 (fun T_19 H locs cells slots t_20 hu G_21 => ?_)
  have t_13 := t_13.up hu (by decide)
  have ha := hu.kind ha (by decide)
  have f1 := f1.up hu (by decide)
  have f3 := f3.up hu (by decide)
  refine W.eq (g2 := F0 m 23 ls [cl_rf c0 r_17, .int (3:Int32), .ref (c0 + a)]) rfl ?_
  refine cl_aload C.1 C.2.1 dX10_measured_23 (lv_at hl_15 0 rfl) ?_
  refine lv_aload_n C.1 C.2.1 dX10_measured_25 rfl (lv_at hl_15 1 rfl) ?_
  refine cg_10_20 C G_21 ha dX10_measured_26 (fun t_22 => ?_)
  refine vt_r (K := 25) t_22 h_18 (fun r_23 t_24 h_25 => ?_)
  obtain ⟨r_27, σ_26, hq, h_28⟩ := bd2_some h_25
  refine cl_callV (ci := 10) (rest := []) C G_21 rfl ha cw_RX10_44 [.int (3:Int32), cl_rf c0 r_17, cl_rf c0 r_10, cl_rf c0 r_23] _ (kc_X10_made l D c0 (by rw [G_21.1]; exact ha) hq (by rw [G_21.1]; exact t_20) (by rw [G_21.1]; exact t_13) (by rw [G_21.1]; exact t_24)) (Nat.le_of_ble_eq_true rfl) (Nat.le_of_ble_eq_true rfl) rfl rfl hl_15.1 (Nat.le_of_ble_eq_true rfl) dX10_measured_29 (fun T_29 H locs cells slots t_30 hu G_31 => ?_)
  have t_13 := t_13.up hu (by decide)
  have ha := hu.kind ha (by decide)
  have f1 := f1.up hu (by decide)
  have f3 := f3.up hu (by decide)
  refine W.eq (g2 := F0 m 32 ls [cl_rf c0 r_27]) rfl ?_
  refine cl_astore (lv' := [(5, cl_rf c0 r_27), (4, cl_rf c0 r_10), (0, .ref (c0 + a)), (1, cl_rf c0 x1), (2, .int x2), (3, cl_rf c0 x3)]) C.1 C.2.1 dX10_measured_32 hl_15 (by decide) (by first | rfl | (cases r_10 <;> cases x1 <;> cases x3 <;> rfl)) (fun ls hl_32 => ?_)
  refine lv_aload_n C.1 C.2.1 dX10_measured_34 rfl (lv_at hl_32 2 rfl) ?_
  refine lv_iconst (v := (4:Int32)) C.1 C.2.1 dX10_measured_35 (by decide) ?_
  refine lv_aload_n C.1 C.2.1 dX10_measured_36 rfl (lv_at hl_32 2 rfl) ?_
  refine lv_iconst (v := (3:Int32)) C.1 C.2.1 dX10_measured_37 (by decide) ?_
  refine cl_aload_n C.1 C.2.1 dX10_measured_38 rfl (lv_at hl_32 3 rfl) ?_
  refine cl_aload C.1 C.2.1 dX10_measured_39 (lv_at hl_32 0 rfl) ?_
  refine lv_aload_n C.1 C.2.1 dX10_measured_41 rfl (lv_at hl_32 2 rfl) ?_
  refine cg_10_20 C G_31 ha dX10_measured_42 (fun t_33 => ?_)
  refine vt_r (K := 25) t_33 h_28 (fun r_34 t_35 h_36 => ?_)
  obtain ⟨r_38, σ_37, hq, h_39⟩ := bd2_some h_36
  refine cl_callV (ci := 10) (rest := [.int (4:Int32), .ref (c0 + a)]) C G_31 rfl ha cw_RX10_44 [.int (3:Int32), cl_rf c0 x1, cl_rf c0 r_27, cl_rf c0 r_34] _ (kc_X10_made l D c0 (by rw [G_31.1]; exact ha) hq (by rw [G_31.1]; exact f1) (by rw [G_31.1]; exact t_30) (by rw [G_31.1]; exact t_35)) (Nat.le_of_ble_eq_true rfl) (Nat.le_of_ble_eq_true rfl) rfl rfl hl_32.1 (Nat.le_of_ble_eq_true rfl) dX10_measured_45 (fun T_40 H locs cells slots t_41 hu G_42 => ?_)
  have t_30 := t_30.up hu (by decide)
  have t_13 := t_13.up hu (by decide)
  have ha := hu.kind ha (by decide)
  have f1 := f1.up hu (by decide)
  have f3 := f3.up hu (by decide)
  refine W.eq (g2 := F0 m 48 ls [cl_rf c0 r_38, .int (4:Int32), .ref (c0 + a)]) rfl ?_
  refine lv_aload_n C.1 C.2.1 dX10_measured_48 rfl (lv_at hl_32 2 rfl) ?_
  refine cg_10_20 C G_42 ha dX10_measured_49 (fun t_43 => ?_)
  refine vt_r (K := 25) t_43 h_39 (fun r_44 t_45 h_46 => ?_)
  refine lv_aload_n C.1 C.2.1 dX10_measured_52 rfl (lv_at hl_32 2 rfl) ?_
  refine cg_10_20 C G_42 ha dX10_measured_53 (fun t_47 => ?_)
  refine vt_r (K := 25) t_47 h_46 (fun r_48 t_49 h_50 => ?_)
  obtain ⟨r_52, σ_51, hq, h_53⟩ := bd2_some h_50
  refine cl_callV (ci := 10) (rest := []) C G_42 rfl ha cw_RX10_44 [.int (4:Int32), cl_rf c0 r_38, cl_rf c0 r_44, cl_rf c0 r_48] _ (kc_X10_made l D c0 (by rw [G_42.1]; exact ha) hq (by rw [G_42.1]; exact t_41) (by rw [G_42.1]; exact t_45) (by rw [G_42.1]; exact t_49)) (Nat.le_of_ble_eq_true rfl) (Nat.le_of_ble_eq_true rfl) rfl rfl hl_32.1 (Nat.le_of_ble_eq_true rfl) dX10_measured_56 (fun T_54 H locs cells slots t_55 hu G_56 => ?_)
  have t_30 := t_30.up hu (by decide)
  have t_13 := t_13.up hu (by decide)
  have ha := hu.kind ha (by decide)
  have f1 := f1.up hu (by decide)
  have f3 := f3.up hu (by decide)
  refine W.eq (g2 := F0 m 59 ls [cl_rf c0 r_52]) rfl ?_
  exact cl_aret (v := r_52) ⟨rfl, rfl⟩ rfl C G_56 h_53 (by first | exact Or.inl ⟨_, rfl⟩ | exact Or.inr ⟨_, rfl⟩) t_55 dX10_measured_59
noncomputable def fc_X10_measured (a : Nat) (x1 : (Option Nat)) (x2 : Int32) (x3 : (Option Nat)) (σ : cl_S) : Option ((Option Nat) × cl_S) := bc_X10_measured_0 a x1 x2 x3 σ
theorem kc_X10_measured (l : Launch) (D : cl_D) (c0 : Nat) {r : (Option Nat)} {a : Nat} {x1 : (Option Nat)} {x2 : Int32} {x3 : (Option Nat)} {σ σ' : cl_S} (ha : (σ.2.2.2.1 a).1 = 26) (h : fc_X10_measured a x1 x2 x3 σ = some (r, σ')) (f1 : cl_RT σ.2.2.2.1 x1 25) (f3 : cl_RT σ.2.2.2.1 x3 25) : cl_Met true l D c0 yX10_measured cX10_measured 6 (some (.object "PartHouse$Term")) 4 96 [.ref (c0 + a), cl_rf c0 x1, .int x2, cl_rf c0 x3] σ (some (cl_rf c0 r)) (fun T1 => cl_RT T1 r 25) σ' :=
  by cases x1 <;> cases x3 <;> exact cl_of (by decide) (Nat.le_of_ble_eq_true rfl) (fun p e s m args below meth c ls C hn G hl => wc_X10_measured_0 C h G ha f1 f3 hl)
abbrev cX10_learn : ByteArray := prog_12_method_16_code
def yX10_learn : MethodName := ⟨RX10, "learn", "(LPartHouse$Term;I)V"⟩
theorem dX10_learn_0 : decode cX10_learn 0 = .ok (.aload_n 1, 1) := by decide +kernel
theorem dX10_learn_1 : decode cX10_learn 1 = .ok (.aload_n 0, 1) := by decide +kernel
theorem dX10_learn_2 : decode cX10_learn 2 = .ok (.getfield 20, 3) := by decide +kernel
theorem dX10_learn_5 : decode cX10_learn 5 = .ok (.if_acmp .eq 10, 3) := by decide +kernel
theorem dX10_learn_8 : decode cX10_learn 8 = .ok (.aload_n 1, 1) := by decide +kernel
theorem dX10_learn_9 : decode cX10_learn 9 = .ok (.getfield 131, 3) := by decide +kernel
theorem dX10_learn_12 : decode cX10_learn 12 = .ok (.ifCond .lt 4, 3) := by decide +kernel
theorem dX10_learn_15 : decode cX10_learn 15 = .ok (.return_, 1) := by decide +kernel
theorem dX10_learn_16 : decode cX10_learn 16 = .ok (.aload_n 1, 1) := by decide +kernel
theorem dX10_learn_17 : decode cX10_learn 17 = .ok (.iload_n 2, 1) := by decide +kernel
theorem dX10_learn_18 : decode cX10_learn 18 = .ok (.putfield 131, 3) := by decide +kernel
theorem dX10_learn_21 : decode cX10_learn 21 = .ok (.aload_n 0, 1) := by decide +kernel
theorem dX10_learn_22 : decode cX10_learn 22 = .ok (.getfield 137, 3) := by decide +kernel
theorem dX10_learn_25 : decode cX10_learn 25 = .ok (.ifnonnull 11, 3) := by decide +kernel
theorem dX10_learn_28 : decode cX10_learn 28 = .ok (.aload_n 0, 1) := by decide +kernel
theorem dX10_learn_29 : decode cX10_learn 29 = .ok (.aload_n 1, 1) := by decide +kernel
theorem dX10_learn_30 : decode cX10_learn 30 = .ok (.putfield 134, 3) := by decide +kernel
theorem dX10_learn_33 : decode cX10_learn 33 = .ok (.goto 11, 3) := by decide +kernel
theorem dX10_learn_36 : decode cX10_learn 36 = .ok (.aload_n 0, 1) := by decide +kernel
theorem dX10_learn_37 : decode cX10_learn 37 = .ok (.getfield 137, 3) := by decide +kernel
theorem dX10_learn_40 : decode cX10_learn 40 = .ok (.aload_n 1, 1) := by decide +kernel
theorem dX10_learn_41 : decode cX10_learn 41 = .ok (.putfield 140, 3) := by decide +kernel
theorem dX10_learn_44 : decode cX10_learn 44 = .ok (.aload_n 0, 1) := by decide +kernel
theorem dX10_learn_45 : decode cX10_learn 45 = .ok (.aload_n 1, 1) := by decide +kernel
theorem dX10_learn_46 : decode cX10_learn 46 = .ok (.putfield 137, 3) := by decide +kernel
theorem dX10_learn_49 : decode cX10_learn 49 = .ok (.return_, 1) := by decide +kernel
theorem cc_X10_learn : Cond.code yX10_learn cX10_learn 3 none ∈ rf_tb := rf_at 1438 (by decide +kernel) (by decide +kernel)
noncomputable def bc_X10_learn_44 (a : Nat) (x1 : (Option Nat)) (σ : cl_S) : Option (cl_S) := vl (cl_wr σ a 10 x1) (fun σ_27 => some σ_27)
set_option maxHeartbeats 4000000 in
theorem wc_X10_learn_44 (C : cl_C D p s m args meth c cX10_learn 3 none RX10) {a : Nat} {x1 : (Option Nat)} {σ0 σ σ' : cl_S} {T : Nat → Nat × Nat} {H : Heap} {locs : List Loc} {ls : Array Slot} {cells slots : Nat} (h : bc_X10_learn_44 a x1 σ = some σ') (G : cl_G true D c0 ({ frames := 0, cells := σ0.2.2.2.2.2.1, slots := σ0.2.2.2.2.2.2, locals := 0 }) s σ0.2.2.2.1 T σ H locs cells slots) (ha : (T a).1 = 26) (f1 : cl_RT T x1 25) (hl : lv_has ls 3 [(0, .ref (c0 + a)), (1, cl_rf c0 x1)]) : W p l e ({ frames := 0, cells := σ0.2.2.2.2.2.1, slots := σ0.2.2.2.2.2.2, locals := 0 }) s m args below meth c H locs cells slots (MQ below (cl_Q true D c0 none cl_no σ0 σ') args s (σ0.2.2.2.2.2.1 - σ'.2.2.2.2.2.1) (σ0.2.2.2.2.2.2 - σ'.2.2.2.2.2.2) (cl_A c0 σ0.2.2.2.1 s.heap.size)) (F0 m 44 ls []) := by
  unfold bc_X10_learn_44 at h
  refine lv_aload_n C.1 C.2.1 dX10_learn_44 rfl (lv_at hl 0 rfl) ?_
  refine cl_aload_n C.1 C.2.1 dX10_learn_45 rfl (lv_at hl 1 rfl) ?_
  refine cp_10_137 (x := x1) C G ha f1 dX10_learn_46 (fun H locs G_28 => ?_)
  refine cl_nm G_28 h (fun σ_27 G_29 h_30 => ?_)
  exact cl_vret ⟨rfl, rfl⟩ rfl C G_29 h_30 dX10_learn_49
noncomputable def bc_X10_learn_0 (a : Nat) (x1 : (Option Nat)) (x2 : Int32) (σ : cl_S) : Option (cl_S) := vl (σ.2.2.1 a 4) (fun r_2 => (if x1 = r_2 then some σ else nn x1 (fun a_5 => (if (σ.1 a_5 10) < 0 then vl (cl_w σ a_5 10 x2) (fun σ_8 => vl (σ_8.2.2.1 a 10) (fun r_13 => (if r_13 = none then vl (cl_wr σ_8 a 9 (some a_5)) (fun σ_31 => bc_X10_learn_44 a (some a_5) σ_31) else vl (σ_8.2.2.1 a 10) (fun r_17 => nn r_17 (fun a_20 => vl (cl_wr σ_8 a_20 11 (some a_5)) (fun σ_23 => bc_X10_learn_44 a (some a_5) σ_23)))))) else some σ))))
set_option maxHeartbeats 4000000 in
theorem wc_X10_learn_0 (C : cl_C D p s m args meth c cX10_learn 3 none RX10) {a : Nat} {x1 : (Option Nat)} {x2 : Int32} {σ0 σ σ' : cl_S} {T : Nat → Nat × Nat} {H : Heap} {locs : List Loc} {ls : Array Slot} {cells slots : Nat} (h : bc_X10_learn_0 a x1 x2 σ = some σ') (G : cl_G true D c0 ({ frames := 0, cells := σ0.2.2.2.2.2.1, slots := σ0.2.2.2.2.2.2, locals := 0 }) s σ0.2.2.2.1 T σ H locs cells slots) (ha : (T a).1 = 26) (f1 : cl_RT T x1 25) (hl : lv_has ls 3 [(0, .ref (c0 + a)), (1, cl_rf c0 x1), (2, .int x2)]) : W p l e ({ frames := 0, cells := σ0.2.2.2.2.2.1, slots := σ0.2.2.2.2.2.2, locals := 0 }) s m args below meth c H locs cells slots (MQ below (cl_Q true D c0 none cl_no σ0 σ') args s (σ0.2.2.2.2.2.1 - σ'.2.2.2.2.2.1) (σ0.2.2.2.2.2.2 - σ'.2.2.2.2.2.2) (cl_A c0 σ0.2.2.2.1 s.heap.size)) (F0 m 0 ls []) := by
  unfold bc_X10_learn_0 at h
  refine cl_aload_n C.1 C.2.1 dX10_learn_0 rfl (lv_at hl 1 rfl) ?_
  refine lv_aload_n C.1 C.2.1 dX10_learn_1 rfl (lv_at hl 0 rfl) ?_
  refine cg_10_20 C G ha dX10_learn_2 (fun t_1 => ?_)
  refine vt_r (K := 25) t_1 h (fun r_2 t_3 h_4 => ?_)
  refine cl_acmp_eq (rx := x1) (ry := r_2) (tgt := 15) C.1 C.2.1 dX10_learn_5 (by decide) (fun hc => ?_) (fun hc => ?_)
  · rw [if_pos hc] at h_4
    exact cl_vret ⟨rfl, rfl⟩ rfl C G h_4 dX10_learn_15
  · rw [if_neg hc] at h_4
    refine cl_aload_n C.1 C.2.1 dX10_learn_8 rfl (lv_at hl 1 rfl) ?_
    obtain ⟨a_5, rfl, h_7⟩ := nn_some h_4
    have t_6 := f1 _ rfl
    refine cg_10_131 C G t_6 dX10_learn_9 ?_
    refine lv_if_lt (tgt := 16) C.1 C.2.1 dX10_learn_12 (by decide) (fun hc => ?_) (fun hc => ?_)
    · rw [if_pos hc] at h_7
      refine lv_aload_n C.1 C.2.1 dX10_learn_16 rfl (lv_at hl 1 rfl) ?_
      refine lv_iload_n C.1 C.2.1 dX10_learn_17 rfl (lv_at hl 2 rfl) ?_
      refine cp_10_131 C G t_6 dX10_learn_18 (fun H locs G_9 => ?_)
      refine cl_nm G_9 h_7 (fun σ_8 G_10 h_11 => ?_)
      refine lv_aload_n C.1 C.2.1 dX10_learn_21 rfl (lv_at hl 0 rfl) ?_
      refine cg_10_137 C G_10 ha dX10_learn_22 (fun t_12 => ?_)
      refine vt_r (K := 25) t_12 h_11 (fun r_13 t_14 h_15 => ?_)
      refine cl_ifnonnull (r := r_13) (tgt := 36) C.1 C.2.1 dX10_learn_25 (by decide) (fun hc => ?_) (fun hc => ?_)
      · rw [if_neg hc] at h_15
        refine lv_aload_n C.1 C.2.1 dX10_learn_36 rfl (lv_at hl 0 rfl) ?_
        refine cg_10_137 C G_10 ha dX10_learn_37 (fun t_16 => ?_)
        refine vt_r (K := 25) t_16 h_15 (fun r_17 t_18 h_19 => ?_)
        refine lv_aload_n C.1 C.2.1 dX10_learn_40 rfl (lv_at hl 1 rfl) ?_
        obtain ⟨a_20, rfl, h_22⟩ := nn_some h_19
        have t_21 := t_18 _ rfl
        refine cp_10_140 (x := (some a_5)) C G_10 t_21 (cl_RTs t_6) dX10_learn_41 (fun H locs G_24 => ?_)
        refine cl_nm G_24 h_22 (fun σ_23 G_25 h_26 => ?_)
        exact wc_X10_learn_44 C h_26 G_25 ha (cl_RTs t_6) (lv_sub hl [0, 1] rfl)
      · rw [if_pos hc] at h_15
        refine lv_aload_n C.1 C.2.1 dX10_learn_28 rfl (lv_at hl 0 rfl) ?_
        refine lv_aload_n C.1 C.2.1 dX10_learn_29 rfl (lv_at hl 1 rfl) ?_
        refine cp_10_134 (x := (some a_5)) C G_10 ha (cl_RTs t_6) dX10_learn_30 (fun H locs G_32 => ?_)
        refine cl_nm G_32 h_15 (fun σ_31 G_33 h_34 => ?_)
        refine lv_goto (tgt := 44) C.1 C.2.1 dX10_learn_33 (by decide) ?_
        exact wc_X10_learn_44 C h_34 G_33 ha (cl_RTs t_6) (lv_sub hl [0, 1] rfl)
    · rw [if_neg hc] at h_7
      exact cl_vret ⟨rfl, rfl⟩ rfl C G h_7 dX10_learn_15
noncomputable def fc_X10_learn (a : Nat) (x1 : (Option Nat)) (x2 : Int32) (σ : cl_S) : Option (cl_S) := bc_X10_learn_0 a x1 x2 σ
theorem kc_X10_learn (l : Launch) (D : cl_D) (c0 : Nat) {a : Nat} {x1 : (Option Nat)} {x2 : Int32} {σ σ' : cl_S} (ha : (σ.2.2.2.1 a).1 = 26) (h : fc_X10_learn a x1 x2 σ = some σ') (f1 : cl_RT σ.2.2.2.1 x1 25) : cl_Met true l D c0 yX10_learn cX10_learn 3 none 0 0 [.ref (c0 + a), cl_rf c0 x1, .int x2] σ none cl_no σ' :=
  by cases x1 <;> exact cl_of (by decide) (Nat.le_of_ble_eq_true rfl) (fun p e s m args below meth c ls C hn G hl => wc_X10_learn_0 C h G ha f1 hl)
abbrev cX10_isHad : ByteArray := prog_12_method_19_code
def yX10_isHad : MethodName := ⟨RX10, "isHad", "(LPartHouse$Term;I)Z"⟩
theorem dX10_isHad_0 : decode cX10_isHad 0 = .ok (.aload_n 1, 1) := by decide +kernel
theorem dX10_isHad_1 : decode cX10_isHad 1 = .ok (.aload_n 0, 1) := by decide +kernel
theorem dX10_isHad_2 : decode cX10_isHad 2 = .ok (.getfield 20, 3) := by decide +kernel
theorem dX10_isHad_5 : decode cX10_isHad 5 = .ok (.if_acmp .eq 18, 3) := by decide +kernel
theorem dX10_isHad_8 : decode cX10_isHad 8 = .ok (.aload_n 1, 1) := by decide +kernel
theorem dX10_isHad_9 : decode cX10_isHad 9 = .ok (.getfield 131, 3) := by decide +kernel
theorem dX10_isHad_12 : decode cX10_isHad 12 = .ok (.ifCond .lt 15, 3) := by decide +kernel
theorem dX10_isHad_15 : decode cX10_isHad 15 = .ok (.aload_n 1, 1) := by decide +kernel
theorem dX10_isHad_16 : decode cX10_isHad 16 = .ok (.getfield 131, 3) := by decide +kernel
theorem dX10_isHad_19 : decode cX10_isHad 19 = .ok (.iload_n 2, 1) := by decide +kernel
theorem dX10_isHad_20 : decode cX10_isHad 20 = .ok (.if_icmp .gt 7, 3) := by decide +kernel
theorem dX10_isHad_23 : decode cX10_isHad 23 = .ok (.iconst 1, 1) := by decide +kernel
theorem dX10_isHad_24 : decode cX10_isHad 24 = .ok (.goto 4, 3) := by decide +kernel
theorem dX10_isHad_27 : decode cX10_isHad 27 = .ok (.iconst 0, 1) := by decide +kernel
theorem dX10_isHad_28 : decode cX10_isHad 28 = .ok (.ireturn, 1) := by decide +kernel
theorem cc_X10_isHad : Cond.code yX10_isHad cX10_isHad 3 (some .boolean) ∈ rf_tb := rf_at 1446 (by decide +kernel) (by decide +kernel)
noncomputable def bc_X10_isHad_0 (a : Nat) (x1 : (Option Nat)) (x2 : Int32) (σ : cl_S) : Option (Int32 × cl_S) := vl (σ.2.2.1 a 4) (fun r_2 => (if x1 = r_2 then some ((1:Int32), σ) else nn x1 (fun a_5 => (if (σ.1 a_5 10) < 0 then some ((0:Int32), σ) else (if x2 < (σ.1 a_5 10) then some ((0:Int32), σ) else some ((1:Int32), σ))))))
set_option maxHeartbeats 4000000 in
theorem wc_X10_isHad_0 (C : cl_C D p s m args meth c cX10_isHad 3 (some .boolean) RX10) {r : Int32} {a : Nat} {x1 : (Option Nat)} {x2 : Int32} {σ0 σ σ' : cl_S} {T : Nat → Nat × Nat} {H : Heap} {locs : List Loc} {ls : Array Slot} {cells slots : Nat} (h : bc_X10_isHad_0 a x1 x2 σ = some (r, σ')) (G : cl_G true D c0 ({ frames := 0, cells := σ0.2.2.2.2.2.1, slots := σ0.2.2.2.2.2.2, locals := 0 }) s σ0.2.2.2.1 T σ H locs cells slots) (ha : (T a).1 = 26) (f1 : cl_RT T x1 25) (hl : lv_has ls 3 [(0, .ref (c0 + a)), (1, cl_rf c0 x1), (2, .int x2)]) : W p l e ({ frames := 0, cells := σ0.2.2.2.2.2.1, slots := σ0.2.2.2.2.2.2, locals := 0 }) s m args below meth c H locs cells slots (MQ below (cl_Q true D c0 (some (.int r)) cl_no σ0 σ') args s (σ0.2.2.2.2.2.1 - σ'.2.2.2.2.2.1) (σ0.2.2.2.2.2.2 - σ'.2.2.2.2.2.2) (cl_A c0 σ0.2.2.2.1 s.heap.size)) (F0 m 0 ls []) := by
  unfold bc_X10_isHad_0 at h
  refine cl_aload_n C.1 C.2.1 dX10_isHad_0 rfl (lv_at hl 1 rfl) ?_
  refine lv_aload_n C.1 C.2.1 dX10_isHad_1 rfl (lv_at hl 0 rfl) ?_
  refine cg_10_20 C G ha dX10_isHad_2 (fun t_1 => ?_)
  refine vt_r (K := 25) t_1 h (fun r_2 t_3 h_4 => ?_)
  refine cl_acmp_eq (rx := x1) (ry := r_2) (tgt := 23) C.1 C.2.1 dX10_isHad_5 (by decide) (fun hc => ?_) (fun hc => ?_)
  · rw [if_pos hc] at h_4
    refine lv_iconst (v := (1:Int32)) C.1 C.2.1 dX10_isHad_23 (by decide) ?_
    refine lv_goto (tgt := 28) C.1 C.2.1 dX10_isHad_24 (by decide) ?_
    exact cl_zret ⟨rfl, rfl⟩ rfl C G h_4 rfl dX10_isHad_28
  · rw [if_neg hc] at h_4
    refine cl_aload_n C.1 C.2.1 dX10_isHad_8 rfl (lv_at hl 1 rfl) ?_
    obtain ⟨a_5, rfl, h_7⟩ := nn_some h_4
    have t_6 := f1 _ rfl
    refine cg_10_131 C G t_6 dX10_isHad_9 ?_
    refine lv_if_lt (tgt := 27) C.1 C.2.1 dX10_isHad_12 (by decide) (fun hc => ?_) (fun hc => ?_)
    · rw [if_pos hc] at h_7
      refine lv_iconst (v := (0:Int32)) C.1 C.2.1 dX10_isHad_27 (by decide) ?_
      exact cl_zret ⟨rfl, rfl⟩ rfl C G h_7 rfl dX10_isHad_28
    · rw [if_neg hc] at h_7
      refine lv_aload_n C.1 C.2.1 dX10_isHad_15 rfl (lv_at hl 1 rfl) ?_
      refine cg_10_131 C G t_6 dX10_isHad_16 ?_
      refine lv_iload_n C.1 C.2.1 dX10_isHad_19 rfl (lv_at hl 2 rfl) ?_
      refine lv_icmp_gt (tgt := 27) C.1 C.2.1 dX10_isHad_20 (by decide) (fun hc => ?_) (fun hc => ?_)
      · rw [if_pos hc] at h_7
        refine lv_iconst (v := (0:Int32)) C.1 C.2.1 dX10_isHad_27 (by decide) ?_
        exact cl_zret ⟨rfl, rfl⟩ rfl C G h_7 rfl dX10_isHad_28
      · rw [if_neg hc] at h_7
        refine lv_iconst (v := (1:Int32)) C.1 C.2.1 dX10_isHad_23 (by decide) ?_
        refine lv_goto (tgt := 28) C.1 C.2.1 dX10_isHad_24 (by decide) ?_
        exact cl_zret ⟨rfl, rfl⟩ rfl C G h_7 rfl dX10_isHad_28
noncomputable def fc_X10_isHad (a : Nat) (x1 : (Option Nat)) (x2 : Int32) (σ : cl_S) : Option (Int32 × cl_S) := bc_X10_isHad_0 a x1 x2 σ
theorem kc_X10_isHad (l : Launch) (D : cl_D) (c0 : Nat) {r : Int32} {a : Nat} {x1 : (Option Nat)} {x2 : Int32} {σ σ' : cl_S} (ha : (σ.2.2.2.1 a).1 = 26) (h : fc_X10_isHad a x1 x2 σ = some (r, σ')) (f1 : cl_RT σ.2.2.2.1 x1 25) : cl_Met true l D c0 yX10_isHad cX10_isHad 3 (some .boolean) 0 0 [.ref (c0 + a), cl_rf c0 x1, .int x2] σ (some (.int r)) cl_no σ' :=
  by cases x1 <;> exact cl_of (by decide) (Nat.le_of_ble_eq_true rfl) (fun p e s m args below meth c ls C hn G hl => wc_X10_isHad_0 C h G ha f1 hl)
end CQ12
