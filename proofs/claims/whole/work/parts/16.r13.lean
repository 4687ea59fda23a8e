section RQ12
variable {p : Program} {l : Launch} {e : Env} {s : State} {m : MethodId} {args : Array Value} {below : List Frame} {meth : Method} {c : Code} {D : rf_D} {h0 : Nat}
abbrev cX12_blockOf : ByteArray := prog_14_method_91_code
def yX12_blockOf : MethodName := ⟨RX12, "blockOf", "(II)I"⟩
theorem dX12_blockOf_0 : decode cX12_blockOf 0 = .ok (.bipush 64, 2) := by decide +kernel
theorem dX12_blockOf_2 : decode cX12_blockOf 2 = .ok (.aload_n 0, 1) := by decide +kernel
theorem dX12_blockOf_3 : decode cX12_blockOf 3 = .ok (.getfield 525, 3) := by decide +kernel
theorem dX12_blockOf_6 : decode cX12_blockOf 6 = .ok (.imul, 1) := by decide +kernel
theorem dX12_blockOf_7 : decode cX12_blockOf 7 = .ok (.iconst 2, 1) := by decide +kernel
theorem dX12_blockOf_8 : decode cX12_blockOf 8 = .ok (.aload_n 0, 1) := by decide +kernel
theorem dX12_blockOf_9 : decode cX12_blockOf 9 = .ok (.getfield 116, 3) := by decide +kernel
theorem dX12_blockOf_12 : decode cX12_blockOf 12 = .ok (.aload_n 0, 1) := by decide +kernel
theorem dX12_blockOf_13 : decode cX12_blockOf 13 = .ok (.getfield 567, 3) := by decide +kernel
theorem dX12_blockOf_16 : decode cX12_blockOf 16 = .ok (.iaload, 1) := by decide +kernel
theorem dX12_blockOf_17 : decode cX12_blockOf 17 = .ok (.iload_n 1, 1) := by decide +kernel
theorem dX12_blockOf_18 : decode cX12_blockOf 18 = .ok (.iadd, 1) := by decide +kernel
theorem dX12_blockOf_19 : decode cX12_blockOf 19 = .ok (.imul, 1) := by decide +kernel
theorem dX12_blockOf_20 : decode cX12_blockOf 20 = .ok (.iadd, 1) := by decide +kernel
theorem dX12_blockOf_21 : decode cX12_blockOf 21 = .ok (.iload_n 2, 1) := by decide +kernel
theorem dX12_blockOf_22 : decode cX12_blockOf 22 = .ok (.iadd, 1) := by decide +kernel
theorem dX12_blockOf_23 : decode cX12_blockOf 23 = .ok (.ireturn, 1) := by decide +kernel
theorem cc_blockOf : Cond.code yX12_blockOf cX12_blockOf 3 (some .int) ∈ rf_tb := rf_at 2231 (by decide +kernel) (by decide +kernel)
theorem cw_blockOf : rf_wV yX12_blockOf cX12_blockOf 3 (some .int) 659 2 := ⟨⟨rf_at 2228 (by decide +kernel) (by decide +kernel), rf_at 2230 (by decide +kernel) (by decide +kernel), rf_sel (q := (yX12_blockOf, 122)) 136 (by decide +kernel) (by decide +kernel), cc_blockOf⟩, rfl, by decide +kernel⟩
noncomputable def bq_blockOf_0 (x1 : Int32) (x2 : Int32) (ρ : rf_S) : Option (Int32 × rf_S) := ix (ρ.1 0 118) 8 (some (((((64:Int32) * (ρ.1 0 79)) + ((2:Int32) * ((ρ.1 31 (ρ.1 0 118).toNatClampNeg) + x1))) + x2), ρ))
set_option maxHeartbeats 4000000 in
theorem wq_blockOf_0 (C : rf_C D p s m args meth c cX12_blockOf 3 (some .int)) {r : Int32} {x1 : Int32} {x2 : Int32} {ρ ρ' : rf_S} {H : Heap} {locs : List Loc} {ls : Array Slot} (h : bq_blockOf_0 x1 x2 ρ = some (r, ρ')) (G : rf_G D h0 s ρ H locs) (hl : lv_has ls 3 [(0, .ref h0), (1, .int x1), (2, .int x2)]) : W p l e ({ frames := 0, cells := 0, slots := 0, locals := 0 }) s m args below meth c H locs 0 0 (MQ below (rf_Q D h0 (some (.int r)) ρ') args s 0 0 (rf_A h0)) (F0 m 0 ls []) := by
  unfold bq_blockOf_0 at h
  refine lv_bipush (v := (64:Int32)) C.1 C.2.1 dX12_blockOf_0 (by decide) ?_
  refine lv_aload_n C.1 C.2.1 dX12_blockOf_2 rfl (lv_at hl 0 rfl) ?_
  refine gf_79 C G dX12_blockOf_3 ?_
  refine lv_imul C.1 C.2.1 dX12_blockOf_6 ?_
  refine lv_iconst (v := (2:Int32)) C.1 C.2.1 dX12_blockOf_7 (by decide) ?_
  refine lv_aload_n C.1 C.2.1 dX12_blockOf_8 rfl (lv_at hl 0 rfl) ?_
  refine gf_59 C G dX12_blockOf_9 ?_
  refine lv_aload_n C.1 C.2.1 dX12_blockOf_12 rfl (lv_at hl 0 rfl) ?_
  refine gf_118 C G dX12_blockOf_13 ?_
  obtain ⟨hi, h⟩ := ix_some h
  refine rf_iald C G 31 rfl (by decide) rfl rfl hi dX12_blockOf_16 ?_
  refine lv_iload_n C.1 C.2.1 dX12_blockOf_17 rfl (lv_at hl 1 rfl) ?_
  refine lv_iadd C.1 C.2.1 dX12_blockOf_18 ?_
  refine lv_imul C.1 C.2.1 dX12_blockOf_19 ?_
  refine lv_iadd C.1 C.2.1 dX12_blockOf_20 ?_
  refine lv_iload_n C.1 C.2.1 dX12_blockOf_21 rfl (lv_at hl 2 rfl) ?_
  refine lv_iadd C.1 C.2.1 dX12_blockOf_22 ?_
  exact rf_iret C G h dX12_blockOf_23
noncomputable def fq_blockOf (x1 : Int32) (x2 : Int32) (ρ : rf_S) : Option (Int32 × rf_S) := bq_blockOf_0 x1 x2 ρ
theorem kq_blockOf (l : Launch) (D : rf_D) (h0 : Nat) {r : Int32} {x1 : Int32} {x2 : Int32} {ρ ρ' : rf_S} (h : fq_blockOf x1 x2 ρ = some (r, ρ')) : rf_Met l D h0 yX12_blockOf cX12_blockOf 3 (some .int) 0 0 [.ref h0, .int x1, .int x2] ρ (some (.int r)) ρ' :=
  rf_of rfl cc_blockOf (Nat.le_of_ble_eq_true rfl) (fun p e s m args below meth c ls C G hl => wq_blockOf_0 C h G hl)
abbrev cX12_isRight : ByteArray := prog_14_method_92_code
def yX12_isRight : MethodName := ⟨RX12, "isRight", "(II)Z"⟩
theorem dX12_isRight_0 : decode cX12_isRight 0 = .ok (.aload_n 0, 1) := by decide +kernel
theorem dX12_isRight_1 : decode cX12_isRight 1 = .ok (.getfield 248, 3) := by decide +kernel
theorem dX12_isRight_4 : decode cX12_isRight 4 = .ok (.iload_n 2, 1) := by decide +kernel
theorem dX12_isRight_5 : decode cX12_isRight 5 = .ok (.iaload, 1) := by decide +kernel
theorem dX12_isRight_6 : decode cX12_isRight 6 = .ok (.istore_n 3, 1) := by decide +kernel
theorem dX12_isRight_7 : decode cX12_isRight 7 = .ok (.iload_n 3, 1) := by decide +kernel
theorem dX12_isRight_8 : decode cX12_isRight 8 = .ok (.ifCond .lt 14, 3) := by decide +kernel
theorem dX12_isRight_11 : decode cX12_isRight 11 = .ok (.aload_n 0, 1) := by decide +kernel
theorem dX12_isRight_12 : decode cX12_isRight 12 = .ok (.getfield 8, 3) := by decide +kernel
theorem dX12_isRight_15 : decode cX12_isRight 15 = .ok (.iload_n 3, 1) := by decide +kernel
theorem dX12_isRight_16 : decode cX12_isRight 16 = .ok (.baload, 1) := by decide +kernel
theorem dX12_isRight_17 : decode cX12_isRight 17 = .ok (.bipush 8, 2) := by decide +kernel
theorem dX12_isRight_19 : decode cX12_isRight 19 = .ok (.if_icmp .eq 5, 3) := by decide +kernel
theorem dX12_isRight_22 : decode cX12_isRight 22 = .ok (.iconst 0, 1) := by decide +kernel
theorem dX12_isRight_23 : decode cX12_isRight 23 = .ok (.ireturn, 1) := by decide +kernel
theorem dX12_isRight_24 : decode cX12_isRight 24 = .ok (.aload_n 0, 1) := by decide +kernel
theorem dX12_isRight_25 : decode cX12_isRight 25 = .ok (.getfield 14, 3) := by decide +kernel
theorem dX12_isRight_28 : decode cX12_isRight 28 = .ok (.iload_n 3, 1) := by decide +kernel
theorem dX12_isRight_29 : decode cX12_isRight 29 = .ok (.iaload, 1) := by decide +kernel
theorem dX12_isRight_30 : decode cX12_isRight 30 = .ok (.istore 4, 2) := by decide +kernel
theorem dX12_isRight_32 : decode cX12_isRight 32 = .ok (.aload_n 0, 1) := by decide +kernel
theorem dX12_isRight_33 : decode cX12_isRight 33 = .ok (.getfield 18, 3) := by decide +kernel
theorem dX12_isRight_36 : decode cX12_isRight 36 = .ok (.iload_n 3, 1) := by decide +kernel
theorem dX12_isRight_37 : decode cX12_isRight 37 = .ok (.iaload, 1) := by decide +kernel
theorem dX12_isRight_38 : decode cX12_isRight 38 = .ok (.istore 5, 2) := by decide +kernel
theorem dX12_isRight_40 : decode cX12_isRight 40 = .ok (.aload_n 0, 1) := by decide +kernel
theorem dX12_isRight_41 : decode cX12_isRight 41 = .ok (.getfield 8, 3) := by decide +kernel
theorem dX12_isRight_44 : decode cX12_isRight 44 = .ok (.iload 4, 2) := by decide +kernel
theorem dX12_isRight_46 : decode cX12_isRight 46 = .ok (.baload, 1) := by decide +kernel
theorem dX12_isRight_47 : decode cX12_isRight 47 = .ok (.bipush 9, 2) := by decide +kernel
theorem dX12_isRight_49 : decode cX12_isRight 49 = .ok (.if_icmp .ne 47, 3) := by decide +kernel
theorem dX12_isRight_52 : decode cX12_isRight 52 = .ok (.aload_n 0, 1) := by decide +kernel
theorem dX12_isRight_53 : decode cX12_isRight 53 = .ok (.getfield 14, 3) := by decide +kernel
theorem dX12_isRight_56 : decode cX12_isRight 56 = .ok (.iload 4, 2) := by decide +kernel
theorem dX12_isRight_58 : decode cX12_isRight 58 = .ok (.iaload, 1) := by decide +kernel
theorem dX12_isRight_59 : decode cX12_isRight 59 = .ok (.aload_n 0, 1) := by decide +kernel
theorem dX12_isRight_60 : decode cX12_isRight 60 = .ok (.getfield 275, 3) := by decide +kernel
theorem dX12_isRight_63 : decode cX12_isRight 63 = .ok (.if_icmp .ne 33, 3) := by decide +kernel
theorem dX12_isRight_66 : decode cX12_isRight 66 = .ok (.aload_n 0, 1) := by decide +kernel
theorem dX12_isRight_67 : decode cX12_isRight 67 = .ok (.getfield 18, 3) := by decide +kernel
theorem dX12_isRight_70 : decode cX12_isRight 70 = .ok (.iload 4, 2) := by decide +kernel
theorem dX12_isRight_72 : decode cX12_isRight 72 = .ok (.iaload, 1) := by decide +kernel
theorem dX12_isRight_73 : decode cX12_isRight 73 = .ok (.aload_n 0, 1) := by decide +kernel
theorem dX12_isRight_74 : decode cX12_isRight 74 = .ok (.getfield 140, 3) := by decide +kernel
theorem dX12_isRight_77 : decode cX12_isRight 77 = .ok (.aload_n 0, 1) := by decide +kernel
theorem dX12_isRight_78 : decode cX12_isRight 78 = .ok (.getfield 567, 3) := by decide +kernel
theorem dX12_isRight_81 : decode cX12_isRight 81 = .ok (.iaload, 1) := by decide +kernel
theorem dX12_isRight_82 : decode cX12_isRight 82 = .ok (.if_icmp .ne 14, 3) := by decide +kernel
theorem dX12_isRight_85 : decode cX12_isRight 85 = .ok (.aload_n 0, 1) := by decide +kernel
theorem dX12_isRight_86 : decode cX12_isRight 86 = .ok (.getfield 8, 3) := by decide +kernel
theorem dX12_isRight_89 : decode cX12_isRight 89 = .ok (.iload 5, 2) := by decide +kernel
theorem dX12_isRight_91 : decode cX12_isRight 91 = .ok (.baload, 1) := by decide +kernel
theorem dX12_isRight_92 : decode cX12_isRight 92 = .ok (.iconst 3, 1) := by decide +kernel
theorem dX12_isRight_93 : decode cX12_isRight 93 = .ok (.if_icmp .eq 5, 3) := by decide +kernel
theorem dX12_isRight_96 : decode cX12_isRight 96 = .ok (.iconst 0, 1) := by decide +kernel
theorem dX12_isRight_97 : decode cX12_isRight 97 = .ok (.ireturn, 1) := by decide +kernel
theorem dX12_isRight_98 : decode cX12_isRight 98 = .ok (.aload_n 0, 1) := by decide +kernel
theorem dX12_isRight_99 : decode cX12_isRight 99 = .ok (.getfield 14, 3) := by decide +kernel
theorem dX12_isRight_102 : decode cX12_isRight 102 = .ok (.iload 5, 2) := by decide +kernel
theorem dX12_isRight_104 : decode cX12_isRight 104 = .ok (.iaload, 1) := by decide +kernel
theorem dX12_isRight_105 : decode cX12_isRight 105 = .ok (.istore 6, 2) := by decide +kernel
theorem dX12_isRight_107 : decode cX12_isRight 107 = .ok (.aload_n 0, 1) := by decide +kernel
theorem dX12_isRight_108 : decode cX12_isRight 108 = .ok (.getfield 18, 3) := by decide +kernel
theorem dX12_isRight_111 : decode cX12_isRight 111 = .ok (.iload 5, 2) := by decide +kernel
theorem dX12_isRight_113 : decode cX12_isRight 113 = .ok (.iaload, 1) := by decide +kernel
theorem dX12_isRight_114 : decode cX12_isRight 114 = .ok (.istore 7, 2) := by decide +kernel
theorem dX12_isRight_116 : decode cX12_isRight 116 = .ok (.aload_n 0, 1) := by decide +kernel
theorem dX12_isRight_117 : decode cX12_isRight 117 = .ok (.getfield 8, 3) := by decide +kernel
theorem dX12_isRight_120 : decode cX12_isRight 120 = .ok (.iload 6, 2) := by decide +kernel
theorem dX12_isRight_122 : decode cX12_isRight 122 = .ok (.baload, 1) := by decide +kernel
theorem dX12_isRight_123 : decode cX12_isRight 123 = .ok (.ifCond .ne 44, 3) := by decide +kernel
theorem dX12_isRight_126 : decode cX12_isRight 126 = .ok (.aload_n 0, 1) := by decide +kernel
theorem dX12_isRight_127 : decode cX12_isRight 127 = .ok (.getfield 14, 3) := by decide +kernel
theorem dX12_isRight_130 : decode cX12_isRight 130 = .ok (.iload 6, 2) := by decide +kernel
theorem dX12_isRight_132 : decode cX12_isRight 132 = .ok (.iaload, 1) := by decide +kernel
theorem dX12_isRight_133 : decode cX12_isRight 133 = .ok (.iload_n 1, 1) := by decide +kernel
theorem dX12_isRight_134 : decode cX12_isRight 134 = .ok (.if_icmp .ne 33, 3) := by decide +kernel
theorem dX12_isRight_137 : decode cX12_isRight 137 = .ok (.aload_n 0, 1) := by decide +kernel
theorem dX12_isRight_138 : decode cX12_isRight 138 = .ok (.getfield 8, 3) := by decide +kernel
theorem dX12_isRight_141 : decode cX12_isRight 141 = .ok (.iload 7, 2) := by decide +kernel
theorem dX12_isRight_143 : decode cX12_isRight 143 = .ok (.baload, 1) := by decide +kernel
theorem dX12_isRight_144 : decode cX12_isRight 144 = .ok (.ifCond .ne 23, 3) := by decide +kernel
theorem dX12_isRight_147 : decode cX12_isRight 147 = .ok (.aload_n 0, 1) := by decide +kernel
theorem dX12_isRight_148 : decode cX12_isRight 148 = .ok (.getfield 14, 3) := by decide +kernel
theorem dX12_isRight_151 : decode cX12_isRight 151 = .ok (.iload 7, 2) := by decide +kernel
theorem dX12_isRight_153 : decode cX12_isRight 153 = .ok (.iaload, 1) := by decide +kernel
theorem dX12_isRight_154 : decode cX12_isRight 154 = .ok (.aload_n 0, 1) := by decide +kernel
theorem dX12_isRight_155 : decode cX12_isRight 155 = .ok (.getfield 245, 3) := by decide +kernel
theorem dX12_isRight_158 : decode cX12_isRight 158 = .ok (.iload_n 2, 1) := by decide +kernel
theorem dX12_isRight_159 : decode cX12_isRight 159 = .ok (.iaload, 1) := by decide +kernel
theorem dX12_isRight_160 : decode cX12_isRight 160 = .ok (.if_icmp .ne 7, 3) := by decide +kernel
theorem dX12_isRight_163 : decode cX12_isRight 163 = .ok (.iconst 1, 1) := by decide +kernel
theorem dX12_isRight_164 : decode cX12_isRight 164 = .ok (.goto 4, 3) := by decide +kernel
theorem dX12_isRight_167 : decode cX12_isRight 167 = .ok (.iconst 0, 1) := by decide +kernel
theorem dX12_isRight_168 : decode cX12_isRight 168 = .ok (.ireturn, 1) := by decide +kernel
theorem cc_isRight : Cond.code yX12_isRight cX12_isRight 8 (some .boolean) ∈ rf_tb := rf_at 2235 (by decide +kernel) (by decide +kernel)
theorem cw_isRight : rf_wV yX12_isRight cX12_isRight 8 (some .boolean) 662 2 := ⟨⟨rf_at 2232 (by decide +kernel) (by decide +kernel), rf_at 2234 (by decide +kernel) (by decide +kernel), rf_sel (q := (yX12_isRight, 122)) 137 (by decide +kernel) (by decide +kernel), cc_isRight⟩, rfl, by decide +kernel⟩
noncomputable def bq_isRight_0 (x1 : Int32) (x2 : Int32) (ρ : rf_S) : Option (Int32 × rf_S) := ix x2 128 (vl (ρ.1 75 x2.toNatClampNeg) (fun x3_1 => (if x3_1 < 0 then some ((0:Int32), ρ) else ix x3_1 112000 ((if (ρ.1 1 x3_1.toNatClampNeg) = (8:Int32) then ix x3_1 112000 (vl (ρ.1 2 x3_1.toNatClampNeg) (fun x4_2 => ix x3_1 112000 (vl (ρ.1 3 x3_1.toNatClampNeg) (fun x5_3 => ix x4_2 112000 ((if (ρ.1 1 x4_2.toNatClampNeg) = (9:Int32) then ix x4_2 112000 ((if (ρ.1 2 x4_2.toNatClampNeg) = (ρ.1 0 19) then ix x4_2 112000 (ix (ρ.1 0 118) 8 ((if (ρ.1 3 x4_2.toNatClampNeg) = (ρ.1 39 (ρ.1 0 118).toNatClampNeg) then ix x5_3 112000 ((if (ρ.1 1 x5_3.toNatClampNeg) = (3:Int32) then ix x5_3 112000 (vl (ρ.1 2 x5_3.toNatClampNeg) (fun x6_4 => ix x5_3 112000 (vl (ρ.1 3 x5_3.toNatClampNeg) (fun x7_5 => ix x6_4 112000 ((if (ρ.1 1 x6_4.toNatClampNeg) = 0 then ix x6_4 112000 ((if (ρ.1 2 x6_4.toNatClampNeg) = x1 then ix x7_5 112000 ((if (ρ.1 1 x7_5.toNatClampNeg) = 0 then ix x7_5 112000 (ix x2 128 ((if (ρ.1 2 x7_5.toNatClampNeg) = (ρ.1 74 x2.toNatClampNeg) then some ((1:Int32), ρ) else some ((0:Int32), ρ)))) else some ((0:Int32), ρ))) else some ((0:Int32), ρ))) else some ((0:Int32), ρ))))))) else some ((0:Int32), ρ))) else some ((0:Int32), ρ)))) else some ((0:Int32), ρ))) else some ((0:Int32), ρ))))))) else some ((0:Int32), ρ))))))
set_option maxHeartbeats 4000000 in
theorem wq_isRight_0 (C : rf_C D p s m args meth c cX12_isRight 8 (some .boolean)) {r : Int32} {x1 : Int32} {x2 : Int32} {ρ ρ' : rf_S} {H : Heap} {locs : List Loc} {ls : Array Slot} (h : bq_isRight_0 x1 x2 ρ = some (r, ρ')) (G : rf_G D h0 s ρ H locs) (hl : lv_has ls 8 [(0, .ref h0), (1, .int x1), (2, .int x2)]) : W p l e ({ frames := 0, cells := 0, slots := 0, locals := 0 }) s m args below meth c H locs 0 0 (MQ below (rf_Q D h0 (some (.int r)) ρ') args s 0 0 (rf_A h0)) (F0 m 0 ls []) := by
  unfold bq_isRight_0 at h
  refine lv_aload_n C.1 C.2.1 dX12_isRight_0 rfl (lv_at hl 0 rfl) ?_
  refine gf_107 C G dX12_isRight_1 ?_
  refine lv_iload_n C.1 C.2.1 dX12_isRight_4 rfl (lv_at hl 2 rfl) ?_
  obtain ⟨hi, h⟩ := ix_some h
  refine rf_iald C G 75 rfl (by decide) rfl rfl hi dX12_isRight_5 ?_
  refine vt_i h (fun x3_1 h => ?_)
  refine lv_istore_n (lv' := [(3, .int x3_1), (0, .ref h0), (1, .int x1), (2, .int x2)]) C.1 C.2.1 dX12_isRight_6 rfl hl (by decide) rfl (fun ls hl => ?_)
  refine lv_iload_n C.1 C.2.1 dX12_isRight_7 rfl (lv_at hl 0 rfl) ?_
  refine lv_if_lt (tgt := 22) C.1 C.2.1 dX12_isRight_8 (by decide) (fun hc => ?_) (fun hc => ?_)
  · rw [if_pos hc] at h
    refine lv_iconst (v := (0:Int32)) C.1 C.2.1 dX12_isRight_22 (by decide) ?_
    exact rf_zret C G h rfl dX12_isRight_23
  · rw [if_neg hc] at h
    refine lv_aload_n C.1 C.2.1 dX12_isRight_11 rfl (lv_at hl 1 rfl) ?_
    refine gf_0 C G dX12_isRight_12 ?_
    refine lv_iload_n C.1 C.2.1 dX12_isRight_15 rfl (lv_at hl 0 rfl) ?_
    obtain ⟨hi, h⟩ := ix_some h
    refine rf_bald C G 1 rfl (by decide) rfl rfl hi dX12_isRight_16 ?_
    refine lv_bipush (v := (8:Int32)) C.1 C.2.1 dX12_isRight_17 (by decide) ?_
    refine lv_icmp_eq (tgt := 24) C.1 C.2.1 dX12_isRight_19 (by decide) (fun hc => ?_) (fun hc => ?_)
    · rw [if_pos hc] at h
      refine lv_aload_n C.1 C.2.1 dX12_isRight_24 rfl (lv_at hl 1 rfl) ?_
      refine gf_1 C G dX12_isRight_25 ?_
      refine lv_iload_n C.1 C.2.1 dX12_isRight_28 rfl (lv_at hl 0 rfl) ?_
      obtain ⟨hi, h⟩ := ix_some h
      refine rf_iald C G 2 rfl (by decide) rfl rfl hi dX12_isRight_29 ?_
      refine vt_i h (fun x4_2 h => ?_)
      refine lv_istore (lv' := [(4, .int x4_2), (3, .int x3_1), (0, .ref h0), (1, .int x1), (2, .int x2)]) C.1 C.2.1 dX12_isRight_30 hl (by decide) rfl (fun ls hl => ?_)
      refine lv_aload_n C.1 C.2.1 dX12_isRight_32 rfl (lv_at hl 2 rfl) ?_
      refine gf_2 C G dX12_isRight_33 ?_
      refine lv_iload_n C.1 C.2.1 dX12_isRight_36 rfl (lv_at hl 1 rfl) ?_
      obtain ⟨hi, h⟩ := ix_some h
      refine rf_iald C G 3 rfl (by decide) rfl rfl hi dX12_isRight_37 ?_
      refine vt_i h (fun x5_3 h => ?_)
      refine lv_istore (lv' := [(5, .int x5_3), (4, .int x4_2), (3, .int x3_1), (0, .ref h0), (1, .int x1), (2, .int x2)]) C.1 C.2.1 dX12_isRight_38 hl (by decide) rfl (fun ls hl => ?_)
      refine lv_aload_n C.1 C.2.1 dX12_isRight_40 rfl (lv_at hl 3 rfl) ?_
      refine gf_0 C G dX12_isRight_41 ?_
      refine lv_iload C.1 C.2.1 dX12_isRight_44 (lv_at hl 1 rfl) ?_
      obtain ⟨hi, h⟩ := ix_some h
      refine rf_bald C G 1 rfl (by decide) rfl rfl hi dX12_isRight_46 ?_
      refine lv_bipush (v := (9:Int32)) C.1 C.2.1 dX12_isRight_47 (by decide) ?_
      refine lv_icmp_ne (tgt := 96) C.1 C.2.1 dX12_isRight_49 (by decide) (fun hc => ?_) (fun hc => ?_)
      · rw [if_neg hc] at h
        refine lv_iconst (v := (0:Int32)) C.1 C.2.1 dX12_isRight_96 (by decide) ?_
        exact rf_zret C G h rfl dX12_isRight_97
      · rw [if_pos hc] at h
        refine lv_aload_n C.1 C.2.1 dX12_isRight_52 rfl (lv_at hl 3 rfl) ?_
        refine gf_1 C G dX12_isRight_53 ?_
        refine lv_iload C.1 C.2.1 dX12_isRight_56 (lv_at hl 1 rfl) ?_
        obtain ⟨hi, h⟩ := ix_some h
        refine rf_iald C G 2 rfl (by decide) rfl rfl hi dX12_isRight_58 ?_
        refine lv_aload_n C.1 C.2.1 dX12_isRight_59 rfl (lv_at hl 3 rfl) ?_
        refine gf_19 C G dX12_isRight_60 ?_
        refine lv_icmp_ne (tgt := 96) C.1 C.2.1 dX12_isRight_63 (by decide) (fun hc => ?_) (fun hc => ?_)
        · rw [if_neg hc] at h
          refine lv_iconst (v := (0:Int32)) C.1 C.2.1 dX12_isRight_96 (by decide) ?_
          exact rf_zret C G h rfl dX12_isRight_97
        · rw [if_pos hc] at h
          refine lv_aload_n C.1 C.2.1 dX12_isRight_66 rfl (lv_at hl 3 rfl) ?_
          refine gf_2 C G dX12_isRight_67 ?_
          refine lv_iload C.1 C.2.1 dX12_isRight_70 (lv_at hl 1 rfl) ?_
          obtain ⟨hi, h⟩ := ix_some h
          refine rf_iald C G 3 rfl (by decide) rfl rfl hi dX12_isRight_72 ?_
          refine lv_aload_n C.1 C.2.1 dX12_isRight_73 rfl (lv_at hl 3 rfl) ?_
          refine gf_69 C G dX12_isRight_74 ?_
          refine lv_aload_n C.1 C.2.1 dX12_isRight_77 rfl (lv_at hl 3 rfl) ?_
          refine gf_118 C G dX12_isRight_78 ?_
          obtain ⟨hi, h⟩ := ix_some h
          refine rf_iald C G 39 rfl (by decide) rfl rfl hi dX12_isRight_81 ?_
          refine lv_icmp_ne (tgt := 96) C.1 C.2.1 dX12_isRight_82 (by decide) (fun hc => ?_) (fun hc => ?_)
          · rw [if_neg hc] at h
            refine lv_iconst (v := (0:Int32)) C.1 C.2.1 dX12_isRight_96 (by decide) ?_
            exact rf_zret C G h rfl dX12_isRight_97
          · rw [if_pos hc] at h
            refine lv_aload_n C.1 C.2.1 dX12_isRight_85 rfl (lv_at hl 3 rfl) ?_
            refine gf_0 C G dX12_isRight_86 ?_
            refine lv_iload C.1 C.2.1 dX12_isRight_89 (lv_at hl 0 rfl) ?_
            obtain ⟨hi, h⟩ := ix_some h
            refine rf_bald C G 1 rfl (by decide) rfl rfl hi dX12_isRight_91 ?_
            refine lv_iconst (v := (3:Int32)) C.1 C.2.1 dX12_isRight_92 (by decide) ?_
            refine lv_icmp_eq (tgt := 98) C.1 C.2.1 dX12_isRight_93 (by decide) (fun hc => ?_) (fun hc => ?_)
            · rw [if_pos hc] at h
              refine lv_aload_n C.1 C.2.1 dX12_isRight_98 rfl (lv_at hl 3 rfl) ?_
              refine gf_1 C G dX12_isRight_99 ?_
              refine lv_iload C.1 C.2.1 dX12_isRight_102 (lv_at hl 0 rfl) ?_
              obtain ⟨hi, h⟩ := ix_some h
              refine rf_iald C G 2 rfl (by decide) rfl rfl hi dX12_isRight_104 ?_
              refine vt_i h (fun x6_4 h => ?_)
              refine lv_istore (lv' := [(6, .int x6_4), (5, .int x5_3), (4, .int x4_2), (3, .int x3_1), (0, .ref h0), (1, .int x1), (2, .int x2)]) C.1 C.2.1 dX12_isRight_105 hl (by decide) rfl (fun ls hl => ?_)
              refine lv_aload_n C.1 C.2.1 dX12_isRight_107 rfl (lv_at hl 4 rfl) ?_
              refine gf_2 C G dX12_isRight_108 ?_
              refine lv_iload C.1 C.2.1 dX12_isRight_111 (lv_at hl 1 rfl) ?_
              obtain ⟨hi, h⟩ := ix_some h
              refine rf_iald C G 3 rfl (by decide) rfl rfl hi dX12_isRight_113 ?_
              refine vt_i h (fun x7_5 h => ?_)
              refine lv_istore (lv' := [(7, .int x7_5), (6, .int x6_4), (5, .int x5_3), (4, .int x4_2), (3, .int x3_1), (0, .ref h0), (1, .int x1), (2, .int x2)]) C.1 C.2.1 dX12_isRight_114 hl (by decide) rfl (fun ls hl => ?_)
              refine lv_aload_n C.1 C.2.1 dX12_isRight_116 rfl (lv_at hl 5 rfl) ?_
              refine gf_0 C G dX12_isRight_117 ?_
              refine lv_iload C.1 C.2.1 dX12_isRight_120 (lv_at hl 1 rfl) ?_
              obtain ⟨hi, h⟩ := ix_some h
              refine rf_bald C G 1 rfl (by decide) rfl rfl hi dX12_isRight_122 ?_
              refine lv_if_ne (tgt := 167) C.1 C.2.1 dX12_isRight_123 (by decide) (fun hc => ?_) (fun hc => ?_)
              · rw [if_neg hc] at h
                refine lv_iconst (v := (0:Int32)) C.1 C.2.1 dX12_isRight_167 (by decide) ?_
                exact rf_zret C G h rfl dX12_isRight_168
              · rw [if_pos hc] at h
                refine lv_aload_n C.1 C.2.1 dX12_isRight_126 rfl (lv_at hl 5 rfl) ?_
                refine gf_1 C G dX12_isRight_127 ?_
                refine lv_iload C.1 C.2.1 dX12_isRight_130 (lv_at hl 1 rfl) ?_
                obtain ⟨hi, h⟩ := ix_some h
                refine rf_iald C G 2 rfl (by decide) rfl rfl hi dX12_isRight_132 ?_
                refine lv_iload_n C.1 C.2.1 dX12_isRight_133 rfl (lv_at hl 6 rfl) ?_
                refine lv_icmp_ne (tgt := 167) C.1 C.2.1 dX12_isRight_134 (by decide) (fun hc => ?_) (fun hc => ?_)
                · rw [if_neg hc] at h
                  refine lv_iconst (v := (0:Int32)) C.1 C.2.1 dX12_isRight_167 (by decide) ?_
                  exact rf_zret C G h rfl dX12_isRight_168
                · rw [if_pos hc] at h
                  refine lv_aload_n C.1 C.2.1 dX12_isRight_137 rfl (lv_at hl 5 rfl) ?_
                  refine gf_0 C G dX12_isRight_138 ?_
                  refine lv_iload C.1 C.2.1 dX12_isRight_141 (lv_at hl 0 rfl) ?_
                  obtain ⟨hi, h⟩ := ix_some h
                  refine rf_bald C G 1 rfl (by decide) rfl rfl hi dX12_isRight_143 ?_
                  refine lv_if_ne (tgt := 167) C.1 C.2.1 dX12_isRight_144 (by decide) (fun hc => ?_) (fun hc => ?_)
                  · rw [if_neg hc] at h
                    refine lv_iconst (v := (0:Int32)) C.1 C.2.1 dX12_isRight_167 (by decide) ?_
                    exact rf_zret C G h rfl dX12_isRight_168
                  · rw [if_pos hc] at h
                    refine lv_aload_n C.1 C.2.1 dX12_isRight_147 rfl (lv_at hl 5 rfl) ?_
                    refine gf_1 C G dX12_isRight_148 ?_
                    refine lv_iload C.1 C.2.1 dX12_isRight_151 (lv_at hl 0 rfl) ?_
                    obtain ⟨hi, h⟩ := ix_some h
                    refine rf_iald C G 2 rfl (by decide) rfl rfl hi dX12_isRight_153 ?_
                    refine lv_aload_n C.1 C.2.1 dX12_isRight_154 rfl (lv_at hl 5 rfl) ?_
                    refine gf_106 C G dX12_isRight_155 ?_
                    refine lv_iload_n C.1 C.2.1 dX12_isRight_158 rfl (lv_at hl 7 rfl) ?_
                    obtain ⟨hi, h⟩ := ix_some h
                    refine rf_iald C G 74 rfl (by decide) rfl rfl hi dX12_isRight_159 ?_
                    refine lv_icmp_ne (tgt := 167) C.1 C.2.1 dX12_isRight_160 (by decide) (fun hc => ?_) (fun hc => ?_)
                    · rw [if_neg hc] at h
                      refine lv_iconst (v := (0:Int32)) C.1 C.2.1 dX12_isRight_167 (by decide) ?_
                      exact rf_zret C G h rfl dX12_isRight_168
                    · rw [if_pos hc] at h
                      refine lv_iconst (v := (1:Int32)) C.1 C.2.1 dX12_isRight_163 (by decide) ?_
                      refine lv_goto (tgt := 168) C.1 C.2.1 dX12_isRight_164 (by decide) ?_
                      exact rf_zret C G h rfl dX12_isRight_168
            · rw [if_neg hc] at h
              refine lv_iconst (v := (0:Int32)) C.1 C.2.1 dX12_isRight_96 (by decide) ?_
              exact rf_zret C G h rfl dX12_isRight_97
    · rw [if_neg hc] at h
      refine lv_iconst (v := (0:Int32)) C.1 C.2.1 dX12_isRight_22 (by decide) ?_
      exact rf_zret C G h rfl dX12_isRight_23
noncomputable def fq_isRight (x1 : Int32) (x2 : Int32) (ρ : rf_S) : Option (Int32 × rf_S) := bq_isRight_0 x1 x2 ρ
theorem kq_isRight (l : Launch) (D : rf_D) (h0 : Nat) {r : Int32} {x1 : Int32} {x2 : Int32} {ρ ρ' : rf_S} (h : fq_isRight x1 x2 ρ = some (r, ρ')) : rf_Met l D h0 yX12_isRight cX12_isRight 8 (some .boolean) 0 0 [.ref h0, .int x1, .int x2] ρ (some (.int r)) ρ' :=
  rf_of rfl cc_isRight (Nat.le_of_ble_eq_true rfl) (fun p e s m args below meth c ls C G hl => wq_isRight_0 C h G hl)
abbrev cX12_counts : ByteArray := prog_14_method_93_code
def yX12_counts : MethodName := ⟨RX12, "counts", "(I)I"⟩
theorem dX12_counts_0 : decode cX12_counts 0 = .ok (.aload_n 0, 1) := by decide +kernel
theorem dX12_counts_1 : decode cX12_counts 1 = .ok (.iload_n 1, 1) := by decide +kernel
theorem dX12_counts_2 : decode cX12_counts 2 = .ok (.iconst 0, 1) := by decide +kernel
theorem dX12_counts_3 : decode cX12_counts 3 = .ok (.invokevirtual 659, 3) := by decide +kernel
theorem dX12_counts_6 : decode cX12_counts 6 = .ok (.istore_n 2, 1) := by decide +kernel
theorem dX12_counts_7 : decode cX12_counts 7 = .ok (.aload_n 0, 1) := by decide +kernel
theorem dX12_counts_8 : decode cX12_counts 8 = .ok (.iload_n 1, 1) := by decide +kernel
theorem dX12_counts_9 : decode cX12_counts 9 = .ok (.iload_n 2, 1) := by decide +kernel
theorem dX12_counts_10 : decode cX12_counts 10 = .ok (.invokevirtual 662, 3) := by decide +kernel
theorem dX12_counts_13 : decode cX12_counts 13 = .ok (.istore_n 3, 1) := by decide +kernel
theorem dX12_counts_14 : decode cX12_counts 14 = .ok (.aload_n 0, 1) := by decide +kernel
theorem dX12_counts_15 : decode cX12_counts 15 = .ok (.iload_n 1, 1) := by decide +kernel
theorem dX12_counts_16 : decode cX12_counts 16 = .ok (.iload_n 2, 1) := by decide +kernel
theorem dX12_counts_17 : decode cX12_counts 17 = .ok (.iconst 1, 1) := by decide +kernel
theorem dX12_counts_18 : decode cX12_counts 18 = .ok (.iadd, 1) := by decide +kernel
theorem dX12_counts_19 : decode cX12_counts 19 = .ok (.invokevirtual 662, 3) := by decide +kernel
theorem dX12_counts_22 : decode cX12_counts 22 = .ok (.istore 4, 2) := by decide +kernel
theorem dX12_counts_24 : decode cX12_counts 24 = .ok (.iload_n 3, 1) := by decide +kernel
theorem dX12_counts_25 : decode cX12_counts 25 = .ok (.ifCond .eq 29, 3) := by decide +kernel
theorem dX12_counts_28 : decode cX12_counts 28 = .ok (.iload 4, 2) := by decide +kernel
theorem dX12_counts_30 : decode cX12_counts 30 = .ok (.ifCond .eq 20, 3) := by decide +kernel
theorem dX12_counts_33 : decode cX12_counts 33 = .ok (.aload_n 0, 1) := by decide +kernel
theorem dX12_counts_34 : decode cX12_counts 34 = .ok (.getfield 245, 3) := by decide +kernel
theorem dX12_counts_37 : decode cX12_counts 37 = .ok (.iload_n 2, 1) := by decide +kernel
theorem dX12_counts_38 : decode cX12_counts 38 = .ok (.iaload, 1) := by decide +kernel
theorem dX12_counts_39 : decode cX12_counts 39 = .ok (.aload_n 0, 1) := by decide +kernel
theorem dX12_counts_40 : decode cX12_counts 40 = .ok (.getfield 245, 3) := by decide +kernel
theorem dX12_counts_43 : decode cX12_counts 43 = .ok (.iload_n 2, 1) := by decide +kernel
theorem dX12_counts_44 : decode cX12_counts 44 = .ok (.iconst 1, 1) := by decide +kernel
theorem dX12_counts_45 : decode cX12_counts 45 = .ok (.iadd, 1) := by decide +kernel
theorem dX12_counts_46 : decode cX12_counts 46 = .ok (.iaload, 1) := by decide +kernel
theorem dX12_counts_47 : decode cX12_counts 47 = .ok (.if_icmp .lt 7, 3) := by decide +kernel
theorem dX12_counts_50 : decode cX12_counts 50 = .ok (.iload_n 2, 1) := by decide +kernel
theorem dX12_counts_51 : decode cX12_counts 51 = .ok (.goto 15, 3) := by decide +kernel
theorem dX12_counts_54 : decode cX12_counts 54 = .ok (.iload 4, 2) := by decide +kernel
theorem dX12_counts_56 : decode cX12_counts 56 = .ok (.ifCond .eq 9, 3) := by decide +kernel
theorem dX12_counts_59 : decode cX12_counts 59 = .ok (.iload_n 2, 1) := by decide +kernel
theorem dX12_counts_60 : decode cX12_counts 60 = .ok (.iconst 1, 1) := by decide +kernel
theorem dX12_counts_61 : decode cX12_counts 61 = .ok (.iadd, 1) := by decide +kernel
theorem dX12_counts_62 : decode cX12_counts 62 = .ok (.goto 4, 3) := by decide +kernel
theorem dX12_counts_65 : decode cX12_counts 65 = .ok (.iconst (-1), 1) := by decide +kernel
theorem dX12_counts_66 : decode cX12_counts 66 = .ok (.ireturn, 1) := by decide +kernel
theorem cc_counts : Cond.code yX12_counts cX12_counts 5 (some .int) ∈ rf_tb := rf_at 2227 (by decide +kernel) (by decide +kernel)
theorem cw_counts : rf_wV yX12_counts cX12_counts 5 (some .int) 671 1 := ⟨⟨rf_at 2224 (by decide +kernel) (by decide +kernel), rf_at 2226 (by decide +kernel) (by decide +kernel), rf_sel (q := (yX12_counts, 122)) 135 (by decide +kernel) (by decide +kernel), cc_counts⟩, rfl, by decide +kernel⟩
noncomputable def bq_counts_54 (x2 : Int32) (x4 : Int32) (ρ : rf_S) : Option (Int32 × rf_S) := (if x4 = 0 then some ((-1:Int32), ρ) else some ((x2 + (1:Int32)), ρ))
set_option maxHeartbeats 4000000 in
theorem wq_counts_54 (C : rf_C D p s m args meth c cX12_counts 5 (some .int)) {r : Int32} {x2 : Int32} {x4 : Int32} {ρ ρ' : rf_S} {H : Heap} {locs : List Loc} {ls : Array Slot} (h : bq_counts_54 x2 x4 ρ = some (r, ρ')) (G : rf_G D h0 s ρ H locs) (hl : lv_has ls 5 [(0, .ref h0), (2, .int x2), (4, .int x4)]) : W p l e ({ frames := 1, cells := 0, slots := 0, locals := 27 }) s m args below meth c H locs 0 0 (MQ below (rf_Q D h0 (some (.int r)) ρ') args s 0 0 (rf_A h0)) (F0 m 54 ls []) := by
  unfold bq_counts_54 at h
  refine lv_iload C.1 C.2.1 dX12_counts_54 (lv_at hl 2 rfl) ?_
  refine lv_if_eq (tgt := 65) C.1 C.2.1 dX12_counts_56 (by decide) (fun hc => ?_) (fun hc => ?_)
  · rw [if_pos hc] at h
    refine lv_iconst (v := (-1:Int32)) C.1 C.2.1 dX12_counts_65 (by decide) ?_
    exact rf_iret C G h dX12_counts_66
  · rw [if_neg hc] at h
    refine lv_iload_n C.1 C.2.1 dX12_counts_59 rfl (lv_at hl 1 rfl) ?_
    refine lv_iconst (v := (1:Int32)) C.1 C.2.1 dX12_counts_60 (by decide) ?_
    refine lv_iadd C.1 C.2.1 dX12_counts_61 ?_
    refine lv_goto (tgt := 66) C.1 C.2.1 dX12_counts_62 (by decide) ?_
    exact rf_iret C G h dX12_counts_66
noncomputable def bq_counts_0 (x1 : Int32) (ρ : rf_S) : Option (Int32 × rf_S) := bd2 (fq_blockOf x1 (0:Int32) ρ) (fun r_2 ρ_1 => bd2 (fq_isRight x1 r_2 ρ_1) (fun r_4 ρ_3 => bd2 (fq_isRight x1 (r_2 + (1:Int32)) ρ_3) (fun r_6 ρ_5 => (if r_4 = 0 then bq_counts_54 r_2 r_6 ρ_5 else (if r_6 = 0 then some (r_2, ρ_5) else ix r_2 128 (ix (r_2 + (1:Int32)) 128 ((if (ρ_5.1 74 r_2.toNatClampNeg) < (ρ_5.1 74 (r_2 + (1:Int32)).toNatClampNeg) then bq_counts_54 r_2 r_6 ρ_5 else some (r_2, ρ_5)))))))))
set_option maxHeartbeats 4000000 in
theorem wq_counts_0 (C : rf_C D p s m args meth c cX12_counts 5 (some .int)) {r : Int32} {x1 : Int32} {ρ ρ' : rf_S} {H : Heap} {locs : List Loc} {ls : Array Slot} (h : bq_counts_0 x1 ρ = some (r, ρ')) (G : rf_G D h0 s ρ H locs) (hl : lv_has ls 5 [(0, .ref h0), (1, .int x1)]) : W p l e ({ frames := 1, cells := 0, slots := 0, locals := 27 }) s m args below meth c H locs 0 0 (MQ below (rf_Q D h0 (some (.int r)) ρ') args s 0 0 (rf_A h0)) (F0 m 0 ls []) := by
  unfold bq_counts_0 at h
  refine lv_aload_n C.1 C.2.1 dX12_counts_0 rfl (lv_at hl 0 rfl) ?_
  refine lv_iload_n C.1 C.2.1 dX12_counts_1 rfl (lv_at hl 1 rfl) ?_
  refine lv_iconst (v := (0:Int32)) C.1 C.2.1 dX12_counts_2 (by decide) ?_
  obtain ⟨r_2, ρ_1, hq, h⟩ := bd2_some h
  refine rf_callV (rest := []) C G cw_blockOf [.int x1, .int (0:Int32)] _ (kq_blockOf l D h0 hq) (Nat.le_of_ble_eq_true rfl) (Nat.le_of_ble_eq_true rfl) rfl rfl hl.1 (Nat.le_of_ble_eq_true rfl) (Nat.zero_le _) (Nat.zero_le _) dX12_counts_3 (fun H locs G => ?_)
  refine W.eq (g2 := F0 m 6 ls [.int r_2]) rfl ?_
  refine lv_istore_n (lv' := [(2, .int r_2), (0, .ref h0), (1, .int x1)]) C.1 C.2.1 dX12_counts_6 rfl hl (by decide) rfl (fun ls hl => ?_)
  refine lv_aload_n C.1 C.2.1 dX12_counts_7 rfl (lv_at hl 1 rfl) ?_
  refine lv_iload_n C.1 C.2.1 dX12_counts_8 rfl (lv_at hl 2 rfl) ?_
  refine lv_iload_n C.1 C.2.1 dX12_counts_9 rfl (lv_at hl 0 rfl) ?_
  obtain ⟨r_4, ρ_3, hq, h⟩ := bd2_some h
  refine rf_callV (rest := []) C G cw_isRight [.int x1, .int r_2] _ (kq_isRight l D h0 hq) (Nat.le_of_ble_eq_true rfl) (Nat.le_of_ble_eq_true rfl) rfl rfl hl.1 (Nat.le_of_ble_eq_true rfl) (Nat.zero_le _) (Nat.zero_le _) dX12_counts_10 (fun H locs G => ?_)
  refine W.eq (g2 := F0 m 13 ls [.int r_4]) rfl ?_
  refine lv_istore_n (lv' := [(3, .int r_4), (2, .int r_2), (0, .ref h0), (1, .int x1)]) C.1 C.2.1 dX12_counts_13 rfl hl (by decide) rfl (fun ls hl => ?_)
  refine lv_aload_n C.1 C.2.1 dX12_counts_14 rfl (lv_at hl 2 rfl) ?_
  refine lv_iload_n C.1 C.2.1 dX12_counts_15 rfl (lv_at hl 3 rfl) ?_
  refine lv_iload_n C.1 C.2.1 dX12_counts_16 rfl (lv_at hl 1 rfl) ?_
  refine lv_iconst (v := (1:Int32)) C.1 C.2.1 dX12_counts_17 (by decide) ?_
  refine lv_iadd C.1 C.2.1 dX12_counts_18 ?_
  obtain ⟨r_6, ρ_5, hq, h⟩ := bd2_some h
  refine rf_callV (rest := []) C G cw_isRight [.int x1, .int (r_2 + (1:Int32))] _ (kq_isRight l D h0 hq) (Nat.le_of_ble_eq_true rfl) (Nat.le_of_ble_eq_true rfl) rfl rfl hl.1 (Nat.le_of_ble_eq_true rfl) (Nat.zero_le _) (Nat.zero_le _) dX12_counts_19 (fun H locs G => ?_)
  refine W.eq (g2 := F0 m 22 ls [.int r_6]) rfl ?_
  refine lv_istore (lv' := [(4, .int r_6), (3, .int r_4), (2, .int r_2), (0, .ref h0), (1, .int x1)]) C.1 C.2.1 dX12_counts_22 hl (by decide) rfl (fun ls hl => ?_)
  refine lv_iload_n C.1 C.2.1 dX12_counts_24 rfl (lv_at hl 1 rfl) ?_
  refine lv_if_eq (tgt := 54) C.1 C.2.1 dX12_counts_25 (by decide) (fun hc => ?_) (fun hc => ?_)
  · rw [if_pos hc] at h
    exact wq_counts_54 C h G (lv_sub hl [3, 2, 0] rfl)
  · rw [if_neg hc] at h
    refine lv_iload C.1 C.2.1 dX12_counts_28 (lv_at hl 0 rfl) ?_
    refine lv_if_eq (tgt := 50) C.1 C.2.1 dX12_counts_30 (by decide) (fun hc => ?_) (fun hc => ?_)
    · rw [if_pos hc] at h
      refine lv_iload_n C.1 C.2.1 dX12_counts_50 rfl (lv_at hl 2 rfl) ?_
      refine lv_goto (tgt := 66) C.1 C.2.1 dX12_counts_51 (by decide) ?_
      exact rf_iret C G h dX12_counts_66
    · rw [if_neg hc] at h
      refine lv_aload_n C.1 C.2.1 dX12_counts_33 rfl (lv_at hl 3 rfl) ?_
      refine gf_106 C G dX12_counts_34 ?_
      refine lv_iload_n C.1 C.2.1 dX12_counts_37 rfl (lv_at hl 2 rfl) ?_
      obtain ⟨hi, h⟩ := ix_some h
      refine rf_iald C G 74 rfl (by decide) rfl rfl hi dX12_counts_38 ?_
      refine lv_aload_n C.1 C.2.1 dX12_counts_39 rfl (lv_at hl 3 rfl) ?_
      refine gf_106 C G dX12_counts_40 ?_
      refine lv_iload_n C.1 C.2.1 dX12_counts_43 rfl (lv_at hl 2 rfl) ?_
      refine lv_iconst (v := (1:Int32)) C.1 C.2.1 dX12_counts_44 (by decide) ?_
      refine lv_iadd C.1 C.2.1 dX12_counts_45 ?_
      obtain ⟨hi, h⟩ := ix_some h
      refine rf_iald C G 74 rfl (by decide) rfl rfl hi dX12_counts_46 ?_
      refine lv_icmp_lt (tgt := 54) C.1 C.2.1 dX12_counts_47 (by decide) (fun hc => ?_) (fun hc => ?_)
      · rw [if_pos hc] at h
        exact wq_counts_54 C h G (lv_sub hl [3, 2, 0] rfl)
      · rw [if_neg hc] at h
        refine lv_iload_n C.1 C.2.1 dX12_counts_50 rfl (lv_at hl 2 rfl) ?_
        refine lv_goto (tgt := 66) C.1 C.2.1 dX12_counts_51 (by decide) ?_
        exact rf_iret C G h dX12_counts_66
noncomputable def fq_counts (x1 : Int32) (ρ : rf_S) : Option (Int32 × rf_S) := bq_counts_0 x1 ρ
theorem kq_counts (l : Launch) (D : rf_D) (h0 : Nat) {r : Int32} {x1 : Int32} {ρ ρ' : rf_S} (h : fq_counts x1 ρ = some (r, ρ')) : rf_Met l D h0 yX12_counts cX12_counts 5 (some .int) 1 27 [.ref h0, .int x1] ρ (some (.int r)) ρ' :=
  rf_of rfl cc_counts (Nat.le_of_ble_eq_true rfl) (fun p e s m args below meth c ls C G hl => wq_counts_0 C h G hl)
abbrev cX12_seal : ByteArray := prog_14_method_96_code
def yX12_seal : MethodName := ⟨RX12, "seal", "(II)I"⟩
theorem dX12_seal_0 : decode cX12_seal 0 = .ok (.aload_n 0, 1) := by decide +kernel
theorem dX12_seal_1 : decode cX12_seal 1 = .ok (.iload_n 2, 1) := by decide +kernel
theorem dX12_seal_2 : decode cX12_seal 2 = .ok (.invokevirtual 639, 3) := by decide +kernel
theorem dX12_seal_5 : decode cX12_seal 5 = .ok (.ifCond .ne 6, 3) := by decide +kernel
theorem dX12_seal_8 : decode cX12_seal 8 = .ok (.bipush (-2), 2) := by decide +kernel
theorem dX12_seal_10 : decode cX12_seal 10 = .ok (.ireturn, 1) := by decide +kernel
theorem dX12_seal_11 : decode cX12_seal 11 = .ok (.aload_n 0, 1) := by decide +kernel
theorem dX12_seal_12 : decode cX12_seal 12 = .ok (.getfield 230, 3) := by decide +kernel
theorem dX12_seal_15 : decode cX12_seal 15 = .ok (.aload_n 0, 1) := by decide +kernel
theorem dX12_seal_16 : decode cX12_seal 16 = .ok (.getfield 563, 3) := by decide +kernel
theorem dX12_seal_19 : decode cX12_seal 19 = .ok (.iaload, 1) := by decide +kernel
theorem dX12_seal_20 : decode cX12_seal 20 = .ok (.bipush 40, 2) := by decide +kernel
theorem dX12_seal_22 : decode cX12_seal 22 = .ok (.if_icmp .ne 6, 3) := by decide +kernel
theorem dX12_seal_25 : decode cX12_seal 25 = .ok (.bipush (-4), 2) := by decide +kernel
theorem dX12_seal_27 : decode cX12_seal 27 = .ok (.ireturn, 1) := by decide +kernel
theorem dX12_seal_28 : decode cX12_seal 28 = .ok (.aload_n 0, 1) := by decide +kernel
theorem dX12_seal_29 : decode cX12_seal 29 = .ok (.iload_n 1, 1) := by decide +kernel
theorem dX12_seal_30 : decode cX12_seal 30 = .ok (.invokevirtual 671, 3) := by decide +kernel
theorem dX12_seal_33 : decode cX12_seal 33 = .ok (.istore_n 3, 1) := by decide +kernel
theorem dX12_seal_34 : decode cX12_seal 34 = .ok (.iload_n 3, 1) := by decide +kernel
theorem dX12_seal_35 : decode cX12_seal 35 = .ok (.ifCond .ge 7, 3) := by decide +kernel
theorem dX12_seal_38 : decode cX12_seal 38 = .ok (.iconst 1, 1) := by decide +kernel
theorem dX12_seal_39 : decode cX12_seal 39 = .ok (.goto 11, 3) := by decide +kernel
theorem dX12_seal_42 : decode cX12_seal 42 = .ok (.aload_n 0, 1) := by decide +kernel
theorem dX12_seal_43 : decode cX12_seal 43 = .ok (.getfield 245, 3) := by decide +kernel
theorem dX12_seal_46 : decode cX12_seal 46 = .ok (.iload_n 3, 1) := by decide +kernel
theorem dX12_seal_47 : decode cX12_seal 47 = .ok (.iaload, 1) := by decide +kernel
theorem dX12_seal_48 : decode cX12_seal 48 = .ok (.iconst 1, 1) := by decide +kernel
theorem dX12_seal_49 : decode cX12_seal 49 = .ok (.iadd, 1) := by decide +kernel
theorem dX12_seal_50 : decode cX12_seal 50 = .ok (.istore 4, 2) := by decide +kernel
theorem dX12_seal_52 : decode cX12_seal 52 = .ok (.aload_n 0, 1) := by decide +kernel
theorem dX12_seal_53 : decode cX12_seal 53 = .ok (.iload_n 1, 1) := by decide +kernel
theorem dX12_seal_54 : decode cX12_seal 54 = .ok (.iload 4, 2) := by decide +kernel
theorem dX12_seal_56 : decode cX12_seal 56 = .ok (.iconst 1, 1) := by decide +kernel
theorem dX12_seal_57 : decode cX12_seal 57 = .ok (.iand, 1) := by decide +kernel
theorem dX12_seal_58 : decode cX12_seal 58 = .ok (.invokevirtual 659, 3) := by decide +kernel
theorem dX12_seal_61 : decode cX12_seal 61 = .ok (.istore 5, 2) := by decide +kernel
theorem dX12_seal_63 : decode cX12_seal 63 = .ok (.aload_n 0, 1) := by decide +kernel
theorem dX12_seal_64 : decode cX12_seal 64 = .ok (.getfield 525, 3) := by decide +kernel
theorem dX12_seal_67 : decode cX12_seal 67 = .ok (.ifCond .ne 65, 3) := by decide +kernel
theorem dX12_seal_70 : decode cX12_seal 70 = .ok (.aload_n 0, 1) := by decide +kernel
theorem dX12_seal_71 : decode cX12_seal 71 = .ok (.dup, 1) := by decide +kernel
theorem dX12_seal_72 : decode cX12_seal 72 = .ok (.getfield 674, 3) := by decide +kernel
theorem dX12_seal_75 : decode cX12_seal 75 = .ok (.iconst 1, 1) := by decide +kernel
theorem dX12_seal_76 : decode cX12_seal 76 = .ok (.iadd, 1) := by decide +kernel
theorem dX12_seal_77 : decode cX12_seal 77 = .ok (.putfield 674, 3) := by decide +kernel
theorem dX12_seal_80 : decode cX12_seal 80 = .ok (.aload_n 0, 1) := by decide +kernel
theorem dX12_seal_81 : decode cX12_seal 81 = .ok (.getfield 544, 3) := by decide +kernel
theorem dX12_seal_84 : decode cX12_seal 84 = .ok (.ifCond .le 48, 3) := by decide +kernel
theorem dX12_seal_87 : decode cX12_seal 87 = .ok (.aload_n 0, 1) := by decide +kernel
theorem dX12_seal_88 : decode cX12_seal 88 = .ok (.dup, 1) := by decide +kernel
theorem dX12_seal_89 : decode cX12_seal 89 = .ok (.getfield 544, 3) := by decide +kernel
theorem dX12_seal_92 : decode cX12_seal 92 = .ok (.iconst 1, 1) := by decide +kernel
theorem dX12_seal_93 : decode cX12_seal 93 = .ok (.isub, 1) := by decide +kernel
theorem dX12_seal_94 : decode cX12_seal 94 = .ok (.putfield 544, 3) := by decide +kernel
theorem dX12_seal_97 : decode cX12_seal 97 = .ok (.aload_n 0, 1) := by decide +kernel
theorem dX12_seal_98 : decode cX12_seal 98 = .ok (.getfield 544, 3) := by decide +kernel
theorem dX12_seal_101 : decode cX12_seal 101 = .ok (.ifCond .ne 31, 3) := by decide +kernel
theorem dX12_seal_104 : decode cX12_seal 104 = .ok (.aload_n 0, 1) := by decide +kernel
theorem dX12_seal_105 : decode cX12_seal 105 = .ok (.getfield 245, 3) := by decide +kernel
theorem dX12_seal_108 : decode cX12_seal 108 = .ok (.iload 5, 2) := by decide +kernel
theorem dX12_seal_110 : decode cX12_seal 110 = .ok (.iconst 0, 1) := by decide +kernel
theorem dX12_seal_111 : decode cX12_seal 111 = .ok (.iastore, 1) := by decide +kernel
theorem dX12_seal_112 : decode cX12_seal 112 = .ok (.aload_n 0, 1) := by decide +kernel
theorem dX12_seal_113 : decode cX12_seal 113 = .ok (.getfield 248, 3) := by decide +kernel
theorem dX12_seal_116 : decode cX12_seal 116 = .ok (.iload 5, 2) := by decide +kernel
theorem dX12_seal_118 : decode cX12_seal 118 = .ok (.iconst (-1), 1) := by decide +kernel
theorem dX12_seal_119 : decode cX12_seal 119 = .ok (.iastore, 1) := by decide +kernel
theorem dX12_seal_120 : decode cX12_seal 120 = .ok (.aload_n 0, 1) := by decide +kernel
theorem dX12_seal_121 : decode cX12_seal 121 = .ok (.iconst 0, 1) := by decide +kernel
theorem dX12_seal_122 : decode cX12_seal 122 = .ok (.putfield 528, 3) := by decide +kernel
theorem dX12_seal_125 : decode cX12_seal 125 = .ok (.aload_n 0, 1) := by decide +kernel
theorem dX12_seal_126 : decode cX12_seal 126 = .ok (.iconst 1, 1) := by decide +kernel
theorem dX12_seal_127 : decode cX12_seal 127 = .ok (.putfield 553, 3) := by decide +kernel
theorem dX12_seal_130 : decode cX12_seal 130 = .ok (.iconst 0, 1) := by decide +kernel
theorem dX12_seal_131 : decode cX12_seal 131 = .ok (.ireturn, 1) := by decide +kernel
theorem dX12_seal_132 : decode cX12_seal 132 = .ok (.aload_n 0, 1) := by decide +kernel
theorem dX12_seal_133 : decode cX12_seal 133 = .ok (.iconst 3, 1) := by decide +kernel
theorem dX12_seal_134 : decode cX12_seal 134 = .ok (.aload_n 0, 1) := by decide +kernel
theorem dX12_seal_135 : decode cX12_seal 135 = .ok (.iconst 0, 1) := by decide +kernel
theorem dX12_seal_136 : decode cX12_seal 136 = .ok (.iload_n 1, 1) := by decide +kernel
theorem dX12_seal_137 : decode cX12_seal 137 = .ok (.iconst 0, 1) := by decide +kernel
theorem dX12_seal_138 : decode cX12_seal 138 = .ok (.iconst 0, 1) := by decide +kernel
theorem dX12_seal_139 : decode cX12_seal 139 = .ok (.invokevirtual 271, 3) := by decide +kernel
theorem dX12_seal_142 : decode cX12_seal 142 = .ok (.aload_n 0, 1) := by decide +kernel
theorem dX12_seal_143 : decode cX12_seal 143 = .ok (.iconst 0, 1) := by decide +kernel
theorem dX12_seal_144 : decode cX12_seal 144 = .ok (.iload 4, 2) := by decide +kernel
theorem dX12_seal_146 : decode cX12_seal 146 = .ok (.iconst 0, 1) := by decide +kernel
theorem dX12_seal_147 : decode cX12_seal 147 = .ok (.iconst 0, 1) := by decide +kernel
theorem dX12_seal_148 : decode cX12_seal 148 = .ok (.invokevirtual 271, 3) := by decide +kernel
theorem dX12_seal_151 : decode cX12_seal 151 = .ok (.iconst 0, 1) := by decide +kernel
theorem dX12_seal_152 : decode cX12_seal 152 = .ok (.invokevirtual 271, 3) := by decide +kernel
theorem dX12_seal_155 : decode cX12_seal 155 = .ok (.istore 6, 2) := by decide +kernel
theorem dX12_seal_157 : decode cX12_seal 157 = .ok (.aload_n 0, 1) := by decide +kernel
theorem dX12_seal_158 : decode cX12_seal 158 = .ok (.bipush 8, 2) := by decide +kernel
theorem dX12_seal_160 : decode cX12_seal 160 = .ok (.aload_n 0, 1) := by decide +kernel
theorem dX12_seal_161 : decode cX12_seal 161 = .ok (.bipush 9, 2) := by decide +kernel
theorem dX12_seal_163 : decode cX12_seal 163 = .ok (.aload_n 0, 1) := by decide +kernel
theorem dX12_seal_164 : decode cX12_seal 164 = .ok (.getfield 275, 3) := by decide +kernel
theorem dX12_seal_167 : decode cX12_seal 167 = .ok (.aload_n 0, 1) := by decide +kernel
theorem dX12_seal_168 : decode cX12_seal 168 = .ok (.getfield 140, 3) := by decide +kernel
theorem dX12_seal_171 : decode cX12_seal 171 = .ok (.aload_n 0, 1) := by decide +kernel
theorem dX12_seal_172 : decode cX12_seal 172 = .ok (.getfield 567, 3) := by decide +kernel
theorem dX12_seal_175 : decode cX12_seal 175 = .ok (.iaload, 1) := by decide +kernel
theorem dX12_seal_176 : decode cX12_seal 176 = .ok (.iconst 0, 1) := by decide +kernel
theorem dX12_seal_177 : decode cX12_seal 177 = .ok (.invokevirtual 271, 3) := by decide +kernel
theorem dX12_seal_180 : decode cX12_seal 180 = .ok (.iload 6, 2) := by decide +kernel
theorem dX12_seal_182 : decode cX12_seal 182 = .ok (.aload_n 0, 1) := by decide +kernel
theorem dX12_seal_183 : decode cX12_seal 183 = .ok (.iload_n 2, 1) := by decide +kernel
theorem dX12_seal_184 : decode cX12_seal 184 = .ok (.invokevirtual 642, 3) := by decide +kernel
theorem dX12_seal_187 : decode cX12_seal 187 = .ok (.invokevirtual 271, 3) := by decide +kernel
theorem dX12_seal_190 : decode cX12_seal 190 = .ok (.istore 7, 2) := by decide +kernel
theorem dX12_seal_192 : decode cX12_seal 192 = .ok (.aload_n 0, 1) := by decide +kernel
theorem dX12_seal_193 : decode cX12_seal 193 = .ok (.getfield 245, 3) := by decide +kernel
theorem dX12_seal_196 : decode cX12_seal 196 = .ok (.iload 5, 2) := by decide +kernel
theorem dX12_seal_198 : decode cX12_seal 198 = .ok (.iload 4, 2) := by decide +kernel
theorem dX12_seal_200 : decode cX12_seal 200 = .ok (.iastore, 1) := by decide +kernel
theorem dX12_seal_201 : decode cX12_seal 201 = .ok (.aload_n 0, 1) := by decide +kernel
theorem dX12_seal_202 : decode cX12_seal 202 = .ok (.getfield 248, 3) := by decide +kernel
theorem dX12_seal_205 : decode cX12_seal 205 = .ok (.iload 5, 2) := by decide +kernel
theorem dX12_seal_207 : decode cX12_seal 207 = .ok (.iload 7, 2) := by decide +kernel
theorem dX12_seal_209 : decode cX12_seal 209 = .ok (.iastore, 1) := by decide +kernel
theorem dX12_seal_210 : decode cX12_seal 210 = .ok (.aload_n 0, 1) := by decide +kernel
theorem dX12_seal_211 : decode cX12_seal 211 = .ok (.getfield 230, 3) := by decide +kernel
theorem dX12_seal_214 : decode cX12_seal 214 = .ok (.aload_n 0, 1) := by decide +kernel
theorem dX12_seal_215 : decode cX12_seal 215 = .ok (.getfield 563, 3) := by decide +kernel
theorem dX12_seal_218 : decode cX12_seal 218 = .ok (.dup2, 1) := by decide +kernel
theorem dX12_seal_219 : decode cX12_seal 219 = .ok (.iaload, 1) := by decide +kernel
theorem dX12_seal_220 : decode cX12_seal 220 = .ok (.iconst 1, 1) := by decide +kernel
theorem dX12_seal_221 : decode cX12_seal 221 = .ok (.iadd, 1) := by decide +kernel
theorem dX12_seal_222 : decode cX12_seal 222 = .ok (.iastore, 1) := by decide +kernel
theorem dX12_seal_223 : decode cX12_seal 223 = .ok (.aload_n 0, 1) := by decide +kernel
theorem dX12_seal_224 : decode cX12_seal 224 = .ok (.getfield 525, 3) := by decide +kernel
theorem dX12_seal_227 : decode cX12_seal 227 = .ok (.ifCond .ne 9, 3) := by decide +kernel
theorem dX12_seal_230 : decode cX12_seal 230 = .ok (.aload_n 0, 1) := by decide +kernel
theorem dX12_seal_231 : decode cX12_seal 231 = .ok (.iload 7, 2) := by decide +kernel
theorem dX12_seal_233 : decode cX12_seal 233 = .ok (.invokevirtual 648, 3) := by decide +kernel
theorem dX12_seal_236 : decode cX12_seal 236 = .ok (.iload 4, 2) := by decide +kernel
theorem dX12_seal_238 : decode cX12_seal 238 = .ok (.ireturn, 1) := by decide +kernel
theorem cc_seal : Cond.code yX12_seal cX12_seal 8 (some .int) ∈ rf_tb := rf_at 2223 (by decide +kernel) (by decide +kernel)
theorem cw_seal : rf_wV yX12_seal cX12_seal 8 (some .int) 668 2 := ⟨⟨rf_at 2220 (by decide +kernel) (by decide +kernel), rf_at 2222 (by decide +kernel) (by decide +kernel), rf_sel (q := (yX12_seal, 122)) 134 (by decide +kernel) (by decide +kernel), cc_seal⟩, rfl, by decide +kernel⟩
noncomputable def bq_seal_132 (x1 : Int32) (x2 : Int32) (x4 : Int32) (x5 : Int32) (ρ : rf_S) : Option (Int32 × rf_S) := bd2 (fq_term (0:Int32) x1 (0:Int32) (0:Int32) ρ) (fun r_8 ρ_7 => bd2 (fq_term (0:Int32) x4 (0:Int32) (0:Int32) ρ_7) (fun r_10 ρ_9 => bd2 (fq_term (3:Int32) r_8 r_10 (0:Int32) ρ_9) (fun r_12 ρ_11 => ix (ρ_11.1 0 118) 8 (bd2 (fq_term (9:Int32) (ρ_11.1 0 19) (ρ_11.1 39 (ρ_11.1 0 118).toNatClampNeg) (0:Int32) ρ_11) (fun r_14 ρ_13 => bd2 (fq_of x2 ρ_13) (fun r_16 ρ_15 => bd2 (fq_term (8:Int32) r_14 r_12 r_16 ρ_15) (fun r_18 ρ_17 => ix x5 128 (vl (rf_w ρ_17 74 x5.toNatClampNeg x4) (fun ρ_19 => ix x5 128 (vl (rf_w ρ_19 75 x5.toNatClampNeg r_18) (fun ρ_20 => ix (ρ_20.1 0 119) 16 (ix (ρ_20.1 0 119) 16 (vl (rf_w ρ_20 69 (ρ_20.1 0 119).toNatClampNeg ((ρ_20.1 69 (ρ_20.1 0 119).toNatClampNeg) + (1:Int32))) (fun ρ_21 => (if (ρ_21.1 0 79) = 0 then bd1 (fq_wentOut r_18 ρ_21) (fun ρ_22 => some (x4, ρ_22)) else some (x4, ρ_21))))))))))))))))
set_option maxHeartbeats 4000000 in
theorem wq_seal_132 (C : rf_C D p s m args meth c cX12_seal 8 (some .int)) {r : Int32} {x1 : Int32} {x2 : Int32} {x4 : Int32} {x5 : Int32} {ρ ρ' : rf_S} {H : Heap} {locs : List Loc} {ls : Array Slot} (h : bq_seal_132 x1 x2 x4 x5 ρ = some (r, ρ')) (G : rf_G D h0 s ρ H locs) (hl : lv_has ls 8 [(0, .ref h0), (1, .int x1), (2, .int x2), (4, .int x4), (5, .int x5)]) : W p l e ({ frames := 3, cells := 0, slots := 0, locals := 74 }) s m args below meth c H locs 0 0 (MQ below (rf_Q D h0 (some (.int r)) ρ') args s 0 0 (rf_A h0)) (F0 m 132 ls []) := by
  unfold bq_seal_132 at h
  refine lv_aload_n C.1 C.2.1 dX12_seal_132 rfl (lv_at hl 0 rfl) ?_
  refine lv_iconst (v := (3:Int32)) C.1 C.2.1 dX12_seal_133 (by decide) ?_
  refine lv_aload_n C.1 C.2.1 dX12_seal_134 rfl (lv_at hl 0 rfl) ?_
  refine lv_iconst (v := (0:Int32)) C.1 C.2.1 dX12_seal_135 (by decide) ?_
  refine lv_iload_n C.1 C.2.1 dX12_seal_136 rfl (lv_at hl 1 rfl) ?_
  refine lv_iconst (v := (0:Int32)) C.1 C.2.1 dX12_seal_137 (by decide) ?_
  refine lv_iconst (v := (0:Int32)) C.1 C.2.1 dX12_seal_138 (by decide) ?_
  obtain ⟨r_8, ρ_7, hq, h⟩ := bd2_some h
  refine rf_callV (rest := [.int (3:Int32), .ref h0]) C G cw_term [.int (0:Int32), .int x1, .int (0:Int32), .int (0:Int32)] _ (kq_term l D h0 hq) (Nat.le_of_ble_eq_true rfl) (Nat.le_of_ble_eq_true rfl) rfl rfl hl.1 (Nat.le_of_ble_eq_true rfl) (Nat.zero_le _) (Nat.zero_le _) dX12_seal_139 (fun H locs G => ?_)
  refine W.eq (g2 := F0 m 142 ls [.int r_8, .int (3:Int32), .ref h0]) rfl ?_
  refine lv_aload_n C.1 C.2.1 dX12_seal_142 rfl (lv_at hl 0 rfl) ?_
  refine lv_iconst (v := (0:Int32)) C.1 C.2.1 dX12_seal_143 (by decide) ?_
  refine lv_iload C.1 C.2.1 dX12_seal_144 (lv_at hl 3 rfl) ?_
  refine lv_iconst (v := (0:Int32)) C.1 C.2.1 dX12_seal_146 (by decide) ?_
  refine lv_iconst (v := (0:Int32)) C.1 C.2.1 dX12_seal_147 (by decide) ?_
  obtain ⟨r_10, ρ_9, hq, h⟩ := bd2_some h
  refine rf_callV (rest := [.int r_8, .int (3:Int32), .ref h0]) C G cw_term [.int (0:Int32), .int x4, .int (0:Int32), .int (0:Int32)] _ (kq_term l D h0 hq) (Nat.le_of_ble_eq_true rfl) (Nat.le_of_ble_eq_true rfl) rfl rfl hl.1 (Nat.le_of_ble_eq_true rfl) (Nat.zero_le _) (Nat.zero_le _) dX12_seal_148 (fun H locs G => ?_)
  refine W.eq (g2 := F0 m 151 ls [.int r_10, .int r_8, .int (3:Int32), .ref h0]) rfl ?_
  refine lv_iconst (v := (0:Int32)) C.1 C.2.1 dX12_seal_151 (by decide) ?_
  obtain ⟨r_12, ρ_11, hq, h⟩ := bd2_some h
  refine rf_callV (rest := []) C G cw_term [.int (3:Int32), .int r_8, .int r_10, .int (0:Int32)] _ (kq_term l D h0 hq) (Nat.le_of_ble_eq_true rfl) (Nat.le_of_ble_eq_true rfl) rfl rfl hl.1 (Nat.le_of_ble_eq_true rfl) (Nat.zero_le _) (Nat.zero_le _) dX12_seal_152 (fun H locs G => ?_)
  refine W.eq (g2 := F0 m 155 ls [.int r_12]) rfl ?_
  refine lv_istore (lv' := [(6, .int r_12), (0, .ref h0), (1, .int x1), (2, .int x2), (4, .int x4), (5, .int x5)]) C.1 C.2.1 dX12_seal_155 hl (by decide) rfl (fun ls hl => ?_)
  refine lv_aload_n C.1 C.2.1 dX12_seal_157 rfl (lv_at hl 1 rfl) ?_
  refine lv_bipush (v := (8:Int32)) C.1 C.2.1 dX12_seal_158 (by decide) ?_
  refine lv_aload_n C.1 C.2.1 dX12_seal_160 rfl (lv_at hl 1 rfl) ?_
  refine lv_bipush (v := (9:Int32)) C.1 C.2.1 dX12_seal_161 (by decide) ?_
  refine lv_aload_n C.1 C.2.1 dX12_seal_163 rfl (lv_at hl 1 rfl) ?_
  refine gf_19 C G dX12_seal_164 ?_
  refine lv_aload_n C.1 C.2.1 dX12_seal_167 rfl (lv_at hl 1 rfl) ?_
  refine gf_69 C G dX12_seal_168 ?_
  refine lv_aload_n C.1 C.2.1 dX12_seal_171 rfl (lv_at hl 1 rfl) ?_
  refine gf_118 C G dX12_seal_172 ?_
  obtain ⟨hi, h⟩ := ix_some h
  refine rf_iald C G 39 rfl (by decide) rfl rfl hi dX12_seal_175 ?_
  refine lv_iconst (v := (0:Int32)) C.1 C.2.1 dX12_seal_176 (by decide) ?_
  obtain ⟨r_14, ρ_13, hq, h⟩ := bd2_some h
  refine rf_callV (rest := [.int (8:Int32), .ref h0]) C G cw_term [.int (9:Int32), .int (ρ_11.1 0 19), .int (ρ_11.1 39 (ρ_11.1 0 118).toNatClampNeg), .int (0:Int32)] _ (kq_term l D h0 hq) (Nat.le_of_ble_eq_true rfl) (Nat.le_of_ble_eq_true rfl) rfl rfl hl.1 (Nat.le_of_ble_eq_true rfl) (Nat.zero_le _) (Nat.zero_le _) dX12_seal_177 (fun H locs G => ?_)
  refine W.eq (g2 := F0 m 180 ls [.int r_14, .int (8:Int32), .ref h0]) rfl ?_
  refine lv_iload C.1 C.2.1 dX12_seal_180 (lv_at hl 0 rfl) ?_
  refine lv_aload_n C.1 C.2.1 dX12_seal_182 rfl (lv_at hl 1 rfl) ?_
  refine lv_iload_n C.1 C.2.1 dX12_seal_183 rfl (lv_at hl 3 rfl) ?_
  obtain ⟨r_16, ρ_15, hq, h⟩ := bd2_some h
  refine rf_callV (rest := [.int r_12, .int r_14, .int (8:Int32), .ref h0]) C G cw_of [.int x2] _ (kq_of l D h0 hq) (Nat.le_of_ble_eq_true rfl) (Nat.le_of_ble_eq_true rfl) rfl rfl hl.1 (Nat.le_of_ble_eq_true rfl) (Nat.zero_le _) (Nat.zero_le _) dX12_seal_184 (fun H locs G => ?_)
  refine W.eq (g2 := F0 m 187 ls [.int r_16, .int r_12, .int r_14, .int (8:Int32), .ref h0]) rfl ?_
  obtain ⟨r_18, ρ_17, hq, h⟩ := bd2_some h
  refine rf_callV (rest := []) C G cw_term [.int (8:Int32), .int r_14, .int r_12, .int r_16] _ (kq_term l D h0 hq) (Nat.le_of_ble_eq_true rfl) (Nat.le_of_ble_eq_true rfl) rfl rfl hl.1 (Nat.le_of_ble_eq_true rfl) (Nat.zero_le _) (Nat.zero_le _) dX12_seal_187 (fun H locs G => ?_)
  refine W.eq (g2 := F0 m 190 ls [.int r_18]) rfl ?_
  refine lv_istore (lv' := [(7, .int r_18), (6, .int r_12), (0, .ref h0), (1, .int x1), (2, .int x2), (4, .int x4), (5, .int x5)]) C.1 C.2.1 dX12_seal_190 hl (by decide) rfl (fun ls hl => ?_)
  refine lv_aload_n C.1 C.2.1 dX12_seal_192 rfl (lv_at hl 2 rfl) ?_
  refine gf_106 C G dX12_seal_193 ?_
  refine lv_iload C.1 C.2.1 dX12_seal_196 (lv_at hl 6 rfl) ?_
  refine lv_iload C.1 C.2.1 dX12_seal_198 (lv_at hl 5 rfl) ?_
  obtain ⟨hi, h⟩ := ix_some h
  refine rf_iast C G 74 rfl (by decide) rfl rfl hi dX12_seal_200 (fun H locs G => ?_)
  refine rf_nm G h (fun ρ_19 G h => ?_)
  refine lv_aload_n C.1 C.2.1 dX12_seal_201 rfl (lv_at hl 2 rfl) ?_
  refine gf_107 C G dX12_seal_202 ?_
  refine lv_iload C.1 C.2.1 dX12_seal_205 (lv_at hl 6 rfl) ?_
  refine lv_iload C.1 C.2.1 dX12_seal_207 (lv_at hl 0 rfl) ?_
  obtain ⟨hi, h⟩ := ix_some h
  refine rf_iast C G 75 rfl (by decide) rfl rfl hi dX12_seal_209 (fun H locs G => ?_)
  refine rf_nm G h (fun ρ_20 G h => ?_)
  refine lv_aload_n C.1 C.2.1 dX12_seal_210 rfl (lv_at hl 2 rfl) ?_
  refine gf_101 C G dX12_seal_211 ?_
  refine lv_aload_n C.1 C.2.1 dX12_seal_214 rfl (lv_at hl 2 rfl) ?_
  refine gf_119 C G dX12_seal_215 ?_
  refine lv_dup2_11 C.1 C.2.1 dX12_seal_218 rfl rfl ?_
  obtain ⟨hi, h⟩ := ix_some h
  refine rf_iald C G 69 rfl (by decide) rfl rfl hi dX12_seal_219 ?_
  refine lv_iconst (v := (1:Int32)) C.1 C.2.1 dX12_seal_220 (by decide) ?_
  refine lv_iadd C.1 C.2.1 dX12_seal_221 ?_
  obtain ⟨hi, h⟩ := ix_some h
  refine rf_iast C G 69 rfl (by decide) rfl rfl hi dX12_seal_222 (fun H locs G => ?_)
  refine rf_nm G h (fun ρ_21 G h => ?_)
  refine lv_aload_n C.1 C.2.1 dX12_seal_223 rfl (lv_at hl 2 rfl) ?_
  refine gf_79 C G dX12_seal_224 ?_
  refine lv_if_ne (tgt := 236) C.1 C.2.1 dX12_seal_227 (by decide) (fun hc => ?_) (fun hc => ?_)
  · rw [if_neg hc] at h
    refine lv_iload C.1 C.2.1 dX12_seal_236 (lv_at hl 5 rfl) ?_
    exact rf_iret C G h dX12_seal_238
  · rw [if_pos hc] at h
    refine lv_aload_n C.1 C.2.1 dX12_seal_230 rfl (lv_at hl 2 rfl) ?_
    refine lv_iload C.1 C.2.1 dX12_seal_231 (lv_at hl 0 rfl) ?_
    obtain ⟨ρ_22, hq, h⟩ := bd1_some h
    refine rf_callV (rest := []) C G cw_wentOut [.int r_18] _ (kq_wentOut l D h0 hq) (Nat.le_of_ble_eq_true rfl) (Nat.le_of_ble_eq_true rfl) rfl rfl hl.1 (Nat.le_of_ble_eq_true rfl) (Nat.zero_le _) (Nat.zero_le _) dX12_seal_233 (fun H locs G => ?_)
    refine W.eq (g2 := F0 m 236 ls []) rfl ?_
    refine lv_iload C.1 C.2.1 dX12_seal_236 (lv_at hl 5 rfl) ?_
    exact rf_iret C G h dX12_seal_238
noncomputable def bq_seal_50 (x1 : Int32) (x2 : Int32) (v0 : Int32) (ρ : rf_S) : Option (Int32 × rf_S) := bd2 (fq_blockOf x1 (v0 &&& (1:Int32)) ρ) (fun r_6 ρ_5 => (if (ρ_5.1 0 79) = 0 then vl (rf_w ρ_5 0 53 ((ρ_5.1 0 53) + (1:Int32))) (fun ρ_23 => (if (ρ_23.1 0 54) ≤ 0 then bq_seal_132 x1 x2 v0 r_6 ρ_23 else vl (rf_w ρ_23 0 54 ((ρ_23.1 0 54) - (1:Int32))) (fun ρ_24 => (if (ρ_24.1 0 54) = 0 then ix r_6 128 (vl (rf_w ρ_24 74 r_6.toNatClampNeg (0:Int32)) (fun ρ_25 => ix r_6 128 (vl (rf_w ρ_25 75 r_6.toNatClampNeg (-1:Int32)) (fun ρ_26 => vl (rf_w ρ_26 0 51 (0:Int32)) (fun ρ_27 => vl (rf_w ρ_27 0 108 (1:Int32)) (fun ρ_28 => some ((0:Int32), ρ_28))))))) else bq_seal_132 x1 x2 v0 r_6 ρ_24)))) else bq_seal_132 x1 x2 v0 r_6 ρ_5))
set_option maxHeartbeats 4000000 in
theorem wq_seal_50 (C : rf_C D p s m args meth c cX12_seal 8 (some .int)) {r : Int32} {x1 : Int32} {x2 : Int32} {v0 : Int32} {ρ ρ' : rf_S} {H : Heap} {locs : List Loc} {ls : Array Slot} (h : bq_seal_50 x1 x2 v0 ρ = some (r, ρ')) (G : rf_G D h0 s ρ H locs) (hl : lv_has ls 8 [(0, .ref h0), (1, .int x1), (2, .int x2)]) : W p l e ({ frames := 3, cells := 0, slots := 0, locals := 74 }) s m args below meth c H locs 0 0 (MQ below (rf_Q D h0 (some (.int r)) ρ') args s 0 0 (rf_A h0)) (F0 m 50 ls [.int v0]) := by
  unfold bq_seal_50 at h
  refine lv_istore (lv' := [(4, .int v0), (0, .ref h0), (1, .int x1), (2, .int x2)]) C.1 C.2.1 dX12_seal_50 hl (by decide) rfl (fun ls hl => ?_)
  refine lv_aload_n C.1 C.2.1 dX12_seal_52 rfl (lv_at hl 1 rfl) ?_
  refine lv_iload_n C.1 C.2.1 dX12_seal_53 rfl (lv_at hl 2 rfl) ?_
  refine lv_iload C.1 C.2.1 dX12_seal_54 (lv_at hl 0 rfl) ?_
  refine lv_iconst (v := (1:Int32)) C.1 C.2.1 dX12_seal_56 (by decide) ?_
  refine lv_iand C.1 C.2.1 dX12_seal_57 ?_
  obtain ⟨r_6, ρ_5, hq, h⟩ := bd2_some h
  refine rf_callV (rest := []) C G cw_blockOf [.int x1, .int (v0 &&& (1:Int32))] _ (kq_blockOf l D h0 hq) (Nat.le_of_ble_eq_true rfl) (Nat.le_of_ble_eq_true rfl) rfl rfl hl.1 (Nat.le_of_ble_eq_true rfl) (Nat.zero_le _) (Nat.zero_le _) dX12_seal_58 (fun H locs G => ?_)
  refine W.eq (g2 := F0 m 61 ls [.int r_6]) rfl ?_
  refine lv_istore (lv' := [(5, .int r_6), (4, .int v0), (0, .ref h0), (1, .int x1), (2, .int x2)]) C.1 C.2.1 dX12_seal_61 hl (by decide) rfl (fun ls hl => ?_)
  refine lv_aload_n C.1 C.2.1 dX12_seal_63 rfl (lv_at hl 2 rfl) ?_
  refine gf_79 C G dX12_seal_64 ?_
  refine lv_if_ne (tgt := 132) C.1 C.2.1 dX12_seal_67 (by decide) (fun hc => ?_) (fun hc => ?_)
  · rw [if_neg hc] at h
    exact wq_seal_132 C h G (lv_sub hl [2, 3, 4, 1, 0] rfl)
  · rw [if_pos hc] at h
    refine lv_aload_n C.1 C.2.1 dX12_seal_70 rfl (lv_at hl 2 rfl) ?_
    refine lv_dup C.1 C.2.1 dX12_seal_71 rfl ?_
    refine gf_53 C G dX12_seal_72 ?_
    refine lv_iconst (v := (1:Int32)) C.1 C.2.1 dX12_seal_75 (by decide) ?_
    refine lv_iadd C.1 C.2.1 dX12_seal_76 ?_
    refine pf_53 C G dX12_seal_77 (fun H locs G => ?_)
    refine rf_nm G h (fun ρ_23 G h => ?_)
    refine lv_aload_n C.1 C.2.1 dX12_seal_80 rfl (lv_at hl 2 rfl) ?_
    refine gf_54 C G dX12_seal_81 ?_
    refine lv_if_le (tgt := 132) C.1 C.2.1 dX12_seal_84 (by decide) (fun hc => ?_) (fun hc => ?_)
    · rw [if_pos hc] at h
      exact wq_seal_132 C h G (lv_sub hl [2, 3, 4, 1, 0] rfl)
    · rw [if_neg hc] at h
      refine lv_aload_n C.1 C.2.1 dX12_seal_87 rfl (lv_at hl 2 rfl) ?_
      refine lv_dup C.1 C.2.1 dX12_seal_88 rfl ?_
      refine gf_54 C G dX12_seal_89 ?_
      refine lv_iconst (v := (1:Int32)) C.1 C.2.1 dX12_seal_92 (by decide) ?_
      refine lv_isub C.1 C.2.1 dX12_seal_93 ?_
      refine pf_54 C G dX12_seal_94 (fun H locs G => ?_)
      refine rf_nm G h (fun ρ_24 G h => ?_)
      refine lv_aload_n C.1 C.2.1 dX12_seal_97 rfl (lv_at hl 2 rfl) ?_
      refine gf_54 C G dX12_seal_98 ?_
      refine lv_if_ne (tgt := 132) C.1 C.2.1 dX12_seal_101 (by decide) (fun hc => ?_) (fun hc => ?_)
      · rw [if_neg hc] at h
        exact wq_seal_132 C h G (lv_sub hl [2, 3, 4, 1, 0] rfl)
      · rw [if_pos hc] at h
        refine lv_aload_n C.1 C.2.1 dX12_seal_104 rfl (lv_at hl 2 rfl) ?_
        refine gf_106 C G dX12_seal_105 ?_
        refine lv_iload C.1 C.2.1 dX12_seal_108 (lv_at hl 0 rfl) ?_
        refine lv_iconst (v := (0:Int32)) C.1 C.2.1 dX12_seal_110 (by decide) ?_
        obtain ⟨hi, h⟩ := ix_some h
        refine rf_iast C G 74 rfl (by decide) rfl rfl hi dX12_seal_111 (fun H locs G => ?_)
        refine rf_nm G h (fun ρ_25 G h => ?_)
        refine lv_aload_n C.1 C.2.1 dX12_seal_112 rfl (lv_at hl 2 rfl) ?_
        refine gf_107 C G dX12_seal_113 ?_
        refine lv_iload C.1 C.2.1 dX12_seal_116 (lv_at hl 0 rfl) ?_
        refine lv_iconst (v := (-1:Int32)) C.1 C.2.1 dX12_seal_118 (by decide) ?_
        obtain ⟨hi, h⟩ := ix_some h
        refine rf_iast C G 75 rfl (by decide) rfl rfl hi dX12_seal_119 (fun H locs G => ?_)
        refine rf_nm G h (fun ρ_26 G h => ?_)
        refine lv_aload_n C.1 C.2.1 dX12_seal_120 rfl (lv_at hl 2 rfl) ?_
        refine lv_iconst (v := (0:Int32)) C.1 C.2.1 dX12_seal_121 (by decide) ?_
        refine pf_51 C G rfl rfl dX12_seal_122 (fun H locs G => ?_)
        refine rf_nm G h (fun ρ_27 G h => ?_)
        refine lv_aload_n C.1 C.2.1 dX12_seal_125 rfl (lv_at hl 2 rfl) ?_
        refine lv_iconst (v := (1:Int32)) C.1 C.2.1 dX12_seal_126 (by decide) ?_
        refine pf_108 C G rfl rfl dX12_seal_127 (fun H locs G => ?_)
        refine rf_nm G h (fun ρ_28 G h => ?_)
        refine lv_iconst (v := (0:Int32)) C.1 C.2.1 dX12_seal_130 (by decide) ?_
        exact rf_iret C G h dX12_seal_131
noncomputable def bq_seal_0 (x1 : Int32) (x2 : Int32) (ρ : rf_S) : Option (Int32 × rf_S) := bd2 (fq_isHandle x2 ρ) (fun r_2 ρ_1 => (if r_2 = 0 then some ((-2:Int32), ρ_1) else ix (ρ_1.1 0 119) 16 ((if (ρ_1.1 69 (ρ_1.1 0 119).toNatClampNeg) = (40:Int32) then some ((-4:Int32), ρ_1) else bd2 (fq_counts x1 ρ_1) (fun r_4 ρ_3 => (if 0 ≤ r_4 then ix r_4 128 (bq_seal_50 x1 x2 ((ρ_3.1 74 r_4.toNatClampNeg) + (1:Int32)) ρ_3) else bq_seal_50 x1 x2 (1:Int32) ρ_3))))))
set_option maxHeartbeats 4000000 in
theorem wq_seal_0 (C : rf_C D p s m args meth c cX12_seal 8 (some .int)) {r : Int32} {x1 : Int32} {x2 : Int32} {ρ ρ' : rf_S} {H : Heap} {locs : List Loc} {ls : Array Slot} (h : bq_seal_0 x1 x2 ρ = some (r, ρ')) (G : rf_G D h0 s ρ H locs) (hl : lv_has ls 8 [(0, .ref h0), (1, .int x1), (2, .int x2)]) : W p l e ({ frames := 3, cells := 0, slots := 0, locals := 74 }) s m args below meth c H locs 0 0 (MQ below (rf_Q D h0 (some (.int r)) ρ') args s 0 0 (rf_A h0)) (F0 m 0 ls []) := by
  unfold bq_seal_0 at h
  refine lv_aload_n C.1 C.2.1 dX12_seal_0 rfl (lv_at hl 0 rfl) ?_
  refine lv_iload_n C.1 C.2.1 dX12_seal_1 rfl (lv_at hl 2 rfl) ?_
  obtain ⟨r_2, ρ_1, hq, h⟩ := bd2_some h
  refine rf_callV (rest := []) C G cw_isHandle [.int x2] _ (kq_isHandle l D h0 hq) (Nat.le_of_ble_eq_true rfl) (Nat.le_of_ble_eq_true rfl) rfl rfl hl.1 (Nat.le_of_ble_eq_true rfl) (Nat.zero_le _) (Nat.zero_le _) dX12_seal_2 (fun H locs G => ?_)
  refine W.eq (g2 := F0 m 5 ls [.int r_2]) rfl ?_
  refine lv_if_ne (tgt := 11) C.1 C.2.1 dX12_seal_5 (by decide) (fun hc => ?_) (fun hc => ?_)
  · rw [if_neg hc] at h
    refine lv_aload_n C.1 C.2.1 dX12_seal_11 rfl (lv_at hl 0 rfl) ?_
    refine gf_101 C G dX12_seal_12 ?_
    refine lv_aload_n C.1 C.2.1 dX12_seal_15 rfl (lv_at hl 0 rfl) ?_
    refine gf_119 C G dX12_seal_16 ?_
    obtain ⟨hi, h⟩ := ix_some h
    refine rf_iald C G 69 rfl (by decide) rfl rfl hi dX12_seal_19 ?_
    refine lv_bipush (v := (40:Int32)) C.1 C.2.1 dX12_seal_20 (by decide) ?_
    refine lv_icmp_ne (tgt := 28) C.1 C.2.1 dX12_seal_22 (by decide) (fun hc => ?_) (fun hc => ?_)
    · rw [if_neg hc] at h
      refine lv_aload_n C.1 C.2.1 dX12_seal_28 rfl (lv_at hl 0 rfl) ?_
      refine lv_iload_n C.1 C.2.1 dX12_seal_29 rfl (lv_at hl 1 rfl) ?_
      obtain ⟨r_4, ρ_3, hq, h⟩ := bd2_some h
      refine rf_callV (rest := []) C G cw_counts [.int x1] _ (kq_counts l D h0 hq) (Nat.le_of_ble_eq_true rfl) (Nat.le_of_ble_eq_true rfl) rfl rfl hl.1 (Nat.le_of_ble_eq_true rfl) (Nat.zero_le _) (Nat.zero_le _) dX12_seal_30 (fun H locs G => ?_)
      refine W.eq (g2 := F0 m 33 ls [.int r_4]) rfl ?_
      refine lv_istore_n (lv' := [(3, .int r_4), (0, .ref h0), (1, .int x1), (2, .int x2)]) C.1 C.2.1 dX12_seal_33 rfl hl (by decide) rfl (fun ls hl => ?_)
      refine lv_iload_n C.1 C.2.1 dX12_seal_34 rfl (lv_at hl 0 rfl) ?_
      refine lv_if_ge (tgt := 42) C.1 C.2.1 dX12_seal_35 (by decide) (fun hc => ?_) (fun hc => ?_)
      · rw [if_pos hc] at h
        refine lv_aload_n C.1 C.2.1 dX12_seal_42 rfl (lv_at hl 1 rfl) ?_
        refine gf_106 C G dX12_seal_43 ?_
        refine lv_iload_n C.1 C.2.1 dX12_seal_46 rfl (lv_at hl 0 rfl) ?_
        obtain ⟨hi, h⟩ := ix_some h
        refine rf_iald C G 74 rfl (by decide) rfl rfl hi dX12_seal_47 ?_
        refine lv_iconst (v := (1:Int32)) C.1 C.2.1 dX12_seal_48 (by decide) ?_
        refine lv_iadd C.1 C.2.1 dX12_seal_49 ?_
        exact wq_seal_50 C h G (lv_sub hl [1, 2, 3] rfl)
      · rw [if_neg hc] at h
        refine lv_iconst (v := (1:Int32)) C.1 C.2.1 dX12_seal_38 (by decide) ?_
        refine lv_goto (tgt := 50) C.1 C.2.1 dX12_seal_39 (by decide) ?_
        exact wq_seal_50 C h G (lv_sub hl [1, 2, 3] rfl)
    · rw [if_pos hc] at h
      refine lv_bipush (v := (-4:Int32)) C.1 C.2.1 dX12_seal_25 (by decide) ?_
      exact rf_iret C G h dX12_seal_27
  · rw [if_pos hc] at h
    refine lv_bipush (v := (-2:Int32)) C.1 C.2.1 dX12_seal_8 (by decide) ?_
    exact rf_iret C G h dX12_seal_10
noncomputable def fq_seal (x1 : Int32) (x2 : Int32) (ρ : rf_S) : Option (Int32 × rf_S) := bq_seal_0 x1 x2 ρ
theorem kq_seal (l : Launch) (D : rf_D) (h0 : Nat) {r : Int32} {x1 : Int32} {x2 : Int32} {ρ ρ' : rf_S} (h : fq_seal x1 x2 ρ = some (r, ρ')) : rf_Met l D h0 yX12_seal cX12_seal 8 (some .int) 3 74 [.ref h0, .int x1, .int x2] ρ (some (.int r)) ρ' :=
  rf_of rfl cc_seal (Nat.le_of_ble_eq_true rfl) (fun p e s m args below meth c ls C G hl => wq_seal_0 C h G hl)
abbrev cX12_askSealed : ByteArray := prog_14_method_94_code
def yX12_askSealed : MethodName := ⟨RX12, "askSealed", "(III)I"⟩
theorem dX12_askSealed_0 : decode cX12_askSealed 0 = .ok (.iload_n 1, 1) := by decide +kernel
theorem dX12_askSealed_1 : decode cX12_askSealed 1 = .ok (.bipush 29, 2) := by decide +kernel
theorem dX12_askSealed_3 : decode cX12_askSealed 3 = .ok (.if_icmp .ne 17, 3) := by decide +kernel
theorem dX12_askSealed_6 : decode cX12_askSealed 6 = .ok (.aload_n 0, 1) := by decide +kernel
theorem dX12_askSealed_7 : decode cX12_askSealed 7 = .ok (.aload_n 0, 1) := by decide +kernel
theorem dX12_askSealed_8 : decode cX12_askSealed 8 = .ok (.getfield 140, 3) := by decide +kernel
theorem dX12_askSealed_11 : decode cX12_askSealed 11 = .ok (.aload_n 0, 1) := by decide +kernel
theorem dX12_askSealed_12 : decode cX12_askSealed 12 = .ok (.getfield 567, 3) := by decide +kernel
theorem dX12_askSealed_15 : decode cX12_askSealed 15 = .ok (.iaload, 1) := by decide +kernel
theorem dX12_askSealed_16 : decode cX12_askSealed 16 = .ok (.invokevirtual 610, 3) := by decide +kernel
theorem dX12_askSealed_19 : decode cX12_askSealed 19 = .ok (.ireturn, 1) := by decide +kernel
theorem dX12_askSealed_20 : decode cX12_askSealed 20 = .ok (.iload_n 1, 1) := by decide +kernel
theorem dX12_askSealed_21 : decode cX12_askSealed 21 = .ok (.bipush 30, 2) := by decide +kernel
theorem dX12_askSealed_23 : decode cX12_askSealed 23 = .ok (.if_icmp .ne 9, 3) := by decide +kernel
theorem dX12_askSealed_26 : decode cX12_askSealed 26 = .ok (.aload_n 0, 1) := by decide +kernel
theorem dX12_askSealed_27 : decode cX12_askSealed 27 = .ok (.iload_n 2, 1) := by decide +kernel
theorem dX12_askSealed_28 : decode cX12_askSealed 28 = .ok (.invokevirtual 665, 3) := by decide +kernel
theorem dX12_askSealed_31 : decode cX12_askSealed 31 = .ok (.ireturn, 1) := by decide +kernel
theorem dX12_askSealed_32 : decode cX12_askSealed 32 = .ok (.iload_n 1, 1) := by decide +kernel
theorem dX12_askSealed_33 : decode cX12_askSealed 33 = .ok (.bipush 31, 2) := by decide +kernel
theorem dX12_askSealed_35 : decode cX12_askSealed 35 = .ok (.if_icmp .ne 12, 3) := by decide +kernel
theorem dX12_askSealed_38 : decode cX12_askSealed 38 = .ok (.aload_n 0, 1) := by decide +kernel
theorem dX12_askSealed_39 : decode cX12_askSealed 39 = .ok (.aload_n 0, 1) := by decide +kernel
theorem dX12_askSealed_40 : decode cX12_askSealed 40 = .ok (.getfield 284, 3) := by decide +kernel
theorem dX12_askSealed_43 : decode cX12_askSealed 43 = .ok (.invokevirtual 610, 3) := by decide +kernel
theorem dX12_askSealed_46 : decode cX12_askSealed 46 = .ok (.ireturn, 1) := by decide +kernel
theorem dX12_askSealed_47 : decode cX12_askSealed 47 = .ok (.iload_n 2, 1) := by decide +kernel
theorem dX12_askSealed_48 : decode cX12_askSealed 48 = .ok (.ifCond .lt 16, 3) := by decide +kernel
theorem dX12_askSealed_51 : decode cX12_askSealed 51 = .ok (.iload_n 2, 1) := by decide +kernel
theorem dX12_askSealed_52 : decode cX12_askSealed 52 = .ok (.aload_n 0, 1) := by decide +kernel
theorem dX12_askSealed_53 : decode cX12_askSealed 53 = .ok (.getfield 113, 3) := by decide +kernel
theorem dX12_askSealed_56 : decode cX12_askSealed 56 = .ok (.aload_n 0, 1) := by decide +kernel
theorem dX12_askSealed_57 : decode cX12_askSealed 57 = .ok (.getfield 567, 3) := by decide +kernel
theorem dX12_askSealed_60 : decode cX12_askSealed 60 = .ok (.iaload, 1) := by decide +kernel
theorem dX12_askSealed_61 : decode cX12_askSealed 61 = .ok (.if_icmp .lt 5, 3) := by decide +kernel
theorem dX12_askSealed_64 : decode cX12_askSealed 64 = .ok (.iconst (-1), 1) := by decide +kernel
theorem dX12_askSealed_65 : decode cX12_askSealed 65 = .ok (.ireturn, 1) := by decide +kernel
theorem dX12_askSealed_66 : decode cX12_askSealed 66 = .ok (.iload_n 1, 1) := by decide +kernel
theorem dX12_askSealed_67 : decode cX12_askSealed 67 = .ok (.bipush 32, 2) := by decide +kernel
theorem dX12_askSealed_69 : decode cX12_askSealed 69 = .ok (.if_icmp .ne 10, 3) := by decide +kernel
theorem dX12_askSealed_72 : decode cX12_askSealed 72 = .ok (.aload_n 0, 1) := by decide +kernel
theorem dX12_askSealed_73 : decode cX12_askSealed 73 = .ok (.iload_n 2, 1) := by decide +kernel
theorem dX12_askSealed_74 : decode cX12_askSealed 74 = .ok (.iload_n 3, 1) := by decide +kernel
theorem dX12_askSealed_75 : decode cX12_askSealed 75 = .ok (.invokevirtual 668, 3) := by decide +kernel
theorem dX12_askSealed_78 : decode cX12_askSealed 78 = .ok (.ireturn, 1) := by decide +kernel
theorem dX12_askSealed_79 : decode cX12_askSealed 79 = .ok (.aload_n 0, 1) := by decide +kernel
theorem dX12_askSealed_80 : decode cX12_askSealed 80 = .ok (.iload_n 2, 1) := by decide +kernel
theorem dX12_askSealed_81 : decode cX12_askSealed 81 = .ok (.invokevirtual 671, 3) := by decide +kernel
theorem dX12_askSealed_84 : decode cX12_askSealed 84 = .ok (.istore 4, 2) := by decide +kernel
theorem dX12_askSealed_86 : decode cX12_askSealed 86 = .ok (.iload_n 1, 1) := by decide +kernel
theorem dX12_askSealed_87 : decode cX12_askSealed 87 = .ok (.bipush 34, 2) := by decide +kernel
theorem dX12_askSealed_89 : decode cX12_askSealed 89 = .ok (.if_icmp .ne 20, 3) := by decide +kernel
theorem dX12_askSealed_92 : decode cX12_askSealed 92 = .ok (.iload 4, 2) := by decide +kernel
theorem dX12_askSealed_94 : decode cX12_askSealed 94 = .ok (.ifCond .ge 7, 3) := by decide +kernel
theorem dX12_askSealed_97 : decode cX12_askSealed 97 = .ok (.iconst 0, 1) := by decide +kernel
theorem dX12_askSealed_98 : decode cX12_askSealed 98 = .ok (.goto 10, 3) := by decide +kernel
theorem dX12_askSealed_101 : decode cX12_askSealed 101 = .ok (.aload_n 0, 1) := by decide +kernel
theorem dX12_askSealed_102 : decode cX12_askSealed 102 = .ok (.getfield 245, 3) := by decide +kernel
theorem dX12_askSealed_105 : decode cX12_askSealed 105 = .ok (.iload 4, 2) := by decide +kernel
theorem dX12_askSealed_107 : decode cX12_askSealed 107 = .ok (.iaload, 1) := by decide +kernel
theorem dX12_askSealed_108 : decode cX12_askSealed 108 = .ok (.ireturn, 1) := by decide +kernel
theorem dX12_askSealed_109 : decode cX12_askSealed 109 = .ok (.iload 4, 2) := by decide +kernel
theorem dX12_askSealed_111 : decode cX12_askSealed 111 = .ok (.ifCond .ge 8, 3) := by decide +kernel
theorem dX12_askSealed_114 : decode cX12_askSealed 114 = .ok (.bipush (-3), 2) := by decide +kernel
theorem dX12_askSealed_116 : decode cX12_askSealed 116 = .ok (.goto 19, 3) := by decide +kernel
theorem dX12_askSealed_119 : decode cX12_askSealed 119 = .ok (.aload_n 0, 1) := by decide +kernel
theorem dX12_askSealed_120 : decode cX12_askSealed 120 = .ok (.aload_n 0, 1) := by decide +kernel
theorem dX12_askSealed_121 : decode cX12_askSealed 121 = .ok (.getfield 21, 3) := by decide +kernel
theorem dX12_askSealed_124 : decode cX12_askSealed 124 = .ok (.aload_n 0, 1) := by decide +kernel
theorem dX12_askSealed_125 : decode cX12_askSealed 125 = .ok (.getfield 248, 3) := by decide +kernel
theorem dX12_askSealed_128 : decode cX12_askSealed 128 = .ok (.iload 4, 2) := by decide +kernel
theorem dX12_askSealed_130 : decode cX12_askSealed 130 = .ok (.iaload, 1) := by decide +kernel
theorem dX12_askSealed_131 : decode cX12_askSealed 131 = .ok (.iaload, 1) := by decide +kernel
theorem dX12_askSealed_132 : decode cX12_askSealed 132 = .ok (.invokevirtual 610, 3) := by decide +kernel
theorem dX12_askSealed_135 : decode cX12_askSealed 135 = .ok (.ireturn, 1) := by decide +kernel
theorem cc_askSealed : Cond.code yX12_askSealed cX12_askSealed 5 (some .int) ∈ rf_tb := rf_at 2215 (by decide +kernel) (by decide +kernel)
theorem cw_askSealed : rf_wV yX12_askSealed cX12_askSealed 5 (some .int) 619 3 := ⟨⟨rf_at 2212 (by decide +kernel) (by decide +kernel), rf_at 2214 (by decide +kernel) (by decide +kernel), rf_sel (q := (yX12_askSealed, 122)) 132 (by decide +kernel) (by decide +kernel), cc_askSealed⟩, rfl, by decide +kernel⟩
noncomputable def bq_askSealed_0 (x1 : Int32) (x2 : Int32) (x3 : Int32) (ρ : rf_S) : Option (Int32 × rf_S) := (if x1 = (29:Int32) then ix (ρ.1 0 118) 8 (bd2 (fq_comes (ρ.1 39 (ρ.1 0 118).toNatClampNeg) ρ) (fun r_12 ρ_11 => some (r_12, ρ_11))) else (if x1 = (30:Int32) then bd2 (fq_quote x2 ρ) (fun r_10 ρ_9 => some (r_10, ρ_9)) else (if x1 = (31:Int32) then bd2 (fq_comes (ρ.1 0 21) ρ) (fun r_8 ρ_7 => some (r_8, ρ_7)) else (if x2 < 0 then some ((-1:Int32), ρ) else ix (ρ.1 0 118) 8 ((if x2 < (ρ.1 30 (ρ.1 0 118).toNatClampNeg) then (if x1 = (32:Int32) then bd2 (fq_seal x2 x3 ρ) (fun r_6 ρ_5 => some (r_6, ρ_5)) else bd2 (fq_counts x2 ρ) (fun r_2 ρ_1 => (if x1 = (34:Int32) then (if 0 ≤ r_2 then ix r_2 128 (some ((ρ_1.1 74 r_2.toNatClampNeg), ρ_1)) else some ((0:Int32), ρ_1)) else (if 0 ≤ r_2 then ix r_2 128 (ix (ρ_1.1 75 r_2.toNatClampNeg) 112000 (bd2 (fq_comes (ρ_1.1 4 (ρ_1.1 75 r_2.toNatClampNeg).toNatClampNeg) ρ_1) (fun r_4 ρ_3 => some (r_4, ρ_3)))) else some ((-3:Int32), ρ_1))))) else some ((-1:Int32), ρ)))))))
set_option maxHeartbeats 4000000 in
theorem wq_askSealed_0 (C : rf_C D p s m args meth c cX12_askSealed 5 (some .int)) {r : Int32} {x1 : Int32} {x2 : Int32} {x3 : Int32} {ρ ρ' : rf_S} {H : Heap} {locs : List Loc} {ls : Array Slot} (h : bq_askSealed_0 x1 x2 x3 ρ = some (r, ρ')) (G : rf_G D h0 s ρ H locs) (hl : lv_has ls 5 [(0, .ref h0), (1, .int x1), (2, .int x2), (3, .int x3)]) : W p l e ({ frames := 5, cells := 0, slots := 0, locals := 121 }) s m args below meth c H locs 0 0 (MQ below (rf_Q D h0 (some (.int r)) ρ') args s 0 0 (rf_A h0)) (F0 m 0 ls []) := by
  unfold bq_askSealed_0 at h
  refine lv_iload_n C.1 C.2.1 dX12_askSealed_0 rfl (lv_at hl 1 rfl) ?_
  refine lv_bipush (v := (29:Int32)) C.1 C.2.1 dX12_askSealed_1 (by decide) ?_
  refine lv_icmp_ne (tgt := 20) C.1 C.2.1 dX12_askSealed_3 (by decide) (fun hc => ?_) (fun hc => ?_)
  · rw [if_neg hc] at h
    refine lv_iload_n C.1 C.2.1 dX12_askSealed_20 rfl (lv_at hl 1 rfl) ?_
    refine lv_bipush (v := (30:Int32)) C.1 C.2.1 dX12_askSealed_21 (by decide) ?_
    refine lv_icmp_ne (tgt := 32) C.1 C.2.1 dX12_askSealed_23 (by decide) (fun hc => ?_) (fun hc => ?_)
    · rw [if_neg hc] at h
      refine lv_iload_n C.1 C.2.1 dX12_askSealed_32 rfl (lv_at hl 1 rfl) ?_
      refine lv_bipush (v := (31:Int32)) C.1 C.2.1 dX12_askSealed_33 (by decide) ?_
      refine lv_icmp_ne (tgt := 47) C.1 C.2.1 dX12_askSealed_35 (by decide) (fun hc => ?_) (fun hc => ?_)
      · rw [if_neg hc] at h
        refine lv_iload_n C.1 C.2.1 dX12_askSealed_47 rfl (lv_at hl 2 rfl) ?_
        refine lv_if_lt (tgt := 64) C.1 C.2.1 dX12_askSealed_48 (by decide) (fun hc => ?_) (fun hc => ?_)
        · rw [if_pos hc] at h
          refine lv_iconst (v := (-1:Int32)) C.1 C.2.1 dX12_askSealed_64 (by decide) ?_
          exact rf_iret C G h dX12_askSealed_65
        · rw [if_neg hc] at h
          refine lv_iload_n C.1 C.2.1 dX12_askSealed_51 rfl (lv_at hl 2 rfl) ?_
          refine lv_aload_n C.1 C.2.1 dX12_askSealed_52 rfl (lv_at hl 0 rfl) ?_
          refine gf_58 C G dX12_askSealed_53 ?_
          refine lv_aload_n C.1 C.2.1 dX12_askSealed_56 rfl (lv_at hl 0 rfl) ?_
          refine gf_118 C G dX12_askSealed_57 ?_
          obtain ⟨hi, h⟩ := ix_some h
          refine rf_iald C G 30 rfl (by decide) rfl rfl hi dX12_askSealed_60 ?_
          refine lv_icmp_lt (tgt := 66) C.1 C.2.1 dX12_askSealed_61 (by decide) (fun hc => ?_) (fun hc => ?_)
          · rw [if_pos hc] at h
            refine lv_iload_n C.1 C.2.1 dX12_askSealed_66 rfl (lv_at hl 1 rfl) ?_
            refine lv_bipush (v := (32:Int32)) C.1 C.2.1 dX12_askSealed_67 (by decide) ?_
            refine lv_icmp_ne (tgt := 79) C.1 C.2.1 dX12_askSealed_69 (by decide) (fun hc => ?_) (fun hc => ?_)
            · rw [if_neg hc] at h
              refine lv_aload_n C.1 C.2.1 dX12_askSealed_79 rfl (lv_at hl 0 rfl) ?_
              refine lv_iload_n C.1 C.2.1 dX12_askSealed_80 rfl (lv_at hl 2 rfl) ?_
              obtain ⟨r_2, ρ_1, hq, h⟩ := bd2_some h
              refine rf_callV (rest := []) C G cw_counts [.int x2] _ (kq_counts l D h0 hq) (Nat.le_of_ble_eq_true rfl) (Nat.le_of_ble_eq_true rfl) rfl rfl hl.1 (Nat.le_of_ble_eq_true rfl) (Nat.zero_le _) (Nat.zero_le _) dX12_askSealed_81 (fun H locs G => ?_)
              refine W.eq (g2 := F0 m 84 ls [.int r_2]) rfl ?_
              refine lv_istore (lv' := [(4, .int r_2), (0, .ref h0), (1, .int x1), (2, .int x2), (3, .int x3)]) C.1 C.2.1 dX12_askSealed_84 hl (by decide) rfl (fun ls hl => ?_)
              refine lv_iload_n C.1 C.2.1 dX12_askSealed_86 rfl (lv_at hl 2 rfl) ?_
              refine lv_bipush (v := (34:Int32)) C.1 C.2.1 dX12_askSealed_87 (by decide) ?_
              refine lv_icmp_ne (tgt := 109) C.1 C.2.1 dX12_askSealed_89 (by decide) (fun hc => ?_) (fun hc => ?_)
              · rw [if_neg hc] at h
                refine lv_iload C.1 C.2.1 dX12_askSealed_109 (lv_at hl 0 rfl) ?_
                refine lv_if_ge (tgt := 119) C.1 C.2.1 dX12_askSealed_111 (by decide) (fun hc => ?_) (fun hc => ?_)
                · rw [if_pos hc] at h
                  refine lv_aload_n C.1 C.2.1 dX12_askSealed_119 rfl (lv_at hl 1 rfl) ?_
                  refine lv_aload_n C.1 C.2.1 dX12_askSealed_120 rfl (lv_at hl 1 rfl) ?_
                  refine gf_3 C G dX12_askSealed_121 ?_
                  refine lv_aload_n C.1 C.2.1 dX12_askSealed_124 rfl (lv_at hl 1 rfl) ?_
                  refine gf_107 C G dX12_askSealed_125 ?_
                  refine lv_iload C.1 C.2.1 dX12_askSealed_128 (lv_at hl 0 rfl) ?_
                  obtain ⟨hi, h⟩ := ix_some h
                  refine rf_iald C G 75 rfl (by decide) rfl rfl hi dX12_askSealed_130 ?_
                  obtain ⟨hi, h⟩ := ix_some h
                  refine rf_iald C G 4 rfl (by decide) rfl rfl hi dX12_askSealed_131 ?_
                  obtain ⟨r_4, ρ_3, hq, h⟩ := bd2_some h
                  refine rf_callV (rest := []) C G cw_comes [.int (ρ_1.1 4 (ρ_1.1 75 r_2.toNatClampNeg).toNatClampNeg)] _ (kq_comes l D h0 hq) (Nat.le_of_ble_eq_true rfl) (Nat.le_of_ble_eq_true rfl) rfl rfl hl.1 (Nat.le_of_ble_eq_true rfl) (Nat.zero_le _) (Nat.zero_le _) dX12_askSealed_132 (fun H locs G => ?_)
                  refine W.eq (g2 := F0 m 135 ls [.int r_4]) rfl ?_
                  exact rf_iret C G h dX12_askSealed_135
                · rw [if_neg hc] at h
                  refine lv_bipush (v := (-3:Int32)) C.1 C.2.1 dX12_askSealed_114 (by decide) ?_
                  refine lv_goto (tgt := 135) C.1 C.2.1 dX12_askSealed_116 (by decide) ?_
                  exact rf_iret C G h dX12_askSealed_135
              · rw [if_pos hc] at h
                refine lv_iload C.1 C.2.1 dX12_askSealed_92 (lv_at hl 0 rfl) ?_
                refine lv_if_ge (tgt := 101) C.1 C.2.1 dX12_askSealed_94 (by decide) (fun hc => ?_) (fun hc => ?_)
                · rw [if_pos hc] at h
                  refine lv_aload_n C.1 C.2.1 dX12_askSealed_101 rfl (lv_at hl 1 rfl) ?_
                  refine gf_106 C G dX12_askSealed_102 ?_
                  refine lv_iload C.1 C.2.1 dX12_askSealed_105 (lv_at hl 0 rfl) ?_
                  obtain ⟨hi, h⟩ := ix_some h
                  refine rf_iald C G 74 rfl (by decide) rfl rfl hi dX12_askSealed_107 ?_
                  exact rf_iret C G h dX12_askSealed_108
                · rw [if_neg hc] at h
                  refine lv_iconst (v := (0:Int32)) C.1 C.2.1 dX12_askSealed_97 (by decide) ?_
                  refine lv_goto (tgt := 108) C.1 C.2.1 dX12_askSealed_98 (by decide) ?_
                  exact rf_iret C G h dX12_askSealed_108
            · rw [if_pos hc] at h
              refine lv_aload_n C.1 C.2.1 dX12_askSealed_72 rfl (lv_at hl 0 rfl) ?_
              refine lv_iload_n C.1 C.2.1 dX12_askSealed_73 rfl (lv_at hl 2 rfl) ?_
              refine lv_iload_n C.1 C.2.1 dX12_askSealed_74 rfl (lv_at hl 3 rfl) ?_
              obtain ⟨r_6, ρ_5, hq, h⟩ := bd2_some h
              refine rf_callV (rest := []) C G cw_seal [.int x2, .int x3] _ (kq_seal l D h0 hq) (Nat.le_of_ble_eq_true rfl) (Nat.le_of_ble_eq_true rfl) rfl rfl hl.1 (Nat.le_of_ble_eq_true rfl) (Nat.zero_le _) (Nat.zero_le _) dX12_askSealed_75 (fun H locs G => ?_)
              refine W.eq (g2 := F0 m 78 ls [.int r_6]) rfl ?_
              exact rf_iret C G h dX12_askSealed_78
          · rw [if_neg hc] at h
            refine lv_iconst (v := (-1:Int32)) C.1 C.2.1 dX12_askSealed_64 (by decide) ?_
            exact rf_iret C G h dX12_askSealed_65
      · rw [if_pos hc] at h
        refine lv_aload_n C.1 C.2.1 dX12_askSealed_38 rfl (lv_at hl 0 rfl) ?_
        refine lv_aload_n C.1 C.2.1 dX12_askSealed_39 rfl (lv_at hl 0 rfl) ?_
        refine gf_21 C G dX12_askSealed_40 ?_
        obtain ⟨r_8, ρ_7, hq, h⟩ := bd2_some h
        refine rf_callV (rest := []) C G cw_comes [.int (ρ.1 0 21)] _ (kq_comes l D h0 hq) (Nat.le_of_ble_eq_true rfl) (Nat.le_of_ble_eq_true rfl) rfl rfl hl.1 (Nat.le_of_ble_eq_true rfl) (Nat.zero_le _) (Nat.zero_le _) dX12_askSealed_43 (fun H locs G => ?_)
        refine W.eq (g2 := F0 m 46 ls [.int r_8]) rfl ?_
        exact rf_iret C G h dX12_askSealed_46
    · rw [if_pos hc] at h
      refine lv_aload_n C.1 C.2.1 dX12_askSealed_26 rfl (lv_at hl 0 rfl) ?_
      refine lv_iload_n C.1 C.2.1 dX12_askSealed_27 rfl (lv_at hl 2 rfl) ?_
      obtain ⟨r_10, ρ_9, hq, h⟩ := bd2_some h
      refine rf_callV (rest := []) C G cw_quote [.int x2] _ (kq_quote l D h0 hq) (Nat.le_of_ble_eq_true rfl) (Nat.le_of_ble_eq_true rfl) rfl rfl hl.1 (Nat.le_of_ble_eq_true rfl) (Nat.zero_le _) (Nat.zero_le _) dX12_askSealed_28 (fun H locs G => ?_)
      refine W.eq (g2 := F0 m 31 ls [.int r_10]) rfl ?_
      exact rf_iret C G h dX12_askSealed_31
  · rw [if_pos hc] at h
    refine lv_aload_n C.1 C.2.1 dX12_askSealed_6 rfl (lv_at hl 0 rfl) ?_
    refine lv_aload_n C.1 C.2.1 dX12_askSealed_7 rfl (lv_at hl 0 rfl) ?_
    refine gf_69 C G dX12_askSealed_8 ?_
    refine lv_aload_n C.1 C.2.1 dX12_askSealed_11 rfl (lv_at hl 0 rfl) ?_
    refine gf_118 C G dX12_askSealed_12 ?_
    obtain ⟨hi, h⟩ := ix_some h
    refine rf_iald C G 39 rfl (by decide) rfl rfl hi dX12_askSealed_15 ?_
    obtain ⟨r_12, ρ_11, hq, h⟩ := bd2_some h
    refine rf_callV (rest := []) C G cw_comes [.int (ρ.1 39 (ρ.1 0 118).toNatClampNeg)] _ (kq_comes l D h0 hq) (Nat.le_of_ble_eq_true rfl) (Nat.le_of_ble_eq_true rfl) rfl rfl hl.1 (Nat.le_of_ble_eq_true rfl) (Nat.zero_le _) (Nat.zero_le _) dX12_askSealed_16 (fun H locs G => ?_)
    refine W.eq (g2 := F0 m 19 ls [.int r_12]) rfl ?_
    exact rf_iret C G h dX12_askSealed_19
noncomputable def fq_askSealed (x1 : Int32) (x2 : Int32) (x3 : Int32) (ρ : rf_S) : Option (Int32 × rf_S) := bq_askSealed_0 x1 x2 x3 ρ
theorem kq_askSealed (l : Launch) (D : rf_D) (h0 : Nat) {r : Int32} {x1 : Int32} {x2 : Int32} {x3 : Int32} {ρ ρ' : rf_S} (h : fq_askSealed x1 x2 x3 ρ = some (r, ρ')) : rf_Met l D h0 yX12_askSealed cX12_askSealed 5 (some .int) 5 121 [.ref h0, .int x1, .int x2, .int x3] ρ (some (.int r)) ρ' :=
  rf_of rfl cc_askSealed (Nat.le_of_ble_eq_true rfl) (fun p e s m args below meth c ls C G hl => wq_askSealed_0 C h G hl)
abbrev cX12_ask : ByteArray := prog_14_method_82_code
def yX12_ask : MethodName := ⟨RX12, "ask", "(I)V"⟩
theorem dX12_ask_0 : decode cX12_ask 0 = .ok (.aload_n 0, 1) := by decide +kernel
theorem dX12_ask_1 : decode cX12_ask 1 = .ok (.iconst 1, 1) := by decide +kernel
theorem dX12_ask_2 : decode cX12_ask 2 = .ok (.invokevirtual 579, 3) := by decide +kernel
theorem dX12_ask_5 : decode cX12_ask 5 = .ok (.istore_n 2, 1) := by decide +kernel
theorem dX12_ask_6 : decode cX12_ask 6 = .ok (.aload_n 0, 1) := by decide +kernel
theorem dX12_ask_7 : decode cX12_ask 7 = .ok (.iconst 2, 1) := by decide +kernel
theorem dX12_ask_8 : decode cX12_ask 8 = .ok (.invokevirtual 579, 3) := by decide +kernel
theorem dX12_ask_11 : decode cX12_ask 11 = .ok (.istore_n 3, 1) := by decide +kernel
theorem dX12_ask_12 : decode cX12_ask 12 = .ok (.iload_n 1, 1) := by decide +kernel
theorem dX12_ask_13 : decode cX12_ask 13 = .ok (.bipush 13, 2) := by decide +kernel
theorem dX12_ask_15 : decode cX12_ask 15 = .ok (.if_icmp .ge 13, 3) := by decide +kernel
theorem dX12_ask_18 : decode cX12_ask 18 = .ok (.aload_n 0, 1) := by decide +kernel
theorem dX12_ask_19 : decode cX12_ask 19 = .ok (.iload_n 1, 1) := by decide +kernel
theorem dX12_ask_20 : decode cX12_ask 20 = .ok (.iload_n 2, 1) := by decide +kernel
theorem dX12_ask_21 : decode cX12_ask 21 = .ok (.iload_n 3, 1) := by decide +kernel
theorem dX12_ask_22 : decode cX12_ask 22 = .ok (.invokevirtual 613, 3) := by decide +kernel
theorem dX12_ask_25 : decode cX12_ask 25 = .ok (.goto 26, 3) := by decide +kernel
theorem dX12_ask_28 : decode cX12_ask 28 = .ok (.iload_n 1, 1) := by decide +kernel
theorem dX12_ask_29 : decode cX12_ask 29 = .ok (.bipush 29, 2) := by decide +kernel
theorem dX12_ask_31 : decode cX12_ask 31 = .ok (.if_icmp .ge 13, 3) := by decide +kernel
theorem dX12_ask_34 : decode cX12_ask 34 = .ok (.aload_n 0, 1) := by decide +kernel
theorem dX12_ask_35 : decode cX12_ask 35 = .ok (.iload_n 1, 1) := by decide +kernel
theorem dX12_ask_36 : decode cX12_ask 36 = .ok (.iload_n 2, 1) := by decide +kernel
theorem dX12_ask_37 : decode cX12_ask 37 = .ok (.iload_n 3, 1) := by decide +kernel
theorem dX12_ask_38 : decode cX12_ask 38 = .ok (.invokevirtual 616, 3) := by decide +kernel
theorem dX12_ask_41 : decode cX12_ask 41 = .ok (.goto 10, 3) := by decide +kernel
theorem dX12_ask_44 : decode cX12_ask 44 = .ok (.aload_n 0, 1) := by decide +kernel
theorem dX12_ask_45 : decode cX12_ask 45 = .ok (.iload_n 1, 1) := by decide +kernel
theorem dX12_ask_46 : decode cX12_ask 46 = .ok (.iload_n 2, 1) := by decide +kernel
theorem dX12_ask_47 : decode cX12_ask 47 = .ok (.iload_n 3, 1) := by decide +kernel
theorem dX12_ask_48 : decode cX12_ask 48 = .ok (.invokevirtual 619, 3) := by decide +kernel
theorem dX12_ask_51 : decode cX12_ask 51 = .ok (.istore 4, 2) := by decide +kernel
theorem dX12_ask_53 : decode cX12_ask 53 = .ok (.aload_n 0, 1) := by decide +kernel
theorem dX12_ask_54 : decode cX12_ask 54 = .ok (.getfield 553, 3) := by decide +kernel
theorem dX12_ask_57 : decode cX12_ask 57 = .ok (.ifCond .ne 10, 3) := by decide +kernel
theorem dX12_ask_60 : decode cX12_ask 60 = .ok (.aload_n 0, 1) := by decide +kernel
theorem dX12_ask_61 : decode cX12_ask 61 = .ok (.iconst 1, 1) := by decide +kernel
theorem dX12_ask_62 : decode cX12_ask 62 = .ok (.iload 4, 2) := by decide +kernel
theorem dX12_ask_64 : decode cX12_ask 64 = .ok (.invokevirtual 586, 3) := by decide +kernel
theorem dX12_ask_67 : decode cX12_ask 67 = .ok (.return_, 1) := by decide +kernel
theorem cc_ask : Cond.code yX12_ask cX12_ask 5 none ∈ rf_tb := rf_at 2147 (by decide +kernel) (by decide +kernel)
theorem cw_ask : rf_wV yX12_ask cX12_ask 5 none 603 1 := ⟨⟨rf_at 2144 (by decide +kernel) (by decide +kernel), rf_at 2146 (by decide +kernel) (by decide +kernel), rf_sel (q := (yX12_ask, 122)) 115 (by decide +kernel) (by decide +kernel), cc_ask⟩, rfl, by decide +kernel⟩
noncomputable def bq_ask_51 (v0 : Int32) (ρ : rf_S) : Option (rf_S) := (if (ρ.1 0 108) = 0 then bd1 (fq_give (1:Int32) v0 ρ) (fun ρ_7 => some ρ_7) else some ρ)
set_option maxHeartbeats 4000000 in
theorem wq_ask_51 (C : rf_C D p s m args meth c cX12_ask 5 none) {v0 : Int32} {ρ ρ' : rf_S} {H : Heap} {locs : List Loc} {ls : Array Slot} (h : bq_ask_51 v0 ρ = some ρ') (G : rf_G D h0 s ρ H locs) (hl : lv_has ls 5 [(0, .ref h0)]) : W p l e ({ frames := 6, cells := 0, slots := 0, locals := 145 }) s m args below meth c H locs 0 0 (MQ below (rf_Q D h0 none ρ') args s 0 0 (rf_A h0)) (F0 m 51 ls [.int v0]) := by
  unfold bq_ask_51 at h
  refine lv_istore (lv' := [(4, .int v0), (0, .ref h0)]) C.1 C.2.1 dX12_ask_51 hl (by decide) rfl (fun ls hl => ?_)
  refine lv_aload_n C.1 C.2.1 dX12_ask_53 rfl (lv_at hl 1 rfl) ?_
  refine gf_108 C G dX12_ask_54 ?_
  refine lv_if_ne (tgt := 67) C.1 C.2.1 dX12_ask_57 (by decide) (fun hc => ?_) (fun hc => ?_)
  · rw [if_neg hc] at h
    exact rf_vret C G h dX12_ask_67
  · rw [if_pos hc] at h
    refine lv_aload_n C.1 C.2.1 dX12_ask_60 rfl (lv_at hl 1 rfl) ?_
    refine lv_iconst (v := (1:Int32)) C.1 C.2.1 dX12_ask_61 (by decide) ?_
    refine lv_iload C.1 C.2.1 dX12_ask_62 (lv_at hl 0 rfl) ?_
    obtain ⟨ρ_7, hq, h⟩ := bd1_some h
    refine rf_callV (rest := []) C G cw_give [.int (1:Int32), .int v0] _ (kq_give l D h0 hq) (Nat.le_of_ble_eq_true rfl) (Nat.le_of_ble_eq_true rfl) rfl rfl hl.1 (Nat.le_of_ble_eq_true rfl) (Nat.zero_le _) (Nat.zero_le _) dX12_ask_64 (fun H locs G => ?_)
    refine W.eq (g2 := F0 m 67 ls []) rfl ?_
    exact rf_vret C G h dX12_ask_67
noncomputable def bq_ask_0 (x1 : Int32) (ρ : rf_S) : Option (rf_S) := bd2 (fq_reg (1:Int32) ρ) (fun r_2 ρ_1 => bd2 (fq_reg (2:Int32) ρ_1) (fun r_4 ρ_3 => (if (13:Int32) ≤ x1 then (if (29:Int32) ≤ x1 then bd2 (fq_askSealed x1 r_2 r_4 ρ_3) (fun r_6 ρ_5 => bq_ask_51 r_6 ρ_5) else bd2 (fq_askTerms x1 r_2 r_4 ρ_3) (fun r_9 ρ_8 => bq_ask_51 r_9 ρ_8)) else bd2 (fq_askMachine x1 r_2 r_4 ρ_3) (fun r_11 ρ_10 => bq_ask_51 r_11 ρ_10))))
set_option maxHeartbeats 4000000 in
theorem wq_ask_0 (C : rf_C D p s m args meth c cX12_ask 5 none) {x1 : Int32} {ρ ρ' : rf_S} {H : Heap} {locs : List Loc} {ls : Array Slot} (h : bq_ask_0 x1 ρ = some ρ') (G : rf_G D h0 s ρ H locs) (hl : lv_has ls 5 [(0, .ref h0), (1, .int x1)]) : W p l e ({ frames := 6, cells := 0, slots := 0, locals := 145 }) s m args below meth c H locs 0 0 (MQ below (rf_Q D h0 none ρ') args s 0 0 (rf_A h0)) (F0 m 0 ls []) := by
  unfold bq_ask_0 at h
  refine lv_aload_n C.1 C.2.1 dX12_ask_0 rfl (lv_at hl 0 rfl) ?_
  refine lv_iconst (v := (1:Int32)) C.1 C.2.1 dX12_ask_1 (by decide) ?_
  obtain ⟨r_2, ρ_1, hq, h⟩ := bd2_some h
  refine rf_callV (rest := []) C G cw_reg [.int (1:Int32)] _ (kq_reg l D h0 hq) (Nat.le_of_ble_eq_true rfl) (Nat.le_of_ble_eq_true rfl) rfl rfl hl.1 (Nat.le_of_ble_eq_true rfl) (Nat.zero_le _) (Nat.zero_le _) dX12_ask_2 (fun H locs G => ?_)
  refine W.eq (g2 := F0 m 5 ls [.int r_2]) rfl ?_
  refine lv_istore_n (lv' := [(2, .int r_2), (0, .ref h0), (1, .int x1)]) C.1 C.2.1 dX12_ask_5 rfl hl (by decide) rfl (fun ls hl => ?_)
  refine lv_aload_n C.1 C.2.1 dX12_ask_6 rfl (lv_at hl 1 rfl) ?_
  refine lv_iconst (v := (2:Int32)) C.1 C.2.1 dX12_ask_7 (by decide) ?_
  obtain ⟨r_4, ρ_3, hq, h⟩ := bd2_some h
  refine rf_callV (rest := []) C G cw_reg [.int (2:Int32)] _ (kq_reg l D h0 hq) (Nat.le_of_ble_eq_true rfl) (Nat.le_of_ble_eq_true rfl) rfl rfl hl.1 (Nat.le_of_ble_eq_true rfl) (Nat.zero_le _) (Nat.zero_le _) dX12_ask_8 (fun H locs G => ?_)
  refine W.eq (g2 := F0 m 11 ls [.int r_4]) rfl ?_
  refine lv_istore_n (lv' := [(3, .int r_4), (2, .int r_2), (0, .ref h0), (1, .int x1)]) C.1 C.2.1 dX12_ask_11 rfl hl (by decide) rfl (fun ls hl => ?_)
  refine lv_iload_n C.1 C.2.1 dX12_ask_12 rfl (lv_at hl 3 rfl) ?_
  refine lv_bipush (v := (13:Int32)) C.1 C.2.1 dX12_ask_13 (by decide) ?_
  refine lv_icmp_ge (tgt := 28) C.1 C.2.1 dX12_ask_15 (by decide) (fun hc => ?_) (fun hc => ?_)
  · rw [if_pos hc] at h
    refine lv_iload_n C.1 C.2.1 dX12_ask_28 rfl (lv_at hl 3 rfl) ?_
    refine lv_bipush (v := (29:Int32)) C.1 C.2.1 dX12_ask_29 (by decide) ?_
    refine lv_icmp_ge (tgt := 44) C.1 C.2.1 dX12_ask_31 (by decide) (fun hc => ?_) (fun hc => ?_)
    · rw [if_pos hc] at h
      refine lv_aload_n C.1 C.2.1 dX12_ask_44 rfl (lv_at hl 2 rfl) ?_
      refine lv_iload_n C.1 C.2.1 dX12_ask_45 rfl (lv_at hl 3 rfl) ?_
      refine lv_iload_n C.1 C.2.1 dX12_ask_46 rfl (lv_at hl 1 rfl) ?_
      refine lv_iload_n C.1 C.2.1 dX12_ask_47 rfl (lv_at hl 0 rfl) ?_
      obtain ⟨r_6, ρ_5, hq, h⟩ := bd2_some h
      refine rf_callV (rest := []) C G cw_askSealed [.int x1, .int r_2, .int r_4] _ (kq_askSealed l D h0 hq) (Nat.le_of_ble_eq_true rfl) (Nat.le_of_ble_eq_true rfl) rfl rfl hl.1 (Nat.le_of_ble_eq_true rfl) (Nat.zero_le _) (Nat.zero_le _) dX12_ask_48 (fun H locs G => ?_)
      refine W.eq (g2 := F0 m 51 ls [.int r_6]) rfl ?_
      exact wq_ask_51 C h G (lv_sub hl [2] rfl)
    · rw [if_neg hc] at h
      refine lv_aload_n C.1 C.2.1 dX12_ask_34 rfl (lv_at hl 2 rfl) ?_
      refine lv_iload_n C.1 C.2.1 dX12_ask_35 rfl (lv_at hl 3 rfl) ?_
      refine lv_iload_n C.1 C.2.1 dX12_ask_36 rfl (lv_at hl 1 rfl) ?_
      refine lv_iload_n C.1 C.2.1 dX12_ask_37 rfl (lv_at hl 0 rfl) ?_
      obtain ⟨r_9, ρ_8, hq, h⟩ := bd2_some h
      refine rf_callV (rest := []) C G cw_askTerms [.int x1, .int r_2, .int r_4] _ (kq_askTerms l D h0 hq) (Nat.le_of_ble_eq_true rfl) (Nat.le_of_ble_eq_true rfl) rfl rfl hl.1 (Nat.le_of_ble_eq_true rfl) (Nat.zero_le _) (Nat.zero_le _) dX12_ask_38 (fun H locs G => ?_)
      refine W.eq (g2 := F0 m 41 ls [.int r_9]) rfl ?_
      refine lv_goto (tgt := 51) C.1 C.2.1 dX12_ask_41 (by decide) ?_
      exact wq_ask_51 C h G (lv_sub hl [2] rfl)
  · rw [if_neg hc] at h
    refine lv_aload_n C.1 C.2.1 dX12_ask_18 rfl (lv_at hl 2 rfl) ?_
    refine lv_iload_n C.1 C.2.1 dX12_ask_19 rfl (lv_at hl 3 rfl) ?_
    refine lv_iload_n C.1 C.2.1 dX12_ask_20 rfl (lv_at hl 1 rfl) ?_
    refine lv_iload_n C.1 C.2.1 dX12_ask_21 rfl (lv_at hl 0 rfl) ?_
    obtain ⟨r_11, ρ_10, hq, h⟩ := bd2_some h
    refine rf_callV (rest := []) C G cw_askMachine [.int x1, .int r_2, .int r_4] _ (kq_askMachine l D h0 hq) (Nat.le_of_ble_eq_true rfl) (Nat.le_of_ble_eq_true rfl) rfl rfl hl.1 (Nat.le_of_ble_eq_true rfl) (Nat.zero_le _) (Nat.zero_le _) dX12_ask_22 (fun H locs G => ?_)
    refine W.eq (g2 := F0 m 25 ls [.int r_11]) rfl ?_
    refine lv_goto (tgt := 51) C.1 C.2.1 dX12_ask_25 (by decide) ?_
    exact wq_ask_51 C h G (lv_sub hl [2] rfl)
noncomputable def fq_ask (x1 : Int32) (ρ : rf_S) : Option (rf_S) := bq_ask_0 x1 ρ
theorem kq_ask (l : Launch) (D : rf_D) (h0 : Nat) {x1 : Int32} {ρ ρ' : rf_S} (h : fq_ask x1 ρ = some ρ') : rf_Met l D h0 yX12_ask cX12_ask 5 none 6 145 [.ref h0, .int x1] ρ none ρ' :=
  rf_of rfl cc_ask (Nat.le_of_ble_eq_true rfl) (fun p e s m args below meth c ls C G hl => wq_ask_0 C h G hl)
end RQ12
