section RQ11
variable {p : Program} {l : Launch} {e : Env} {s : State} {m : MethodId} {args : Array Value} {below : List Frame} {meth : Method} {c : Code} {D : rf_D} {h0 : Nat}
abbrev cX12_made : ByteArray := prog_14_method_79_code
def yX12_made : MethodName := ⟨RX12, "made", "(IIII)I"⟩
theorem dX12_made_0 : decode cX12_made 0 = .ok (.aload_n 0, 1) := by decide +kernel
theorem dX12_made_1 : decode cX12_made 1 = .ok (.iload_n 1, 1) := by decide +kernel
theorem dX12_made_2 : decode cX12_made 2 = .ok (.iload_n 2, 1) := by decide +kernel
theorem dX12_made_3 : decode cX12_made 3 = .ok (.iload_n 3, 1) := by decide +kernel
theorem dX12_made_4 : decode cX12_made 4 = .ok (.iload 4, 2) := by decide +kernel
theorem dX12_made_6 : decode cX12_made 6 = .ok (.invokevirtual 296, 3) := by decide +kernel
theorem dX12_made_9 : decode cX12_made 9 = .ok (.istore 5, 2) := by decide +kernel
theorem dX12_made_11 : decode cX12_made 11 = .ok (.iload 5, 2) := by decide +kernel
theorem dX12_made_13 : decode cX12_made 13 = .ok (.ifCond .ge 20, 3) := by decide +kernel
theorem dX12_made_16 : decode cX12_made 16 = .ok (.aload_n 0, 1) := by decide +kernel
theorem dX12_made_17 : decode cX12_made 17 = .ok (.getfield 206, 3) := by decide +kernel
theorem dX12_made_20 : decode cX12_made 20 = .ok (.aload_n 0, 1) := by decide +kernel
theorem dX12_made_21 : decode cX12_made 21 = .ok (.getfield 563, 3) := by decide +kernel
theorem dX12_made_24 : decode cX12_made 24 = .ok (.iaload, 1) := by decide +kernel
theorem dX12_made_25 : decode cX12_made 25 = .ok (.bipush 100, 2) := by decide +kernel
theorem dX12_made_27 : decode cX12_made 27 = .ok (.if_icmp .ne 6, 3) := by decide +kernel
theorem dX12_made_30 : decode cX12_made 30 = .ok (.bipush (-4), 2) := by decide +kernel
theorem dX12_made_32 : decode cX12_made 32 = .ok (.ireturn, 1) := by decide +kernel
theorem dX12_made_33 : decode cX12_made 33 = .ok (.aload_n 0, 1) := by decide +kernel
theorem dX12_made_34 : decode cX12_made 34 = .ok (.iload 5, 2) := by decide +kernel
theorem dX12_made_36 : decode cX12_made 36 = .ok (.ifCond .lt 8, 3) := by decide +kernel
theorem dX12_made_39 : decode cX12_made 39 = .ok (.iload 5, 2) := by decide +kernel
theorem dX12_made_41 : decode cX12_made 41 = .ok (.goto 12, 3) := by decide +kernel
theorem dX12_made_44 : decode cX12_made 44 = .ok (.aload_n 0, 1) := by decide +kernel
theorem dX12_made_45 : decode cX12_made 45 = .ok (.iload_n 1, 1) := by decide +kernel
theorem dX12_made_46 : decode cX12_made 46 = .ok (.iload_n 2, 1) := by decide +kernel
theorem dX12_made_47 : decode cX12_made 47 = .ok (.iload_n 3, 1) := by decide +kernel
theorem dX12_made_48 : decode cX12_made 48 = .ok (.iload 4, 2) := by decide +kernel
theorem dX12_made_50 : decode cX12_made 50 = .ok (.invokevirtual 271, 3) := by decide +kernel
theorem dX12_made_53 : decode cX12_made 53 = .ok (.invokevirtual 610, 3) := by decide +kernel
theorem dX12_made_56 : decode cX12_made 56 = .ok (.ireturn, 1) := by decide +kernel
theorem cc_made : Cond.code yX12_made cX12_made 6 (some .int) ∈ rf_tb := rf_at 2207 (by decide +kernel) (by decide +kernel)
theorem cw_made : rf_wV yX12_made cX12_made 6 (some .int) 654 4 := ⟨⟨rf_at 2204 (by decide +kernel) (by decide +kernel), rf_at 2206 (by decide +kernel) (by decide +kernel), rf_sel (q := (yX12_made, 122)) 130 (by decide +kernel) (by decide +kernel), cc_made⟩, rfl, by decide +kernel⟩
noncomputable def bq_made_33 (x1 : Int32) (x2 : Int32) (x3 : Int32) (x4 : Int32) (x5 : Int32) (ρ : rf_S) : Option (Int32 × rf_S) := (if x5 < 0 then bd2 (fq_term x1 x2 x3 x4 ρ) (fun r_4 ρ_3 => bd2 (fq_comes r_4 ρ_3) (fun r_6 ρ_5 => some (r_6, ρ_5))) else bd2 (fq_comes x5 ρ) (fun r_8 ρ_7 => some (r_8, ρ_7)))
set_option maxHeartbeats 4000000 in
theorem wq_made_33 (C : rf_C D p s m args meth c cX12_made 6 (some .int)) {r : Int32} {x1 : Int32} {x2 : Int32} {x3 : Int32} {x4 : Int32} {x5 : Int32} {ρ ρ' : rf_S} {H : Heap} {locs : List Loc} {ls : Array Slot} (h : bq_made_33 x1 x2 x3 x4 x5 ρ = some (r, ρ')) (G : rf_G D h0 s ρ H locs) (hl : lv_has ls 6 [(0, .ref h0), (1, .int x1), (2, .int x2), (3, .int x3), (4, .int x4), (5, .int x5)]) : W p l e ({ frames := 3, cells := 0, slots := 0, locals := 74 }) s m args below meth c H locs 0 0 (MQ below (rf_Q D h0 (some (.int r)) ρ') args s 0 0 (rf_A h0)) (F0 m 33 ls []) := by
  unfold bq_made_33 at h
  refine lv_aload_n C.1 C.2.1 dX12_made_33 rfl (lv_at hl 0 rfl) ?_
  refine lv_iload C.1 C.2.1 dX12_made_34 (lv_at hl 5 rfl) ?_
  refine lv_if_lt (tgt := 44) C.1 C.2.1 dX12_made_36 (by decide) (fun hc => ?_) (fun hc => ?_)
  · rw [if_pos hc] at h
    refine lv_aload_n C.1 C.2.1 dX12_made_44 rfl (lv_at hl 0 rfl) ?_
    refine lv_iload_n C.1 C.2.1 dX12_made_45 rfl (lv_at hl 1 rfl) ?_
    refine lv_iload_n C.1 C.2.1 dX12_made_46 rfl (lv_at hl 2 rfl) ?_
    refine lv_iload_n C.1 C.2.1 dX12_made_47 rfl (lv_at hl 3 rfl) ?_
    refine lv_iload C.1 C.2.1 dX12_made_48 (lv_at hl 4 rfl) ?_
    obtain ⟨r_4, ρ_3, hq, h⟩ := bd2_some h
    refine rf_callV (rest := [.ref h0]) C G cw_term [.int x1, .int x2, .int x3, .int x4] _ (kq_term l D h0 hq) (Nat.le_of_ble_eq_true rfl) (Nat.le_of_ble_eq_true rfl) rfl rfl hl.1 (Nat.le_of_ble_eq_true rfl) (Nat.zero_le _) (Nat.zero_le _) dX12_made_50 (fun H locs G => ?_)
    refine W.eq (g2 := F0 m 53 ls [.int r_4, .ref h0]) rfl ?_
    obtain ⟨r_6, ρ_5, hq, h⟩ := bd2_some h
    refine rf_callV (rest := []) C G cw_comes [.int r_4] _ (kq_comes l D h0 hq) (Nat.le_of_ble_eq_true rfl) (Nat.le_of_ble_eq_true rfl) rfl rfl hl.1 (Nat.le_of_ble_eq_true rfl) (Nat.zero_le _) (Nat.zero_le _) dX12_made_53 (fun H locs G => ?_)
    refine W.eq (g2 := F0 m 56 ls [.int r_6]) rfl ?_
    exact rf_iret C G h dX12_made_56
  · rw [if_neg hc] at h
    refine lv_iload C.1 C.2.1 dX12_made_39 (lv_at hl 5 rfl) ?_
    refine lv_goto (tgt := 53) C.1 C.2.1 dX12_made_41 (by decide) ?_
    obtain ⟨r_8, ρ_7, hq, h⟩ := bd2_some h
    refine rf_callV (rest := []) C G cw_comes [.int x5] _ (kq_comes l D h0 hq) (Nat.le_of_ble_eq_true rfl) (Nat.le_of_ble_eq_true rfl) rfl rfl hl.1 (Nat.le_of_ble_eq_true rfl) (Nat.zero_le _) (Nat.zero_le _) dX12_made_53 (fun H locs G => ?_)
    refine W.eq (g2 := F0 m 56 ls [.int r_8]) rfl ?_
    exact rf_iret C G h dX12_made_56
noncomputable def bq_made_0 (x1 : Int32) (x2 : Int32) (x3 : Int32) (x4 : Int32) (ρ : rf_S) : Option (Int32 × rf_S) := bd2 (fq_peek x1 x2 x3 x4 ρ) (fun r_2 ρ_1 => (if 0 ≤ r_2 then bq_made_33 x1 x2 x3 x4 r_2 ρ_1 else ix (ρ_1.1 0 119) 16 ((if (ρ_1.1 61 (ρ_1.1 0 119).toNatClampNeg) = (100:Int32) then some ((-4:Int32), ρ_1) else bq_made_33 x1 x2 x3 x4 r_2 ρ_1))))
set_option maxHeartbeats 4000000 in
theorem wq_made_0 (C : rf_C D p s m args meth c cX12_made 6 (some .int)) {r : Int32} {x1 : Int32} {x2 : Int32} {x3 : Int32} {x4 : Int32} {ρ ρ' : rf_S} {H : Heap} {locs : List Loc} {ls : Array Slot} (h : bq_made_0 x1 x2 x3 x4 ρ = some (r, ρ')) (G : rf_G D h0 s ρ H locs) (hl : lv_has ls 6 [(0, .ref h0), (1, .int x1), (2, .int x2), (3, .int x3), (4, .int x4)]) : W p l e ({ frames := 3, cells := 0, slots := 0, locals := 74 }) s m args below meth c H locs 0 0 (MQ below (rf_Q D h0 (some (.int r)) ρ') args s 0 0 (rf_A h0)) (F0 m 0 ls []) := by
  unfold bq_made_0 at h
  refine lv_aload_n C.1 C.2.1 dX12_made_0 rfl (lv_at hl 0 rfl) ?_
  refine lv_iload_n C.1 C.2.1 dX12_made_1 rfl (lv_at hl 1 rfl) ?_
  refine lv_iload_n C.1 C.2.1 dX12_made_2 rfl (lv_at hl 2 rfl) ?_
  refine lv_iload_n C.1 C.2.1 dX12_made_3 rfl (lv_at hl 3 rfl) ?_
  refine lv_iload C.1 C.2.1 dX12_made_4 (lv_at hl 4 rfl) ?_
  obtain ⟨r_2, ρ_1, hq, h⟩ := bd2_some h
  refine rf_callV (rest := []) C G cw_peek [.int x1, .int x2, .int x3, .int x4] _ (kq_peek l D h0 hq) (Nat.le_of_ble_eq_true rfl) (Nat.le_of_ble_eq_true rfl) rfl rfl hl.1 (Nat.le_of_ble_eq_true rfl) (Nat.zero_le _) (Nat.zero_le _) dX12_made_6 (fun H locs G => ?_)
  refine W.eq (g2 := F0 m 9 ls [.int r_2]) rfl ?_
  refine lv_istore (lv' := [(5, .int r_2), (0, .ref h0), (1, .int x1), (2, .int x2), (3, .int x3), (4, .int x4)]) C.1 C.2.1 dX12_made_9 hl (by decide) rfl (fun ls hl => ?_)
  refine lv_iload C.1 C.2.1 dX12_made_11 (lv_at hl 0 rfl) ?_
  refine lv_if_ge (tgt := 33) C.1 C.2.1 dX12_made_13 (by decide) (fun hc => ?_) (fun hc => ?_)
  · rw [if_pos hc] at h
    exact wq_made_33 C h G (lv_sub hl [1, 2, 3, 4, 5, 0] rfl)
  · rw [if_neg hc] at h
    refine lv_aload_n C.1 C.2.1 dX12_made_16 rfl (lv_at hl 1 rfl) ?_
    refine gf_93 C G dX12_made_17 ?_
    refine lv_aload_n C.1 C.2.1 dX12_made_20 rfl (lv_at hl 1 rfl) ?_
    refine gf_119 C G dX12_made_21 ?_
    obtain ⟨hi, h⟩ := ix_some h
    refine rf_iald C G 61 rfl (by decide) rfl rfl hi dX12_made_24 ?_
    refine lv_bipush (v := (100:Int32)) C.1 C.2.1 dX12_made_25 (by decide) ?_
    refine lv_icmp_ne (tgt := 33) C.1 C.2.1 dX12_made_27 (by decide) (fun hc => ?_) (fun hc => ?_)
    · rw [if_neg hc] at h
      exact wq_made_33 C h G (lv_sub hl [1, 2, 3, 4, 5, 0] rfl)
    · rw [if_pos hc] at h
      refine lv_bipush (v := (-4:Int32)) C.1 C.2.1 dX12_made_30 (by decide) ?_
      exact rf_iret C G h dX12_made_32
noncomputable def fq_made (x1 : Int32) (x2 : Int32) (x3 : Int32) (x4 : Int32) (ρ : rf_S) : Option (Int32 × rf_S) := bq_made_0 x1 x2 x3 x4 ρ
theorem kq_made (l : Launch) (D : rf_D) (h0 : Nat) {r : Int32} {x1 : Int32} {x2 : Int32} {x3 : Int32} {x4 : Int32} {ρ ρ' : rf_S} (h : fq_made x1 x2 x3 x4 ρ = some (r, ρ')) : rf_Met l D h0 yX12_made cX12_made 6 (some .int) 3 74 [.ref h0, .int x1, .int x2, .int x3, .int x4] ρ (some (.int r)) ρ' :=
  rf_of rfl cc_made (Nat.le_of_ble_eq_true rfl) (fun p e s m args below meth c ls C G hl => wq_made_0 C h G hl)
abbrev cX12_newSecret : ByteArray := prog_14_method_89_code
def yX12_newSecret : MethodName := ⟨RX12, "newSecret", "()I"⟩
theorem dX12_newSecret_0 : decode cX12_newSecret 0 = .ok (.aload_n 0, 1) := by decide +kernel
theorem dX12_newSecret_1 : decode cX12_newSecret 1 = .ok (.getfield 206, 3) := by decide +kernel
theorem dX12_newSecret_4 : decode cX12_newSecret 4 = .ok (.aload_n 0, 1) := by decide +kernel
theorem dX12_newSecret_5 : decode cX12_newSecret 5 = .ok (.getfield 563, 3) := by decide +kernel
theorem dX12_newSecret_8 : decode cX12_newSecret 8 = .ok (.iaload, 1) := by decide +kernel
theorem dX12_newSecret_9 : decode cX12_newSecret 9 = .ok (.bipush 100, 2) := by decide +kernel
theorem dX12_newSecret_11 : decode cX12_newSecret 11 = .ok (.if_icmp .ne 6, 3) := by decide +kernel
theorem dX12_newSecret_14 : decode cX12_newSecret 14 = .ok (.bipush (-4), 2) := by decide +kernel
theorem dX12_newSecret_16 : decode cX12_newSecret 16 = .ok (.ireturn, 1) := by decide +kernel
theorem dX12_newSecret_17 : decode cX12_newSecret 17 = .ok (.aload_n 0, 1) := by decide +kernel
theorem dX12_newSecret_18 : decode cX12_newSecret 18 = .ok (.getfield 233, 3) := by decide +kernel
theorem dX12_newSecret_21 : decode cX12_newSecret 21 = .ok (.aload_n 0, 1) := by decide +kernel
theorem dX12_newSecret_22 : decode cX12_newSecret 22 = .ok (.getfield 563, 3) := by decide +kernel
theorem dX12_newSecret_25 : decode cX12_newSecret 25 = .ok (.iaload, 1) := by decide +kernel
theorem dX12_newSecret_26 : decode cX12_newSecret 26 = .ok (.istore_n 1, 1) := by decide +kernel
theorem dX12_newSecret_27 : decode cX12_newSecret 27 = .ok (.aload_n 0, 1) := by decide +kernel
theorem dX12_newSecret_28 : decode cX12_newSecret 28 = .ok (.getfield 233, 3) := by decide +kernel
theorem dX12_newSecret_31 : decode cX12_newSecret 31 = .ok (.aload_n 0, 1) := by decide +kernel
theorem dX12_newSecret_32 : decode cX12_newSecret 32 = .ok (.getfield 563, 3) := by decide +kernel
theorem dX12_newSecret_35 : decode cX12_newSecret 35 = .ok (.dup2, 1) := by decide +kernel
theorem dX12_newSecret_36 : decode cX12_newSecret 36 = .ok (.iaload, 1) := by decide +kernel
theorem dX12_newSecret_37 : decode cX12_newSecret 37 = .ok (.iconst 1, 1) := by decide +kernel
theorem dX12_newSecret_38 : decode cX12_newSecret 38 = .ok (.iadd, 1) := by decide +kernel
theorem dX12_newSecret_39 : decode cX12_newSecret 39 = .ok (.iastore, 1) := by decide +kernel
theorem dX12_newSecret_40 : decode cX12_newSecret 40 = .ok (.aload_n 0, 1) := by decide +kernel
theorem dX12_newSecret_41 : decode cX12_newSecret 41 = .ok (.getfield 525, 3) := by decide +kernel
theorem dX12_newSecret_44 : decode cX12_newSecret 44 = .ok (.iconst 1, 1) := by decide +kernel
theorem dX12_newSecret_45 : decode cX12_newSecret 45 = .ok (.if_icmp .ne 35, 3) := by decide +kernel
theorem dX12_newSecret_48 : decode cX12_newSecret 48 = .ok (.iload_n 1, 1) := by decide +kernel
theorem dX12_newSecret_49 : decode cX12_newSecret 49 = .ok (.aload_n 0, 1) := by decide +kernel
theorem dX12_newSecret_50 : decode cX12_newSecret 50 = .ok (.getfield 152, 3) := by decide +kernel
theorem dX12_newSecret_53 : decode cX12_newSecret 53 = .ok (.aload_n 0, 1) := by decide +kernel
theorem dX12_newSecret_54 : decode cX12_newSecret 54 = .ok (.getfield 567, 3) := by decide +kernel
theorem dX12_newSecret_57 : decode cX12_newSecret 57 = .ok (.iaload, 1) := by decide +kernel
theorem dX12_newSecret_58 : decode cX12_newSecret 58 = .ok (.if_icmp .ge 22, 3) := by decide +kernel
theorem dX12_newSecret_61 : decode cX12_newSecret 61 = .ok (.aload_n 0, 1) := by decide +kernel
theorem dX12_newSecret_62 : decode cX12_newSecret 62 = .ok (.aload_n 0, 1) := by decide +kernel
theorem dX12_newSecret_63 : decode cX12_newSecret 63 = .ok (.getfield 149, 3) := by decide +kernel
theorem dX12_newSecret_66 : decode cX12_newSecret 66 = .ok (.bipush 100, 2) := by decide +kernel
theorem dX12_newSecret_68 : decode cX12_newSecret 68 = .ok (.aload_n 0, 1) := by decide +kernel
theorem dX12_newSecret_69 : decode cX12_newSecret 69 = .ok (.getfield 567, 3) := by decide +kernel
theorem dX12_newSecret_72 : decode cX12_newSecret 72 = .ok (.imul, 1) := by decide +kernel
theorem dX12_newSecret_73 : decode cX12_newSecret 73 = .ok (.iload_n 1, 1) := by decide +kernel
theorem dX12_newSecret_74 : decode cX12_newSecret 74 = .ok (.iadd, 1) := by decide +kernel
theorem dX12_newSecret_75 : decode cX12_newSecret 75 = .ok (.iaload, 1) := by decide +kernel
theorem dX12_newSecret_76 : decode cX12_newSecret 76 = .ok (.invokevirtual 610, 3) := by decide +kernel
theorem dX12_newSecret_79 : decode cX12_newSecret 79 = .ok (.ireturn, 1) := by decide +kernel
theorem dX12_newSecret_80 : decode cX12_newSecret 80 = .ok (.aload_n 0, 1) := by decide +kernel
theorem dX12_newSecret_81 : decode cX12_newSecret 81 = .ok (.iconst 2, 1) := by decide +kernel
theorem dX12_newSecret_82 : decode cX12_newSecret 82 = .ok (.aload_n 0, 1) := by decide +kernel
theorem dX12_newSecret_83 : decode cX12_newSecret 83 = .ok (.getfield 278, 3) := by decide +kernel
theorem dX12_newSecret_86 : decode cX12_newSecret 86 = .ok (.iconst 0, 1) := by decide +kernel
theorem dX12_newSecret_87 : decode cX12_newSecret 87 = .ok (.iconst 0, 1) := by decide +kernel
theorem dX12_newSecret_88 : decode cX12_newSecret 88 = .ok (.invokevirtual 271, 3) := by decide +kernel
theorem dX12_newSecret_91 : decode cX12_newSecret 91 = .ok (.istore_n 2, 1) := by decide +kernel
theorem dX12_newSecret_92 : decode cX12_newSecret 92 = .ok (.aload_n 0, 1) := by decide +kernel
theorem dX12_newSecret_93 : decode cX12_newSecret 93 = .ok (.dup, 1) := by decide +kernel
theorem dX12_newSecret_94 : decode cX12_newSecret 94 = .ok (.getfield 278, 3) := by decide +kernel
theorem dX12_newSecret_97 : decode cX12_newSecret 97 = .ok (.iconst 1, 1) := by decide +kernel
theorem dX12_newSecret_98 : decode cX12_newSecret 98 = .ok (.iadd, 1) := by decide +kernel
theorem dX12_newSecret_99 : decode cX12_newSecret 99 = .ok (.putfield 278, 3) := by decide +kernel
theorem dX12_newSecret_102 : decode cX12_newSecret 102 = .ok (.aload_n 0, 1) := by decide +kernel
theorem dX12_newSecret_103 : decode cX12_newSecret 103 = .ok (.getfield 525, 3) := by decide +kernel
theorem dX12_newSecret_106 : decode cX12_newSecret 106 = .ok (.ifCond .ne 31, 3) := by decide +kernel
theorem dX12_newSecret_109 : decode cX12_newSecret 109 = .ok (.aload_n 0, 1) := by decide +kernel
theorem dX12_newSecret_110 : decode cX12_newSecret 110 = .ok (.getfield 149, 3) := by decide +kernel
theorem dX12_newSecret_113 : decode cX12_newSecret 113 = .ok (.bipush 100, 2) := by decide +kernel
theorem dX12_newSecret_115 : decode cX12_newSecret 115 = .ok (.aload_n 0, 1) := by decide +kernel
theorem dX12_newSecret_116 : decode cX12_newSecret 116 = .ok (.getfield 567, 3) := by decide +kernel
theorem dX12_newSecret_119 : decode cX12_newSecret 119 = .ok (.imul, 1) := by decide +kernel
theorem dX12_newSecret_120 : decode cX12_newSecret 120 = .ok (.iload_n 1, 1) := by decide +kernel
theorem dX12_newSecret_121 : decode cX12_newSecret 121 = .ok (.iadd, 1) := by decide +kernel
theorem dX12_newSecret_122 : decode cX12_newSecret 122 = .ok (.iload_n 2, 1) := by decide +kernel
theorem dX12_newSecret_123 : decode cX12_newSecret 123 = .ok (.iastore, 1) := by decide +kernel
theorem dX12_newSecret_124 : decode cX12_newSecret 124 = .ok (.aload_n 0, 1) := by decide +kernel
theorem dX12_newSecret_125 : decode cX12_newSecret 125 = .ok (.getfield 152, 3) := by decide +kernel
theorem dX12_newSecret_128 : decode cX12_newSecret 128 = .ok (.aload_n 0, 1) := by decide +kernel
theorem dX12_newSecret_129 : decode cX12_newSecret 129 = .ok (.getfield 567, 3) := by decide +kernel
theorem dX12_newSecret_132 : decode cX12_newSecret 132 = .ok (.dup2, 1) := by decide +kernel
theorem dX12_newSecret_133 : decode cX12_newSecret 133 = .ok (.iaload, 1) := by decide +kernel
theorem dX12_newSecret_134 : decode cX12_newSecret 134 = .ok (.iconst 1, 1) := by decide +kernel
theorem dX12_newSecret_135 : decode cX12_newSecret 135 = .ok (.iadd, 1) := by decide +kernel
theorem dX12_newSecret_136 : decode cX12_newSecret 136 = .ok (.iastore, 1) := by decide +kernel
theorem dX12_newSecret_137 : decode cX12_newSecret 137 = .ok (.aload_n 0, 1) := by decide +kernel
theorem dX12_newSecret_138 : decode cX12_newSecret 138 = .ok (.iload_n 2, 1) := by decide +kernel
theorem dX12_newSecret_139 : decode cX12_newSecret 139 = .ok (.invokevirtual 610, 3) := by decide +kernel
theorem dX12_newSecret_142 : decode cX12_newSecret 142 = .ok (.ireturn, 1) := by decide +kernel
theorem cc_newSecret : Cond.code yX12_newSecret cX12_newSecret 3 (some .int) ∈ rf_tb := rf_at 2211 (by decide +kernel) (by decide +kernel)
theorem cw_newSecret : rf_wV yX12_newSecret cX12_newSecret 3 (some .int) 656 0 := ⟨⟨rf_at 2208 (by decide +kernel) (by decide +kernel), rf_at 2210 (by decide +kernel) (by decide +kernel), rf_sel (q := (yX12_newSecret, 122)) 131 (by decide +kernel) (by decide +kernel), cc_newSecret⟩, rfl, by decide +kernel⟩
noncomputable def bq_newSecret_137 (x2 : Int32) (ρ : rf_S) : Option (Int32 × rf_S) := bd2 (fq_comes x2 ρ) (fun r_7 ρ_6 => some (r_7, ρ_6))
set_option maxHeartbeats 4000000 in
theorem wq_newSecret_137 (C : rf_C D p s m args meth c cX12_newSecret 3 (some .int)) {r : Int32} {x2 : Int32} {ρ ρ' : rf_S} {H : Heap} {locs : List Loc} {ls : Array Slot} (h : bq_newSecret_137 x2 ρ = some (r, ρ')) (G : rf_G D h0 s ρ H locs) (hl : lv_has ls 3 [(0, .ref h0), (2, .int x2)]) : W p l e ({ frames := 3, cells := 0, slots := 0, locals := 74 }) s m args below meth c H locs 0 0 (MQ below (rf_Q D h0 (some (.int r)) ρ') args s 0 0 (rf_A h0)) (F0 m 137 ls []) := by
  unfold bq_newSecret_137 at h
  refine lv_aload_n C.1 C.2.1 dX12_newSecret_137 rfl (lv_at hl 0 rfl) ?_
  refine lv_iload_n C.1 C.2.1 dX12_newSecret_138 rfl (lv_at hl 1 rfl) ?_
  obtain ⟨r_7, ρ_6, hq, h⟩ := bd2_some h
  refine rf_callV (rest := []) C G cw_comes [.int x2] _ (kq_comes l D h0 hq) (Nat.le_of_ble_eq_true rfl) (Nat.le_of_ble_eq_true rfl) rfl rfl hl.1 (Nat.le_of_ble_eq_true rfl) (Nat.zero_le _) (Nat.zero_le _) dX12_newSecret_139 (fun H locs G => ?_)
  refine W.eq (g2 := F0 m 142 ls [.int r_7]) rfl ?_
  exact rf_iret C G h dX12_newSecret_142
noncomputable def bq_newSecret_80 (x1 : Int32) (ρ : rf_S) : Option (Int32 × rf_S) := bd2 (fq_term (2:Int32) (ρ.1 0 13) (0:Int32) (0:Int32) ρ) (fun r_4 ρ_3 => vl (rf_w ρ_3 0 13 ((ρ_3.1 0 13) + (1:Int32))) (fun ρ_5 => (if (ρ_5.1 0 79) = 0 then ix (((100:Int32) * (ρ_5.1 0 118)) + x1) 800 (vl (rf_w ρ_5 42 (((100:Int32) * (ρ_5.1 0 118)) + x1).toNatClampNeg r_4) (fun ρ_8 => ix (ρ_8.1 0 118) 8 (ix (ρ_8.1 0 118) 8 (vl (rf_w ρ_8 43 (ρ_8.1 0 118).toNatClampNeg ((ρ_8.1 43 (ρ_8.1 0 118).toNatClampNeg) + (1:Int32))) (fun ρ_9 => bq_newSecret_137 r_4 ρ_9))))) else bq_newSecret_137 r_4 ρ_5)))
set_option maxHeartbeats 4000000 in
theorem wq_newSecret_80 (C : rf_C D p s m args meth c cX12_newSecret 3 (some .int)) {r : Int32} {x1 : Int32} {ρ ρ' : rf_S} {H : Heap} {locs : List Loc} {ls : Array Slot} (h : bq_newSecret_80 x1 ρ = some (r, ρ')) (G : rf_G D h0 s ρ H locs) (hl : lv_has ls 3 [(0, .ref h0), (1, .int x1)]) : W p l e ({ frames := 3, cells := 0, slots := 0, locals := 74 }) s m args below meth c H locs 0 0 (MQ below (rf_Q D h0 (some (.int r)) ρ') args s 0 0 (rf_A h0)) (F0 m 80 ls []) := by
  unfold bq_newSecret_80 at h
  refine lv_aload_n C.1 C.2.1 dX12_newSecret_80 rfl (lv_at hl 0 rfl) ?_
  refine lv_iconst (v := (2:Int32)) C.1 C.2.1 dX12_newSecret_81 (by decide) ?_
  refine lv_aload_n C.1 C.2.1 dX12_newSecret_82 rfl (lv_at hl 0 rfl) ?_
  refine gf_13 C G dX12_newSecret_83 ?_
  refine lv_iconst (v := (0:Int32)) C.1 C.2.1 dX12_newSecret_86 (by decide) ?_
  refine lv_iconst (v := (0:Int32)) C.1 C.2.1 dX12_newSecret_87 (by decide) ?_
  obtain ⟨r_4, ρ_3, hq, h⟩ := bd2_some h
  refine rf_callV (rest := []) C G cw_term [.int (2:Int32), .int (ρ.1 0 13), .int (0:Int32), .int (0:Int32)] _ (kq_term l D h0 hq) (Nat.le_of_ble_eq_true rfl) (Nat.le_of_ble_eq_true rfl) rfl rfl hl.1 (Nat.le_of_ble_eq_true rfl) (Nat.zero_le _) (Nat.zero_le _) dX12_newSecret_88 (fun H locs G => ?_)
  refine W.eq (g2 := F0 m 91 ls [.int r_4]) rfl ?_
  refine lv_istore_n (lv' := [(2, .int r_4), (0, .ref h0), (1, .int x1)]) C.1 C.2.1 dX12_newSecret_91 rfl hl (by decide) rfl (fun ls hl => ?_)
  refine lv_aload_n C.1 C.2.1 dX12_newSecret_92 rfl (lv_at hl 1 rfl) ?_
  refine lv_dup C.1 C.2.1 dX12_newSecret_93 rfl ?_
  refine gf_13 C G dX12_newSecret_94 ?_
  refine lv_iconst (v := (1:Int32)) C.1 C.2.1 dX12_newSecret_97 (by decide) ?_
  refine lv_iadd C.1 C.2.1 dX12_newSecret_98 ?_
  refine pf_13 C G dX12_newSecret_99 (fun H locs G => ?_)
  refine rf_nm G h (fun ρ_5 G h => ?_)
  refine lv_aload_n C.1 C.2.1 dX12_newSecret_102 rfl (lv_at hl 1 rfl) ?_
  refine gf_79 C G dX12_newSecret_103 ?_
  refine lv_if_ne (tgt := 137) C.1 C.2.1 dX12_newSecret_106 (by decide) (fun hc => ?_) (fun hc => ?_)
  · rw [if_neg hc] at h
    exact wq_newSecret_137 C h G (lv_sub hl [1, 0] rfl)
  · rw [if_pos hc] at h
    refine lv_aload_n C.1 C.2.1 dX12_newSecret_109 rfl (lv_at hl 1 rfl) ?_
    refine gf_72 C G dX12_newSecret_110 ?_
    refine lv_bipush (v := (100:Int32)) C.1 C.2.1 dX12_newSecret_113 (by decide) ?_
    refine lv_aload_n C.1 C.2.1 dX12_newSecret_115 rfl (lv_at hl 1 rfl) ?_
    refine gf_118 C G dX12_newSecret_116 ?_
    refine lv_imul C.1 C.2.1 dX12_newSecret_119 ?_
    refine lv_iload_n C.1 C.2.1 dX12_newSecret_120 rfl (lv_at hl 2 rfl) ?_
    refine lv_iadd C.1 C.2.1 dX12_newSecret_121 ?_
    refine lv_iload_n C.1 C.2.1 dX12_newSecret_122 rfl (lv_at hl 0 rfl) ?_
    obtain ⟨hi, h⟩ := ix_some h
    refine rf_iast C G 42 rfl (by decide) rfl rfl hi dX12_newSecret_123 (fun H locs G => ?_)
    refine rf_nm G h (fun ρ_8 G h => ?_)
    refine lv_aload_n C.1 C.2.1 dX12_newSecret_124 rfl (lv_at hl 1 rfl) ?_
    refine gf_73 C G dX12_newSecret_125 ?_
    refine lv_aload_n C.1 C.2.1 dX12_newSecret_128 rfl (lv_at hl 1 rfl) ?_
    refine gf_118 C G dX12_newSecret_129 ?_
    refine lv_dup2_11 C.1 C.2.1 dX12_newSecret_132 rfl rfl ?_
    obtain ⟨hi, h⟩ := ix_some h
    refine rf_iald C G 43 rfl (by decide) rfl rfl hi dX12_newSecret_133 ?_
    refine lv_iconst (v := (1:Int32)) C.1 C.2.1 dX12_newSecret_134 (by decide) ?_
    refine lv_iadd C.1 C.2.1 dX12_newSecret_135 ?_
    obtain ⟨hi, h⟩ := ix_some h
    refine rf_iast C G 43 rfl (by decide) rfl rfl hi dX12_newSecret_136 (fun H locs G => ?_)
    refine rf_nm G h (fun ρ_9 G h => ?_)
    exact wq_newSecret_137 C h G (lv_sub hl [1, 0] rfl)
noncomputable def bq_newSecret_0  (ρ : rf_S) : Option (Int32 × rf_S) := ix (ρ.1 0 119) 16 ((if (ρ.1 61 (ρ.1 0 119).toNatClampNeg) = (100:Int32) then some ((-4:Int32), ρ) else ix (ρ.1 0 119) 16 (vl (ρ.1 70 (ρ.1 0 119).toNatClampNeg) (fun x1_1 => ix (ρ.1 0 119) 16 (ix (ρ.1 0 119) 16 (vl (rf_w ρ 70 (ρ.1 0 119).toNatClampNeg ((ρ.1 70 (ρ.1 0 119).toNatClampNeg) + (1:Int32))) (fun ρ_2 => (if (ρ_2.1 0 79) = (1:Int32) then ix (ρ_2.1 0 118) 8 ((if (ρ_2.1 43 (ρ_2.1 0 118).toNatClampNeg) ≤ x1_1 then bq_newSecret_80 x1_1 ρ_2 else ix (((100:Int32) * (ρ_2.1 0 118)) + x1_1) 800 (bd2 (fq_comes (ρ_2.1 42 (((100:Int32) * (ρ_2.1 0 118)) + x1_1).toNatClampNeg) ρ_2) (fun r_11 ρ_10 => some (r_11, ρ_10))))) else bq_newSecret_80 x1_1 ρ_2))))))))
set_option maxHeartbeats 4000000 in
theorem wq_newSecret_0 (C : rf_C D p s m args meth c cX12_newSecret 3 (some .int)) {r : Int32} {ρ ρ' : rf_S} {H : Heap} {locs : List Loc} {ls : Array Slot} (h : bq_newSecret_0 ρ = some (r, ρ')) (G : rf_G D h0 s ρ H locs) (hl : lv_has ls 3 [(0, .ref h0)]) : W p l e ({ frames := 3, cells := 0, slots := 0, locals := 74 }) s m args below meth c H locs 0 0 (MQ below (rf_Q D h0 (some (.int r)) ρ') args s 0 0 (rf_A h0)) (F0 m 0 ls []) := by
  unfold bq_newSecret_0 at h
  refine lv_aload_n C.1 C.2.1 dX12_newSecret_0 rfl (lv_at hl 0 rfl) ?_
  refine gf_93 C G dX12_newSecret_1 ?_
  refine lv_aload_n C.1 C.2.1 dX12_newSecret_4 rfl (lv_at hl 0 rfl) ?_
  refine gf_119 C G dX12_newSecret_5 ?_
  obtain ⟨hi, h⟩ := ix_some h
  refine rf_iald C G 61 rfl (by decide) rfl rfl hi dX12_newSecret_8 ?_
  refine lv_bipush (v := (100:Int32)) C.1 C.2.1 dX12_newSecret_9 (by decide) ?_
  refine lv_icmp_ne (tgt := 17) C.1 C.2.1 dX12_newSecret_11 (by decide) (fun hc => ?_) (fun hc => ?_)
  · rw [if_neg hc] at h
    refine lv_aload_n C.1 C.2.1 dX12_newSecret_17 rfl (lv_at hl 0 rfl) ?_
    refine gf_102 C G dX12_newSecret_18 ?_
    refine lv_aload_n C.1 C.2.1 dX12_newSecret_21 rfl (lv_at hl 0 rfl) ?_
    refine gf_119 C G dX12_newSecret_22 ?_
    obtain ⟨hi, h⟩ := ix_some h
    refine rf_iald C G 70 rfl (by decide) rfl rfl hi dX12_newSecret_25 ?_
    refine vt_i h (fun x1_1 h => ?_)
    refine lv_istore_n (lv' := [(1, .int x1_1), (0, .ref h0)]) C.1 C.2.1 dX12_newSecret_26 rfl hl (by decide) rfl (fun ls hl => ?_)
    refine lv_aload_n C.1 C.2.1 dX12_newSecret_27 rfl (lv_at hl 1 rfl) ?_
    refine gf_102 C G dX12_newSecret_28 ?_
    refine lv_aload_n C.1 C.2.1 dX12_newSecret_31 rfl (lv_at hl 1 rfl) ?_
    refine gf_119 C G dX12_newSecret_32 ?_
    refine lv_dup2_11 C.1 C.2.1 dX12_newSecret_35 rfl rfl ?_
    obtain ⟨hi, h⟩ := ix_some h
    refine rf_iald C G 70 rfl (by decide) rfl rfl hi dX12_newSecret_36 ?_
    refine lv_iconst (v := (1:Int32)) C.1 C.2.1 dX12_newSecret_37 (by decide) ?_
    refine lv_iadd C.1 C.2.1 dX12_newSecret_38 ?_
    obtain ⟨hi, h⟩ := ix_some h
    refine rf_iast C G 70 rfl (by decide) rfl rfl hi dX12_newSecret_39 (fun H locs G => ?_)
    refine rf_nm G h (fun ρ_2 G h => ?_)
    refine lv_aload_n C.1 C.2.1 dX12_newSecret_40 rfl (lv_at hl 1 rfl) ?_
    refine gf_79 C G dX12_newSecret_41 ?_
    refine lv_iconst (v := (1:Int32)) C.1 C.2.1 dX12_newSecret_44 (by decide) ?_
    refine lv_icmp_ne (tgt := 80) C.1 C.2.1 dX12_newSecret_45 (by decide) (fun hc => ?_) (fun hc => ?_)
    · rw [if_neg hc] at h
      exact wq_newSecret_80 C h G (lv_sub hl [1, 0] rfl)
    · rw [if_pos hc] at h
      refine lv_iload_n C.1 C.2.1 dX12_newSecret_48 rfl (lv_at hl 0 rfl) ?_
      refine lv_aload_n C.1 C.2.1 dX12_newSecret_49 rfl (lv_at hl 1 rfl) ?_
      refine gf_73 C G dX12_newSecret_50 ?_
      refine lv_aload_n C.1 C.2.1 dX12_newSecret_53 rfl (lv_at hl 1 rfl) ?_
      refine gf_118 C G dX12_newSecret_54 ?_
      obtain ⟨hi, h⟩ := ix_some h
      refine rf_iald C G 43 rfl (by decide) rfl rfl hi dX12_newSecret_57 ?_
      refine lv_icmp_ge (tgt := 80) C.1 C.2.1 dX12_newSecret_58 (by decide) (fun hc => ?_) (fun hc => ?_)
      · rw [if_pos hc] at h
        exact wq_newSecret_80 C h G (lv_sub hl [1, 0] rfl)
      · rw [if_neg hc] at h
        refine lv_aload_n C.1 C.2.1 dX12_newSecret_61 rfl (lv_at hl 1 rfl) ?_
        refine lv_aload_n C.1 C.2.1 dX12_newSecret_62 rfl (lv_at hl 1 rfl) ?_
        refine gf_72 C G dX12_newSecret_63 ?_
        refine lv_bipush (v := (100:Int32)) C.1 C.2.1 dX12_newSecret_66 (by decide) ?_
        refine lv_aload_n C.1 C.2.1 dX12_newSecret_68 rfl (lv_at hl 1 rfl) ?_
        refine gf_118 C G dX12_newSecret_69 ?_
        refine lv_imul C.1 C.2.1 dX12_newSecret_72 ?_
        refine lv_iload_n C.1 C.2.1 dX12_newSecret_73 rfl (lv_at hl 0 rfl) ?_
        refine lv_iadd C.1 C.2.1 dX12_newSecret_74 ?_
        obtain ⟨hi, h⟩ := ix_some h
        refine rf_iald C G 42 rfl (by decide) rfl rfl hi dX12_newSecret_75 ?_
        obtain ⟨r_11, ρ_10, hq, h⟩ := bd2_some h
        refine rf_callV (rest := []) C G cw_comes [.int (ρ_2.1 42 (((100:Int32) * (ρ_2.1 0 118)) + x1_1).toNatClampNeg)] _ (kq_comes l D h0 hq) (Nat.le_of_ble_eq_true rfl) (Nat.le_of_ble_eq_true rfl) rfl rfl hl.1 (Nat.le_of_ble_eq_true rfl) (Nat.zero_le _) (Nat.zero_le _) dX12_newSecret_76 (fun H locs G => ?_)
        refine W.eq (g2 := F0 m 79 ls [.int r_11]) rfl ?_
        exact rf_iret C G h dX12_newSecret_79
  · rw [if_pos hc] at h
    refine lv_bipush (v := (-4:Int32)) C.1 C.2.1 dX12_newSecret_14 (by decide) ?_
    exact rf_iret C G h dX12_newSecret_16
noncomputable def fq_newSecret  (ρ : rf_S) : Option (Int32 × rf_S) := bq_newSecret_0 ρ
theorem kq_newSecret (l : Launch) (D : rf_D) (h0 : Nat) {r : Int32} {ρ ρ' : rf_S} (h : fq_newSecret ρ = some (r, ρ')) : rf_Met l D h0 yX12_newSecret cX12_newSecret 3 (some .int) 3 74 [.ref h0] ρ (some (.int r)) ρ' :=
  rf_of rfl cc_newSecret (Nat.le_of_ble_eq_true rfl) (fun p e s m args below meth c ls C G hl => wq_newSecret_0 C h G hl)
abbrev cX12_askTerms : ByteArray := prog_14_method_90_code
def yX12_askTerms : MethodName := ⟨RX12, "askTerms", "(III)I"⟩
theorem dX12_askTerms_0 : decode cX12_askTerms 0 = .ok (.iload_n 1, 1) := by decide +kernel
theorem dX12_askTerms_1 : decode cX12_askTerms 1 = .ok (.bipush 13, 2) := by decide +kernel
theorem dX12_askTerms_3 : decode cX12_askTerms 3 = .ok (.if_icmp .ne 12, 3) := by decide +kernel
theorem dX12_askTerms_6 : decode cX12_askTerms 6 = .ok (.aload_n 0, 1) := by decide +kernel
theorem dX12_askTerms_7 : decode cX12_askTerms 7 = .ok (.iconst 0, 1) := by decide +kernel
theorem dX12_askTerms_8 : decode cX12_askTerms 8 = .ok (.iload_n 2, 1) := by decide +kernel
theorem dX12_askTerms_9 : decode cX12_askTerms 9 = .ok (.iconst 0, 1) := by decide +kernel
theorem dX12_askTerms_10 : decode cX12_askTerms 10 = .ok (.iconst 0, 1) := by decide +kernel
theorem dX12_askTerms_11 : decode cX12_askTerms 11 = .ok (.invokevirtual 654, 3) := by decide +kernel
theorem dX12_askTerms_14 : decode cX12_askTerms 14 = .ok (.ireturn, 1) := by decide +kernel
theorem dX12_askTerms_15 : decode cX12_askTerms 15 = .ok (.iload_n 1, 1) := by decide +kernel
theorem dX12_askTerms_16 : decode cX12_askTerms 16 = .ok (.bipush 21, 2) := by decide +kernel
theorem dX12_askTerms_18 : decode cX12_askTerms 18 = .ok (.if_icmp .ne 8, 3) := by decide +kernel
theorem dX12_askTerms_21 : decode cX12_askTerms 21 = .ok (.aload_n 0, 1) := by decide +kernel
theorem dX12_askTerms_22 : decode cX12_askTerms 22 = .ok (.invokevirtual 656, 3) := by decide +kernel
theorem dX12_askTerms_25 : decode cX12_askTerms 25 = .ok (.ireturn, 1) := by decide +kernel
theorem dX12_askTerms_26 : decode cX12_askTerms 26 = .ok (.iload_n 1, 1) := by decide +kernel
theorem dX12_askTerms_27 : decode cX12_askTerms 27 = .ok (.bipush 23, 2) := by decide +kernel
theorem dX12_askTerms_29 : decode cX12_askTerms 29 = .ok (.if_icmp .ne 66, 3) := by decide +kernel
theorem dX12_askTerms_32 : decode cX12_askTerms 32 = .ok (.aload_n 0, 1) := by decide +kernel
theorem dX12_askTerms_33 : decode cX12_askTerms 33 = .ok (.iload_n 2, 1) := by decide +kernel
theorem dX12_askTerms_34 : decode cX12_askTerms 34 = .ok (.invokevirtual 639, 3) := by decide +kernel
theorem dX12_askTerms_37 : decode cX12_askTerms 37 = .ok (.ifCond .eq 20, 3) := by decide +kernel
theorem dX12_askTerms_40 : decode cX12_askTerms 40 = .ok (.aload_n 0, 1) := by decide +kernel
theorem dX12_askTerms_41 : decode cX12_askTerms 41 = .ok (.getfield 8, 3) := by decide +kernel
theorem dX12_askTerms_44 : decode cX12_askTerms 44 = .ok (.aload_n 0, 1) := by decide +kernel
theorem dX12_askTerms_45 : decode cX12_askTerms 45 = .ok (.iload_n 2, 1) := by decide +kernel
theorem dX12_askTerms_46 : decode cX12_askTerms 46 = .ok (.invokevirtual 642, 3) := by decide +kernel
theorem dX12_askTerms_49 : decode cX12_askTerms 49 = .ok (.baload, 1) := by decide +kernel
theorem dX12_askTerms_50 : decode cX12_askTerms 50 = .ok (.ifCond .ne 7, 3) := by decide +kernel
theorem dX12_askTerms_53 : decode cX12_askTerms 53 = .ok (.iconst 1, 1) := by decide +kernel
theorem dX12_askTerms_54 : decode cX12_askTerms 54 = .ok (.goto 4, 3) := by decide +kernel
theorem dX12_askTerms_57 : decode cX12_askTerms 57 = .ok (.iconst 0, 1) := by decide +kernel
theorem dX12_askTerms_58 : decode cX12_askTerms 58 = .ok (.istore 4, 2) := by decide +kernel
theorem dX12_askTerms_60 : decode cX12_askTerms 60 = .ok (.aload_n 0, 1) := by decide +kernel
theorem dX12_askTerms_61 : decode cX12_askTerms 61 = .ok (.iconst 2, 1) := by decide +kernel
theorem dX12_askTerms_62 : decode cX12_askTerms 62 = .ok (.iload 4, 2) := by decide +kernel
theorem dX12_askTerms_64 : decode cX12_askTerms 64 = .ok (.ifCond .eq 7, 3) := by decide +kernel
theorem dX12_askTerms_67 : decode cX12_askTerms 67 = .ok (.iconst 1, 1) := by decide +kernel
theorem dX12_askTerms_68 : decode cX12_askTerms 68 = .ok (.goto 4, 3) := by decide +kernel
theorem dX12_askTerms_71 : decode cX12_askTerms 71 = .ok (.iconst 0, 1) := by decide +kernel
theorem dX12_askTerms_72 : decode cX12_askTerms 72 = .ok (.invokevirtual 586, 3) := by decide +kernel
theorem dX12_askTerms_75 : decode cX12_askTerms 75 = .ok (.iload 4, 2) := by decide +kernel
theorem dX12_askTerms_77 : decode cX12_askTerms 77 = .ok (.ifCond .eq 16, 3) := by decide +kernel
theorem dX12_askTerms_80 : decode cX12_askTerms 80 = .ok (.aload_n 0, 1) := by decide +kernel
theorem dX12_askTerms_81 : decode cX12_askTerms 81 = .ok (.getfield 14, 3) := by decide +kernel
theorem dX12_askTerms_84 : decode cX12_askTerms 84 = .ok (.aload_n 0, 1) := by decide +kernel
theorem dX12_askTerms_85 : decode cX12_askTerms 85 = .ok (.iload_n 2, 1) := by decide +kernel
theorem dX12_askTerms_86 : decode cX12_askTerms 86 = .ok (.invokevirtual 642, 3) := by decide +kernel
theorem dX12_askTerms_89 : decode cX12_askTerms 89 = .ok (.iaload, 1) := by decide +kernel
theorem dX12_askTerms_90 : decode cX12_askTerms 90 = .ok (.goto 4, 3) := by decide +kernel
theorem dX12_askTerms_93 : decode cX12_askTerms 93 = .ok (.iconst 0, 1) := by decide +kernel
theorem dX12_askTerms_94 : decode cX12_askTerms 94 = .ok (.ireturn, 1) := by decide +kernel
theorem dX12_askTerms_95 : decode cX12_askTerms 95 = .ok (.iload_n 1, 1) := by decide +kernel
theorem dX12_askTerms_96 : decode cX12_askTerms 96 = .ok (.bipush 14, 2) := by decide +kernel
theorem dX12_askTerms_98 : decode cX12_askTerms 98 = .ok (.if_icmp .eq 39, 3) := by decide +kernel
theorem dX12_askTerms_101 : decode cX12_askTerms 101 = .ok (.iload_n 1, 1) := by decide +kernel
theorem dX12_askTerms_102 : decode cX12_askTerms 102 = .ok (.bipush 16, 2) := by decide +kernel
theorem dX12_askTerms_104 : decode cX12_askTerms 104 = .ok (.if_icmp .eq 33, 3) := by decide +kernel
theorem dX12_askTerms_107 : decode cX12_askTerms 107 = .ok (.iload_n 1, 1) := by decide +kernel
theorem dX12_askTerms_108 : decode cX12_askTerms 108 = .ok (.bipush 18, 2) := by decide +kernel
theorem dX12_askTerms_110 : decode cX12_askTerms 110 = .ok (.if_icmp .eq 27, 3) := by decide +kernel
theorem dX12_askTerms_113 : decode cX12_askTerms 113 = .ok (.iload_n 1, 1) := by decide +kernel
theorem dX12_askTerms_114 : decode cX12_askTerms 114 = .ok (.bipush 19, 2) := by decide +kernel
theorem dX12_askTerms_116 : decode cX12_askTerms 116 = .ok (.if_icmp .eq 21, 3) := by decide +kernel
theorem dX12_askTerms_119 : decode cX12_askTerms 119 = .ok (.iload_n 1, 1) := by decide +kernel
theorem dX12_askTerms_120 : decode cX12_askTerms 120 = .ok (.bipush 20, 2) := by decide +kernel
theorem dX12_askTerms_122 : decode cX12_askTerms 122 = .ok (.if_icmp .eq 15, 3) := by decide +kernel
theorem dX12_askTerms_125 : decode cX12_askTerms 125 = .ok (.iload_n 1, 1) := by decide +kernel
theorem dX12_askTerms_126 : decode cX12_askTerms 126 = .ok (.bipush 27, 2) := by decide +kernel
theorem dX12_askTerms_128 : decode cX12_askTerms 128 = .ok (.if_icmp .eq 9, 3) := by decide +kernel
theorem dX12_askTerms_131 : decode cX12_askTerms 131 = .ok (.iload_n 1, 1) := by decide +kernel
theorem dX12_askTerms_132 : decode cX12_askTerms 132 = .ok (.bipush 28, 2) := by decide +kernel
theorem dX12_askTerms_134 : decode cX12_askTerms 134 = .ok (.if_icmp .ne 7, 3) := by decide +kernel
theorem dX12_askTerms_137 : decode cX12_askTerms 137 = .ok (.iconst 1, 1) := by decide +kernel
theorem dX12_askTerms_138 : decode cX12_askTerms 138 = .ok (.goto 4, 3) := by decide +kernel
theorem dX12_askTerms_141 : decode cX12_askTerms 141 = .ok (.iconst 0, 1) := by decide +kernel
theorem dX12_askTerms_142 : decode cX12_askTerms 142 = .ok (.istore 4, 2) := by decide +kernel
theorem dX12_askTerms_144 : decode cX12_askTerms 144 = .ok (.aload_n 0, 1) := by decide +kernel
theorem dX12_askTerms_145 : decode cX12_askTerms 145 = .ok (.iload_n 2, 1) := by decide +kernel
theorem dX12_askTerms_146 : decode cX12_askTerms 146 = .ok (.invokevirtual 639, 3) := by decide +kernel
theorem dX12_askTerms_149 : decode cX12_askTerms 149 = .ok (.ifCond .eq 34, 3) := by decide +kernel
theorem dX12_askTerms_152 : decode cX12_askTerms 152 = .ok (.iload 4, 2) := by decide +kernel
theorem dX12_askTerms_154 : decode cX12_askTerms 154 = .ok (.ifCond .eq 11, 3) := by decide +kernel
theorem dX12_askTerms_157 : decode cX12_askTerms 157 = .ok (.aload_n 0, 1) := by decide +kernel
theorem dX12_askTerms_158 : decode cX12_askTerms 158 = .ok (.iload_n 3, 1) := by decide +kernel
theorem dX12_askTerms_159 : decode cX12_askTerms 159 = .ok (.invokevirtual 639, 3) := by decide +kernel
theorem dX12_askTerms_162 : decode cX12_askTerms 162 = .ok (.ifCond .eq 21, 3) := by decide +kernel
theorem dX12_askTerms_165 : decode cX12_askTerms 165 = .ok (.iload_n 1, 1) := by decide +kernel
theorem dX12_askTerms_166 : decode cX12_askTerms 166 = .ok (.bipush 19, 2) := by decide +kernel
theorem dX12_askTerms_168 : decode cX12_askTerms 168 = .ok (.if_icmp .ne 18, 3) := by decide +kernel
theorem dX12_askTerms_171 : decode cX12_askTerms 171 = .ok (.aload_n 0, 1) := by decide +kernel
theorem dX12_askTerms_172 : decode cX12_askTerms 172 = .ok (.aload_n 0, 1) := by decide +kernel
theorem dX12_askTerms_173 : decode cX12_askTerms 173 = .ok (.iconst 3, 1) := by decide +kernel
theorem dX12_askTerms_174 : decode cX12_askTerms 174 = .ok (.invokevirtual 579, 3) := by decide +kernel
theorem dX12_askTerms_177 : decode cX12_askTerms 177 = .ok (.invokevirtual 639, 3) := by decide +kernel
theorem dX12_askTerms_180 : decode cX12_askTerms 180 = .ok (.ifCond .ne 6, 3) := by decide +kernel
theorem dX12_askTerms_183 : decode cX12_askTerms 183 = .ok (.bipush (-2), 2) := by decide +kernel
theorem dX12_askTerms_185 : decode cX12_askTerms 185 = .ok (.ireturn, 1) := by decide +kernel
theorem dX12_askTerms_186 : decode cX12_askTerms 186 = .ok (.aload_n 0, 1) := by decide +kernel
theorem dX12_askTerms_187 : decode cX12_askTerms 187 = .ok (.iload_n 2, 1) := by decide +kernel
theorem dX12_askTerms_188 : decode cX12_askTerms 188 = .ok (.invokevirtual 642, 3) := by decide +kernel
theorem dX12_askTerms_191 : decode cX12_askTerms 191 = .ok (.istore 5, 2) := by decide +kernel
theorem dX12_askTerms_193 : decode cX12_askTerms 193 = .ok (.iload_n 1, 1) := by decide +kernel
theorem dX12_askTerms_194 : decode cX12_askTerms 194 = .ok (.tableswitch 306 14 27 #[70, 84, 94, 108, 119, 134, 157, 306, 172, 306, 180, 180, 224, 253], 70) := by decide +kernel
theorem dX12_askTerms_264 : decode cX12_askTerms 264 = .ok (.aload_n 0, 1) := by decide +kernel
theorem dX12_askTerms_265 : decode cX12_askTerms 265 = .ok (.iconst 3, 1) := by decide +kernel
theorem dX12_askTerms_266 : decode cX12_askTerms 266 = .ok (.iload 5, 2) := by decide +kernel
theorem dX12_askTerms_268 : decode cX12_askTerms 268 = .ok (.aload_n 0, 1) := by decide +kernel
theorem dX12_askTerms_269 : decode cX12_askTerms 269 = .ok (.iload_n 3, 1) := by decide +kernel
theorem dX12_askTerms_270 : decode cX12_askTerms 270 = .ok (.invokevirtual 642, 3) := by decide +kernel
theorem dX12_askTerms_273 : decode cX12_askTerms 273 = .ok (.iconst 0, 1) := by decide +kernel
theorem dX12_askTerms_274 : decode cX12_askTerms 274 = .ok (.invokevirtual 654, 3) := by decide +kernel
theorem dX12_askTerms_277 : decode cX12_askTerms 277 = .ok (.ireturn, 1) := by decide +kernel
theorem dX12_askTerms_278 : decode cX12_askTerms 278 = .ok (.aload_n 0, 1) := by decide +kernel
theorem dX12_askTerms_279 : decode cX12_askTerms 279 = .ok (.iconst 4, 1) := by decide +kernel
theorem dX12_askTerms_280 : decode cX12_askTerms 280 = .ok (.iload 5, 2) := by decide +kernel
theorem dX12_askTerms_282 : decode cX12_askTerms 282 = .ok (.iconst 0, 1) := by decide +kernel
theorem dX12_askTerms_283 : decode cX12_askTerms 283 = .ok (.iconst 0, 1) := by decide +kernel
theorem dX12_askTerms_284 : decode cX12_askTerms 284 = .ok (.invokevirtual 654, 3) := by decide +kernel
theorem dX12_askTerms_287 : decode cX12_askTerms 287 = .ok (.ireturn, 1) := by decide +kernel
theorem dX12_askTerms_288 : decode cX12_askTerms 288 = .ok (.aload_n 0, 1) := by decide +kernel
theorem dX12_askTerms_289 : decode cX12_askTerms 289 = .ok (.iconst 5, 1) := by decide +kernel
theorem dX12_askTerms_290 : decode cX12_askTerms 290 = .ok (.iload 5, 2) := by decide +kernel
theorem dX12_askTerms_292 : decode cX12_askTerms 292 = .ok (.aload_n 0, 1) := by decide +kernel
theorem dX12_askTerms_293 : decode cX12_askTerms 293 = .ok (.iload_n 3, 1) := by decide +kernel
theorem dX12_askTerms_294 : decode cX12_askTerms 294 = .ok (.invokevirtual 642, 3) := by decide +kernel
theorem dX12_askTerms_297 : decode cX12_askTerms 297 = .ok (.iconst 0, 1) := by decide +kernel
theorem dX12_askTerms_298 : decode cX12_askTerms 298 = .ok (.invokevirtual 654, 3) := by decide +kernel
theorem dX12_askTerms_301 : decode cX12_askTerms 301 = .ok (.ireturn, 1) := by decide +kernel
theorem dX12_askTerms_302 : decode cX12_askTerms 302 = .ok (.aload_n 0, 1) := by decide +kernel
theorem dX12_askTerms_303 : decode cX12_askTerms 303 = .ok (.bipush 6, 2) := by decide +kernel
theorem dX12_askTerms_305 : decode cX12_askTerms 305 = .ok (.iload 5, 2) := by decide +kernel
theorem dX12_askTerms_307 : decode cX12_askTerms 307 = .ok (.iconst 0, 1) := by decide +kernel
theorem dX12_askTerms_308 : decode cX12_askTerms 308 = .ok (.iconst 0, 1) := by decide +kernel
theorem dX12_askTerms_309 : decode cX12_askTerms 309 = .ok (.invokevirtual 654, 3) := by decide +kernel
theorem dX12_askTerms_312 : decode cX12_askTerms 312 = .ok (.ireturn, 1) := by decide +kernel
theorem dX12_askTerms_313 : decode cX12_askTerms 313 = .ok (.aload_n 0, 1) := by decide +kernel
theorem dX12_askTerms_314 : decode cX12_askTerms 314 = .ok (.bipush 7, 2) := by decide +kernel
theorem dX12_askTerms_316 : decode cX12_askTerms 316 = .ok (.iload 5, 2) := by decide +kernel
theorem dX12_askTerms_318 : decode cX12_askTerms 318 = .ok (.aload_n 0, 1) := by decide +kernel
theorem dX12_askTerms_319 : decode cX12_askTerms 319 = .ok (.iload_n 3, 1) := by decide +kernel
theorem dX12_askTerms_320 : decode cX12_askTerms 320 = .ok (.invokevirtual 642, 3) := by decide +kernel
theorem dX12_askTerms_323 : decode cX12_askTerms 323 = .ok (.iconst 0, 1) := by decide +kernel
theorem dX12_askTerms_324 : decode cX12_askTerms 324 = .ok (.invokevirtual 654, 3) := by decide +kernel
theorem dX12_askTerms_327 : decode cX12_askTerms 327 = .ok (.ireturn, 1) := by decide +kernel
theorem dX12_askTerms_328 : decode cX12_askTerms 328 = .ok (.aload_n 0, 1) := by decide +kernel
theorem dX12_askTerms_329 : decode cX12_askTerms 329 = .ok (.bipush 8, 2) := by decide +kernel
theorem dX12_askTerms_331 : decode cX12_askTerms 331 = .ok (.iload 5, 2) := by decide +kernel
theorem dX12_askTerms_333 : decode cX12_askTerms 333 = .ok (.aload_n 0, 1) := by decide +kernel
theorem dX12_askTerms_334 : decode cX12_askTerms 334 = .ok (.iload_n 3, 1) := by decide +kernel
theorem dX12_askTerms_335 : decode cX12_askTerms 335 = .ok (.invokevirtual 642, 3) := by decide +kernel
theorem dX12_askTerms_338 : decode cX12_askTerms 338 = .ok (.aload_n 0, 1) := by decide +kernel
theorem dX12_askTerms_339 : decode cX12_askTerms 339 = .ok (.aload_n 0, 1) := by decide +kernel
theorem dX12_askTerms_340 : decode cX12_askTerms 340 = .ok (.iconst 3, 1) := by decide +kernel
theorem dX12_askTerms_341 : decode cX12_askTerms 341 = .ok (.invokevirtual 579, 3) := by decide +kernel
theorem dX12_askTerms_344 : decode cX12_askTerms 344 = .ok (.invokevirtual 642, 3) := by decide +kernel
theorem dX12_askTerms_347 : decode cX12_askTerms 347 = .ok (.invokevirtual 654, 3) := by decide +kernel
theorem dX12_askTerms_350 : decode cX12_askTerms 350 = .ok (.ireturn, 1) := by decide +kernel
theorem dX12_askTerms_351 : decode cX12_askTerms 351 = .ok (.aload_n 0, 1) := by decide +kernel
theorem dX12_askTerms_352 : decode cX12_askTerms 352 = .ok (.bipush 9, 2) := by decide +kernel
theorem dX12_askTerms_354 : decode cX12_askTerms 354 = .ok (.iload 5, 2) := by decide +kernel
theorem dX12_askTerms_356 : decode cX12_askTerms 356 = .ok (.aload_n 0, 1) := by decide +kernel
theorem dX12_askTerms_357 : decode cX12_askTerms 357 = .ok (.iload_n 3, 1) := by decide +kernel
theorem dX12_askTerms_358 : decode cX12_askTerms 358 = .ok (.invokevirtual 642, 3) := by decide +kernel
theorem dX12_askTerms_361 : decode cX12_askTerms 361 = .ok (.iconst 0, 1) := by decide +kernel
theorem dX12_askTerms_362 : decode cX12_askTerms 362 = .ok (.invokevirtual 654, 3) := by decide +kernel
theorem dX12_askTerms_365 : decode cX12_askTerms 365 = .ok (.ireturn, 1) := by decide +kernel
theorem dX12_askTerms_366 : decode cX12_askTerms 366 = .ok (.aload_n 0, 1) := by decide +kernel
theorem dX12_askTerms_367 : decode cX12_askTerms 367 = .ok (.getfield 8, 3) := by decide +kernel
theorem dX12_askTerms_370 : decode cX12_askTerms 370 = .ok (.iload 5, 2) := by decide +kernel
theorem dX12_askTerms_372 : decode cX12_askTerms 372 = .ok (.baload, 1) := by decide +kernel
theorem dX12_askTerms_373 : decode cX12_askTerms 373 = .ok (.ireturn, 1) := by decide +kernel
theorem dX12_askTerms_374 : decode cX12_askTerms 374 = .ok (.aload_n 0, 1) := by decide +kernel
theorem dX12_askTerms_375 : decode cX12_askTerms 375 = .ok (.getfield 8, 3) := by decide +kernel
theorem dX12_askTerms_378 : decode cX12_askTerms 378 = .ok (.iload 5, 2) := by decide +kernel
theorem dX12_askTerms_380 : decode cX12_askTerms 380 = .ok (.baload, 1) := by decide +kernel
theorem dX12_askTerms_381 : decode cX12_askTerms 381 = .ok (.iconst 3, 1) := by decide +kernel
theorem dX12_askTerms_382 : decode cX12_askTerms 382 = .ok (.if_icmp .ne 33, 3) := by decide +kernel
theorem dX12_askTerms_385 : decode cX12_askTerms 385 = .ok (.aload_n 0, 1) := by decide +kernel
theorem dX12_askTerms_386 : decode cX12_askTerms 386 = .ok (.iload_n 1, 1) := by decide +kernel
theorem dX12_askTerms_387 : decode cX12_askTerms 387 = .ok (.bipush 24, 2) := by decide +kernel
theorem dX12_askTerms_389 : decode cX12_askTerms 389 = .ok (.if_icmp .ne 13, 3) := by decide +kernel
theorem dX12_askTerms_392 : decode cX12_askTerms 392 = .ok (.aload_n 0, 1) := by decide +kernel
theorem dX12_askTerms_393 : decode cX12_askTerms 393 = .ok (.getfield 14, 3) := by decide +kernel
theorem dX12_askTerms_396 : decode cX12_askTerms 396 = .ok (.iload 5, 2) := by decide +kernel
theorem dX12_askTerms_398 : decode cX12_askTerms 398 = .ok (.iaload, 1) := by decide +kernel
theorem dX12_askTerms_399 : decode cX12_askTerms 399 = .ok (.goto 10, 3) := by decide +kernel
theorem dX12_askTerms_402 : decode cX12_askTerms 402 = .ok (.aload_n 0, 1) := by decide +kernel
theorem dX12_askTerms_403 : decode cX12_askTerms 403 = .ok (.getfield 18, 3) := by decide +kernel
theorem dX12_askTerms_406 : decode cX12_askTerms 406 = .ok (.iload 5, 2) := by decide +kernel
theorem dX12_askTerms_408 : decode cX12_askTerms 408 = .ok (.iaload, 1) := by decide +kernel
theorem dX12_askTerms_409 : decode cX12_askTerms 409 = .ok (.invokevirtual 610, 3) := by decide +kernel
theorem dX12_askTerms_412 : decode cX12_askTerms 412 = .ok (.goto 5, 3) := by decide +kernel
theorem dX12_askTerms_415 : decode cX12_askTerms 415 = .ok (.bipush (-3), 2) := by decide +kernel
theorem dX12_askTerms_417 : decode cX12_askTerms 417 = .ok (.ireturn, 1) := by decide +kernel
theorem dX12_askTerms_418 : decode cX12_askTerms 418 = .ok (.aload_n 0, 1) := by decide +kernel
theorem dX12_askTerms_419 : decode cX12_askTerms 419 = .ok (.getfield 8, 3) := by decide +kernel
theorem dX12_askTerms_422 : decode cX12_askTerms 422 = .ok (.iload 5, 2) := by decide +kernel
theorem dX12_askTerms_424 : decode cX12_askTerms 424 = .ok (.baload, 1) := by decide +kernel
theorem dX12_askTerms_425 : decode cX12_askTerms 425 = .ok (.bipush 7, 2) := by decide +kernel
theorem dX12_askTerms_427 : decode cX12_askTerms 427 = .ok (.if_icmp .ne 17, 3) := by decide +kernel
theorem dX12_askTerms_430 : decode cX12_askTerms 430 = .ok (.aload_n 0, 1) := by decide +kernel
theorem dX12_askTerms_431 : decode cX12_askTerms 431 = .ok (.aload_n 0, 1) := by decide +kernel
theorem dX12_askTerms_432 : decode cX12_askTerms 432 = .ok (.getfield 18, 3) := by decide +kernel
theorem dX12_askTerms_435 : decode cX12_askTerms 435 = .ok (.iload 5, 2) := by decide +kernel
theorem dX12_askTerms_437 : decode cX12_askTerms 437 = .ok (.iaload, 1) := by decide +kernel
theorem dX12_askTerms_438 : decode cX12_askTerms 438 = .ok (.invokevirtual 610, 3) := by decide +kernel
theorem dX12_askTerms_441 : decode cX12_askTerms 441 = .ok (.goto 5, 3) := by decide +kernel
theorem dX12_askTerms_444 : decode cX12_askTerms 444 = .ok (.bipush (-3), 2) := by decide +kernel
theorem dX12_askTerms_446 : decode cX12_askTerms 446 = .ok (.ireturn, 1) := by decide +kernel
theorem dX12_askTerms_447 : decode cX12_askTerms 447 = .ok (.aload_n 0, 1) := by decide +kernel
theorem dX12_askTerms_448 : decode cX12_askTerms 448 = .ok (.getfield 8, 3) := by decide +kernel
theorem dX12_askTerms_451 : decode cX12_askTerms 451 = .ok (.iload 5, 2) := by decide +kernel
theorem dX12_askTerms_453 : decode cX12_askTerms 453 = .ok (.baload, 1) := by decide +kernel
theorem dX12_askTerms_454 : decode cX12_askTerms 454 = .ok (.bipush 6, 2) := by decide +kernel
theorem dX12_askTerms_456 : decode cX12_askTerms 456 = .ok (.if_icmp .ne 42, 3) := by decide +kernel
theorem dX12_askTerms_459 : decode cX12_askTerms 459 = .ok (.aload_n 0, 1) := by decide +kernel
theorem dX12_askTerms_460 : decode cX12_askTerms 460 = .ok (.getfield 8, 3) := by decide +kernel
theorem dX12_askTerms_463 : decode cX12_askTerms 463 = .ok (.aload_n 0, 1) := by decide +kernel
theorem dX12_askTerms_464 : decode cX12_askTerms 464 = .ok (.iload_n 3, 1) := by decide +kernel
theorem dX12_askTerms_465 : decode cX12_askTerms 465 = .ok (.invokevirtual 642, 3) := by decide +kernel
theorem dX12_askTerms_468 : decode cX12_askTerms 468 = .ok (.baload, 1) := by decide +kernel
theorem dX12_askTerms_469 : decode cX12_askTerms 469 = .ok (.bipush 7, 2) := by decide +kernel
theorem dX12_askTerms_471 : decode cX12_askTerms 471 = .ok (.if_icmp .ne 27, 3) := by decide +kernel
theorem dX12_askTerms_474 : decode cX12_askTerms 474 = .ok (.aload_n 0, 1) := by decide +kernel
theorem dX12_askTerms_475 : decode cX12_askTerms 475 = .ok (.getfield 14, 3) := by decide +kernel
theorem dX12_askTerms_478 : decode cX12_askTerms 478 = .ok (.iload 5, 2) := by decide +kernel
theorem dX12_askTerms_480 : decode cX12_askTerms 480 = .ok (.iaload, 1) := by decide +kernel
theorem dX12_askTerms_481 : decode cX12_askTerms 481 = .ok (.aload_n 0, 1) := by decide +kernel
theorem dX12_askTerms_482 : decode cX12_askTerms 482 = .ok (.getfield 14, 3) := by decide +kernel
theorem dX12_askTerms_485 : decode cX12_askTerms 485 = .ok (.aload_n 0, 1) := by decide +kernel
theorem dX12_askTerms_486 : decode cX12_askTerms 486 = .ok (.iload_n 3, 1) := by decide +kernel
theorem dX12_askTerms_487 : decode cX12_askTerms 487 = .ok (.invokevirtual 642, 3) := by decide +kernel
theorem dX12_askTerms_490 : decode cX12_askTerms 490 = .ok (.iaload, 1) := by decide +kernel
theorem dX12_askTerms_491 : decode cX12_askTerms 491 = .ok (.if_icmp .ne 7, 3) := by decide +kernel
theorem dX12_askTerms_494 : decode cX12_askTerms 494 = .ok (.iconst 1, 1) := by decide +kernel
theorem dX12_askTerms_495 : decode cX12_askTerms 495 = .ok (.goto 4, 3) := by decide +kernel
theorem dX12_askTerms_498 : decode cX12_askTerms 498 = .ok (.iconst 0, 1) := by decide +kernel
theorem dX12_askTerms_499 : decode cX12_askTerms 499 = .ok (.ireturn, 1) := by decide +kernel
theorem dX12_askTerms_500 : decode cX12_askTerms 500 = .ok (.aload_n 0, 1) := by decide +kernel
theorem dX12_askTerms_501 : decode cX12_askTerms 501 = .ok (.getfield 8, 3) := by decide +kernel
theorem dX12_askTerms_504 : decode cX12_askTerms 504 = .ok (.aload_n 0, 1) := by decide +kernel
theorem dX12_askTerms_505 : decode cX12_askTerms 505 = .ok (.iload_n 3, 1) := by decide +kernel
theorem dX12_askTerms_506 : decode cX12_askTerms 506 = .ok (.invokevirtual 642, 3) := by decide +kernel
theorem dX12_askTerms_509 : decode cX12_askTerms 509 = .ok (.baload, 1) := by decide +kernel
theorem dX12_askTerms_510 : decode cX12_askTerms 510 = .ok (.bipush 8, 2) := by decide +kernel
theorem dX12_askTerms_512 : decode cX12_askTerms 512 = .ok (.if_icmp .ne 35, 3) := by decide +kernel
theorem dX12_askTerms_515 : decode cX12_askTerms 515 = .ok (.aload_n 0, 1) := by decide +kernel
theorem dX12_askTerms_516 : decode cX12_askTerms 516 = .ok (.getfield 14, 3) := by decide +kernel
theorem dX12_askTerms_519 : decode cX12_askTerms 519 = .ok (.aload_n 0, 1) := by decide +kernel
theorem dX12_askTerms_520 : decode cX12_askTerms 520 = .ok (.iload_n 3, 1) := by decide +kernel
theorem dX12_askTerms_521 : decode cX12_askTerms 521 = .ok (.invokevirtual 642, 3) := by decide +kernel
theorem dX12_askTerms_524 : decode cX12_askTerms 524 = .ok (.iaload, 1) := by decide +kernel
theorem dX12_askTerms_525 : decode cX12_askTerms 525 = .ok (.iload 5, 2) := by decide +kernel
theorem dX12_askTerms_527 : decode cX12_askTerms 527 = .ok (.if_icmp .ne 20, 3) := by decide +kernel
theorem dX12_askTerms_530 : decode cX12_askTerms 530 = .ok (.aload_n 0, 1) := by decide +kernel
theorem dX12_askTerms_531 : decode cX12_askTerms 531 = .ok (.aload_n 0, 1) := by decide +kernel
theorem dX12_askTerms_532 : decode cX12_askTerms 532 = .ok (.getfield 21, 3) := by decide +kernel
theorem dX12_askTerms_535 : decode cX12_askTerms 535 = .ok (.aload_n 0, 1) := by decide +kernel
theorem dX12_askTerms_536 : decode cX12_askTerms 536 = .ok (.iload_n 3, 1) := by decide +kernel
theorem dX12_askTerms_537 : decode cX12_askTerms 537 = .ok (.invokevirtual 642, 3) := by decide +kernel
theorem dX12_askTerms_540 : decode cX12_askTerms 540 = .ok (.iaload, 1) := by decide +kernel
theorem dX12_askTerms_541 : decode cX12_askTerms 541 = .ok (.invokevirtual 610, 3) := by decide +kernel
theorem dX12_askTerms_544 : decode cX12_askTerms 544 = .ok (.goto 5, 3) := by decide +kernel
theorem dX12_askTerms_547 : decode cX12_askTerms 547 = .ok (.bipush (-3), 2) := by decide +kernel
theorem dX12_askTerms_549 : decode cX12_askTerms 549 = .ok (.ireturn, 1) := by decide +kernel
theorem cc_askTerms : Cond.code yX12_askTerms cX12_askTerms 6 (some .int) ∈ rf_tb := rf_at 2203 (by decide +kernel) (by decide +kernel)
theorem cw_askTerms : rf_wV yX12_askTerms cX12_askTerms 6 (some .int) 616 3 := ⟨⟨rf_at 2200 (by decide +kernel) (by decide +kernel), rf_at 2202 (by decide +kernel) (by decide +kernel), rf_sel (q := (yX12_askTerms, 122)) 129 (by decide +kernel) (by decide +kernel), cc_askTerms⟩, rfl, by decide +kernel⟩
noncomputable def bq_askTerms_409 (v1 : Int32) (ρ : rf_S) : Option (Int32 × rf_S) := bd2 (fq_comes v1 ρ) (fun r_34 ρ_33 => some (r_34, ρ_33))
set_option maxHeartbeats 4000000 in
theorem wq_askTerms_409 (C : rf_C D p s m args meth c cX12_askTerms 6 (some .int)) {r : Int32} {v1 : Int32} {ρ ρ' : rf_S} {H : Heap} {locs : List Loc} {ls : Array Slot} (h : bq_askTerms_409 v1 ρ = some (r, ρ')) (G : rf_G D h0 s ρ H locs) (hl : lv_has ls 6 [(0, .ref h0)]) : W p l e ({ frames := 4, cells := 0, slots := 0, locals := 99 }) s m args below meth c H locs 0 0 (MQ below (rf_Q D h0 (some (.int r)) ρ') args s 0 0 (rf_A h0)) (F0 m 409 ls [.int v1, .ref h0]) := by
  unfold bq_askTerms_409 at h
  obtain ⟨r_34, ρ_33, hq, h⟩ := bd2_some h
  refine rf_callV (rest := []) C G cw_comes [.int v1] _ (kq_comes l D h0 hq) (Nat.le_of_ble_eq_true rfl) (Nat.le_of_ble_eq_true rfl) rfl rfl hl.1 (Nat.le_of_ble_eq_true rfl) (Nat.zero_le _) (Nat.zero_le _) dX12_askTerms_409 (fun H locs G => ?_)
  refine W.eq (g2 := F0 m 412 ls [.int r_34]) rfl ?_
  refine lv_goto (tgt := 417) C.1 C.2.1 dX12_askTerms_412 (by decide) ?_
  exact rf_iret C G h dX12_askTerms_417
noncomputable def bq_askTerms_374 (x1 : Int32) (x5 : Int32) (ρ : rf_S) : Option (Int32 × rf_S) := ix x5 112000 ((if (ρ.1 1 x5.toNatClampNeg) = (3:Int32) then (if x1 = (24:Int32) then ix x5 112000 (bq_askTerms_409 (ρ.1 2 x5.toNatClampNeg) ρ) else ix x5 112000 (bq_askTerms_409 (ρ.1 3 x5.toNatClampNeg) ρ)) else some ((-3:Int32), ρ)))
set_option maxHeartbeats 4000000 in
theorem wq_askTerms_374 (C : rf_C D p s m args meth c cX12_askTerms 6 (some .int)) {r : Int32} {x1 : Int32} {x5 : Int32} {ρ ρ' : rf_S} {H : Heap} {locs : List Loc} {ls : Array Slot} (h : bq_askTerms_374 x1 x5 ρ = some (r, ρ')) (G : rf_G D h0 s ρ H locs) (hl : lv_has ls 6 [(0, .ref h0), (1, .int x1), (5, .int x5)]) : W p l e ({ frames := 4, cells := 0, slots := 0, locals := 99 }) s m args below meth c H locs 0 0 (MQ below (rf_Q D h0 (some (.int r)) ρ') args s 0 0 (rf_A h0)) (F0 m 374 ls []) := by
  unfold bq_askTerms_374 at h
  refine lv_aload_n C.1 C.2.1 dX12_askTerms_374 rfl (lv_at hl 0 rfl) ?_
  refine gf_0 C G dX12_askTerms_375 ?_
  refine lv_iload C.1 C.2.1 dX12_askTerms_378 (lv_at hl 2 rfl) ?_
  obtain ⟨hi, h⟩ := ix_some h
  refine rf_bald C G 1 rfl (by decide) rfl rfl hi dX12_askTerms_380 ?_
  refine lv_iconst (v := (3:Int32)) C.1 C.2.1 dX12_askTerms_381 (by decide) ?_
  refine lv_icmp_ne (tgt := 415) C.1 C.2.1 dX12_askTerms_382 (by decide) (fun hc => ?_) (fun hc => ?_)
  · rw [if_neg hc] at h
    refine lv_bipush (v := (-3:Int32)) C.1 C.2.1 dX12_askTerms_415 (by decide) ?_
    exact rf_iret C G h dX12_askTerms_417
  · rw [if_pos hc] at h
    refine lv_aload_n C.1 C.2.1 dX12_askTerms_385 rfl (lv_at hl 0 rfl) ?_
    refine lv_iload_n C.1 C.2.1 dX12_askTerms_386 rfl (lv_at hl 1 rfl) ?_
    refine lv_bipush (v := (24:Int32)) C.1 C.2.1 dX12_askTerms_387 (by decide) ?_
    refine lv_icmp_ne (tgt := 402) C.1 C.2.1 dX12_askTerms_389 (by decide) (fun hc => ?_) (fun hc => ?_)
    · rw [if_neg hc] at h
      refine lv_aload_n C.1 C.2.1 dX12_askTerms_402 rfl (lv_at hl 0 rfl) ?_
      refine gf_2 C G dX12_askTerms_403 ?_
      refine lv_iload C.1 C.2.1 dX12_askTerms_406 (lv_at hl 2 rfl) ?_
      obtain ⟨hi, h⟩ := ix_some h
      refine rf_iald C G 3 rfl (by decide) rfl rfl hi dX12_askTerms_408 ?_
      exact wq_askTerms_409 C h G (lv_sub hl [0] rfl)
    · rw [if_pos hc] at h
      refine lv_aload_n C.1 C.2.1 dX12_askTerms_392 rfl (lv_at hl 0 rfl) ?_
      refine gf_1 C G dX12_askTerms_393 ?_
      refine lv_iload C.1 C.2.1 dX12_askTerms_396 (lv_at hl 2 rfl) ?_
      obtain ⟨hi, h⟩ := ix_some h
      refine rf_iald C G 2 rfl (by decide) rfl rfl hi dX12_askTerms_398 ?_
      refine lv_goto (tgt := 409) C.1 C.2.1 dX12_askTerms_399 (by decide) ?_
      exact wq_askTerms_409 C h G (lv_sub hl [0] rfl)
noncomputable def bq_askTerms_500 (x3 : Int32) (x5 : Int32) (ρ : rf_S) : Option (Int32 × rf_S) := bd2 (fq_of x3 ρ) (fun r_42 ρ_41 => ix r_42 112000 ((if (ρ_41.1 1 r_42.toNatClampNeg) = (8:Int32) then bd2 (fq_of x3 ρ_41) (fun r_44 ρ_43 => ix r_44 112000 ((if (ρ_43.1 2 r_44.toNatClampNeg) = x5 then bd2 (fq_of x3 ρ_43) (fun r_46 ρ_45 => ix r_46 112000 (bd2 (fq_comes (ρ_45.1 4 r_46.toNatClampNeg) ρ_45) (fun r_48 ρ_47 => some (r_48, ρ_47)))) else some ((-3:Int32), ρ_43)))) else some ((-3:Int32), ρ_41))))
set_option maxHeartbeats 4000000 in
theorem wq_askTerms_500 (C : rf_C D p s m args meth c cX12_askTerms 6 (some .int)) {r : Int32} {x3 : Int32} {x5 : Int32} {ρ ρ' : rf_S} {H : Heap} {locs : List Loc} {ls : Array Slot} (h : bq_askTerms_500 x3 x5 ρ = some (r, ρ')) (G : rf_G D h0 s ρ H locs) (hl : lv_has ls 6 [(0, .ref h0), (3, .int x3), (5, .int x5)]) : W p l e ({ frames := 4, cells := 0, slots := 0, locals := 99 }) s m args below meth c H locs 0 0 (MQ below (rf_Q D h0 (some (.int r)) ρ') args s 0 0 (rf_A h0)) (F0 m 500 ls []) := by
  unfold bq_askTerms_500 at h
  refine lv_aload_n C.1 C.2.1 dX12_askTerms_500 rfl (lv_at hl 0 rfl) ?_
  refine gf_0 C G dX12_askTerms_501 ?_
  refine lv_aload_n C.1 C.2.1 dX12_askTerms_504 rfl (lv_at hl 0 rfl) ?_
  refine lv_iload_n C.1 C.2.1 dX12_askTerms_505 rfl (lv_at hl 1 rfl) ?_
  obtain ⟨r_42, ρ_41, hq, h⟩ := bd2_some h
  refine rf_callV (rest := [.ref (h0 + 1)]) C G cw_of [.int x3] _ (kq_of l D h0 hq) (Nat.le_of_ble_eq_true rfl) (Nat.le_of_ble_eq_true rfl) rfl rfl hl.1 (Nat.le_of_ble_eq_true rfl) (Nat.zero_le _) (Nat.zero_le _) dX12_askTerms_506 (fun H locs G => ?_)
  refine W.eq (g2 := F0 m 509 ls [.int r_42, .ref (h0 + 1)]) rfl ?_
  obtain ⟨hi, h⟩ := ix_some h
  refine rf_bald C G 1 rfl (by decide) rfl rfl hi dX12_askTerms_509 ?_
  refine lv_bipush (v := (8:Int32)) C.1 C.2.1 dX12_askTerms_510 (by decide) ?_
  refine lv_icmp_ne (tgt := 547) C.1 C.2.1 dX12_askTerms_512 (by decide) (fun hc => ?_) (fun hc => ?_)
  · rw [if_neg hc] at h
    refine lv_bipush (v := (-3:Int32)) C.1 C.2.1 dX12_askTerms_547 (by decide) ?_
    exact rf_iret C G h dX12_askTerms_549
  · rw [if_pos hc] at h
    refine lv_aload_n C.1 C.2.1 dX12_askTerms_515 rfl (lv_at hl 0 rfl) ?_
    refine gf_1 C G dX12_askTerms_516 ?_
    refine lv_aload_n C.1 C.2.1 dX12_askTerms_519 rfl (lv_at hl 0 rfl) ?_
    refine lv_iload_n C.1 C.2.1 dX12_askTerms_520 rfl (lv_at hl 1 rfl) ?_
    obtain ⟨r_44, ρ_43, hq, h⟩ := bd2_some h
    refine rf_callV (rest := [.ref (h0 + 2)]) C G cw_of [.int x3] _ (kq_of l D h0 hq) (Nat.le_of_ble_eq_true rfl) (Nat.le_of_ble_eq_true rfl) rfl rfl hl.1 (Nat.le_of_ble_eq_true rfl) (Nat.zero_le _) (Nat.zero_le _) dX12_askTerms_521 (fun H locs G => ?_)
    refine W.eq (g2 := F0 m 524 ls [.int r_44, .ref (h0 + 2)]) rfl ?_
    obtain ⟨hi, h⟩ := ix_some h
    refine rf_iald C G 2 rfl (by decide) rfl rfl hi dX12_askTerms_524 ?_
    refine lv_iload C.1 C.2.1 dX12_askTerms_525 (lv_at hl 2 rfl) ?_
    refine lv_icmp_ne (tgt := 547) C.1 C.2.1 dX12_askTerms_527 (by decide) (fun hc => ?_) (fun hc => ?_)
    · rw [if_neg hc] at h
      refine lv_bipush (v := (-3:Int32)) C.1 C.2.1 dX12_askTerms_547 (by decide) ?_
      exact rf_iret C G h dX12_askTerms_549
    · rw [if_pos hc] at h
      refine lv_aload_n C.1 C.2.1 dX12_askTerms_530 rfl (lv_at hl 0 rfl) ?_
      refine lv_aload_n C.1 C.2.1 dX12_askTerms_531 rfl (lv_at hl 0 rfl) ?_
      refine gf_3 C G dX12_askTerms_532 ?_
      refine lv_aload_n C.1 C.2.1 dX12_askTerms_535 rfl (lv_at hl 0 rfl) ?_
      refine lv_iload_n C.1 C.2.1 dX12_askTerms_536 rfl (lv_at hl 1 rfl) ?_
      obtain ⟨r_46, ρ_45, hq, h⟩ := bd2_some h
      refine rf_callV (rest := [.ref (h0 + 4), .ref h0]) C G cw_of [.int x3] _ (kq_of l D h0 hq) (Nat.le_of_ble_eq_true rfl) (Nat.le_of_ble_eq_true rfl) rfl rfl hl.1 (Nat.le_of_ble_eq_true rfl) (Nat.zero_le _) (Nat.zero_le _) dX12_askTerms_537 (fun H locs G => ?_)
      refine W.eq (g2 := F0 m 540 ls [.int r_46, .ref (h0 + 4), .ref h0]) rfl ?_
      obtain ⟨hi, h⟩ := ix_some h
      refine rf_iald C G 4 rfl (by decide) rfl rfl hi dX12_askTerms_540 ?_
      obtain ⟨r_48, ρ_47, hq, h⟩ := bd2_some h
      refine rf_callV (rest := []) C G cw_comes [.int (ρ_45.1 4 r_46.toNatClampNeg)] _ (kq_comes l D h0 hq) (Nat.le_of_ble_eq_true rfl) (Nat.le_of_ble_eq_true rfl) rfl rfl hl.1 (Nat.le_of_ble_eq_true rfl) (Nat.zero_le _) (Nat.zero_le _) dX12_askTerms_541 (fun H locs G => ?_)
      refine W.eq (g2 := F0 m 544 ls [.int r_48]) rfl ?_
      refine lv_goto (tgt := 549) C.1 C.2.1 dX12_askTerms_544 (by decide) ?_
      exact rf_iret C G h dX12_askTerms_549
noncomputable def bq_askTerms_186 (x1 : Int32) (x2 : Int32) (x3 : Int32) (ρ : rf_S) : Option (Int32 × rf_S) := bd2 (fq_of x2 ρ) (fun r_4 ρ_3 => (if x1 = (14:Int32) then bd2 (fq_of x3 ρ_3) (fun r_6 ρ_5 => bd2 (fq_made (3:Int32) r_4 r_6 (0:Int32) ρ_5) (fun r_8 ρ_7 => some (r_8, ρ_7))) else if x1 = (15:Int32) then bd2 (fq_made (4:Int32) r_4 (0:Int32) (0:Int32) ρ_3) (fun r_10 ρ_9 => some (r_10, ρ_9)) else if x1 = (16:Int32) then bd2 (fq_of x3 ρ_3) (fun r_12 ρ_11 => bd2 (fq_made (5:Int32) r_4 r_12 (0:Int32) ρ_11) (fun r_14 ρ_13 => some (r_14, ρ_13))) else if x1 = (17:Int32) then bd2 (fq_made (6:Int32) r_4 (0:Int32) (0:Int32) ρ_3) (fun r_16 ρ_15 => some (r_16, ρ_15)) else if x1 = (18:Int32) then bd2 (fq_of x3 ρ_3) (fun r_18 ρ_17 => bd2 (fq_made (7:Int32) r_4 r_18 (0:Int32) ρ_17) (fun r_20 ρ_19 => some (r_20, ρ_19))) else if x1 = (19:Int32) then bd2 (fq_of x3 ρ_3) (fun r_22 ρ_21 => bd2 (fq_reg (3:Int32) ρ_21) (fun r_24 ρ_23 => bd2 (fq_of r_24 ρ_23) (fun r_26 ρ_25 => bd2 (fq_made (8:Int32) r_4 r_22 r_26 ρ_25) (fun r_28 ρ_27 => some (r_28, ρ_27))))) else if x1 = (20:Int32) then bd2 (fq_of x3 ρ_3) (fun r_30 ρ_29 => bd2 (fq_made (9:Int32) r_4 r_30 (0:Int32) ρ_29) (fun r_32 ρ_31 => some (r_32, ρ_31))) else if x1 = (22:Int32) then ix r_4 112000 (some ((ρ_3.1 1 r_4.toNatClampNeg), ρ_3)) else if x1 = (24:Int32) then bq_askTerms_374 x1 r_4 ρ_3 else if x1 = (25:Int32) then bq_askTerms_374 x1 r_4 ρ_3 else if x1 = (26:Int32) then ix r_4 112000 ((if (ρ_3.1 1 r_4.toNatClampNeg) = (7:Int32) then ix r_4 112000 (bd2 (fq_comes (ρ_3.1 3 r_4.toNatClampNeg) ρ_3) (fun r_36 ρ_35 => some (r_36, ρ_35))) else some ((-3:Int32), ρ_3))) else if x1 = (27:Int32) then ix r_4 112000 ((if (ρ_3.1 1 r_4.toNatClampNeg) = (6:Int32) then bd2 (fq_of x3 ρ_3) (fun r_38 ρ_37 => ix r_38 112000 ((if (ρ_37.1 1 r_38.toNatClampNeg) = (7:Int32) then ix r_4 112000 (bd2 (fq_of x3 ρ_37) (fun r_40 ρ_39 => ix r_40 112000 ((if (ρ_37.1 2 r_4.toNatClampNeg) = (ρ_39.1 2 r_40.toNatClampNeg) then some ((1:Int32), ρ_39) else some ((0:Int32), ρ_39))))) else some ((0:Int32), ρ_37)))) else some ((0:Int32), ρ_3))) else bq_askTerms_500 x3 r_4 ρ_3))
set_option maxHeartbeats 4000000 in
theorem wq_askTerms_186 (C : rf_C D p s m args meth c cX12_askTerms 6 (some .int)) {r : Int32} {x1 : Int32} {x2 : Int32} {x3 : Int32} {ρ ρ' : rf_S} {H : Heap} {locs : List Loc} {ls : Array Slot} (h : bq_askTerms_186 x1 x2 x3 ρ = some (r, ρ')) (G : rf_G D h0 s ρ H locs) (hl : lv_has ls 6 [(0, .ref h0), (1, .int x1), (2, .int x2), (3, .int x3)]) : W p l e ({ frames := 4, cells := 0, slots := 0, locals := 99 }) s m args below meth c H locs 0 0 (MQ below (rf_Q D h0 (some (.int r)) ρ') args s 0 0 (rf_A h0)) (F0 m 186 ls []) := by
  unfold bq_askTerms_186 at h
  refine lv_aload_n C.1 C.2.1 dX12_askTerms_186 rfl (lv_at hl 0 rfl) ?_
  refine lv_iload_n C.1 C.2.1 dX12_askTerms_187 rfl (lv_at hl 2 rfl) ?_
  obtain ⟨r_4, ρ_3, hq, h⟩ := bd2_some h
  refine rf_callV (rest := []) C G cw_of [.int x2] _ (kq_of l D h0 hq) (Nat.le_of_ble_eq_true rfl) (Nat.le_of_ble_eq_true rfl) rfl rfl hl.1 (Nat.le_of_ble_eq_true rfl) (Nat.zero_le _) (Nat.zero_le _) dX12_askTerms_188 (fun H locs G => ?_)
  refine W.eq (g2 := F0 m 191 ls [.int r_4]) rfl ?_
  refine lv_istore (lv' := [(5, .int r_4), (0, .ref h0), (1, .int x1), (2, .int x2), (3, .int x3)]) C.1 C.2.1 dX12_askTerms_191 hl (by decide) rfl (fun ls hl => ?_)
  refine lv_iload_n C.1 C.2.1 dX12_askTerms_193 rfl (lv_at hl 2 rfl) ?_
  by_cases hk14 : x1 = (14:Int32)
  · rw [if_pos hk14] at h
    refine lv_tableIn (tgt := 264) C.1 C.2.1 dX12_askTerms_194 (by rw [hk14]; decide) (by rw [hk14]; decide) (by rw [hk14]; rfl) (by decide) ?_
    refine lv_aload_n C.1 C.2.1 dX12_askTerms_264 rfl (lv_at hl 1 rfl) ?_
    refine lv_iconst (v := (3:Int32)) C.1 C.2.1 dX12_askTerms_265 (by decide) ?_
    refine lv_iload C.1 C.2.1 dX12_askTerms_266 (lv_at hl 0 rfl) ?_
    refine lv_aload_n C.1 C.2.1 dX12_askTerms_268 rfl (lv_at hl 1 rfl) ?_
    refine lv_iload_n C.1 C.2.1 dX12_askTerms_269 rfl (lv_at hl 4 rfl) ?_
    obtain ⟨r_6, ρ_5, hq, h⟩ := bd2_some h
    refine rf_callV (rest := [.int r_4, .int (3:Int32), .ref h0]) C G cw_of [.int x3] _ (kq_of l D h0 hq) (Nat.le_of_ble_eq_true rfl) (Nat.le_of_ble_eq_true rfl) rfl rfl hl.1 (Nat.le_of_ble_eq_true rfl) (Nat.zero_le _) (Nat.zero_le _) dX12_askTerms_270 (fun H locs G => ?_)
    refine W.eq (g2 := F0 m 273 ls [.int r_6, .int r_4, .int (3:Int32), .ref h0]) rfl ?_
    refine lv_iconst (v := (0:Int32)) C.1 C.2.1 dX12_askTerms_273 (by decide) ?_
    obtain ⟨r_8, ρ_7, hq, h⟩ := bd2_some h
    refine rf_callV (rest := []) C G cw_made [.int (3:Int32), .int r_4, .int r_6, .int (0:Int32)] _ (kq_made l D h0 hq) (Nat.le_of_ble_eq_true rfl) (Nat.le_of_ble_eq_true rfl) rfl rfl hl.1 (Nat.le_of_ble_eq_true rfl) (Nat.zero_le _) (Nat.zero_le _) dX12_askTerms_274 (fun H locs G => ?_)
    refine W.eq (g2 := F0 m 277 ls [.int r_8]) rfl ?_
    exact rf_iret C G h dX12_askTerms_277
  rw [if_neg hk14] at h
  by_cases hk15 : x1 = (15:Int32)
  · rw [if_pos hk15] at h
    refine lv_tableIn (tgt := 278) C.1 C.2.1 dX12_askTerms_194 (by rw [hk15]; decide) (by rw [hk15]; decide) (by rw [hk15]; rfl) (by decide) ?_
    refine lv_aload_n C.1 C.2.1 dX12_askTerms_278 rfl (lv_at hl 1 rfl) ?_
    refine lv_iconst (v := (4:Int32)) C.1 C.2.1 dX12_askTerms_279 (by decide) ?_
    refine lv_iload C.1 C.2.1 dX12_askTerms_280 (lv_at hl 0 rfl) ?_
    refine lv_iconst (v := (0:Int32)) C.1 C.2.1 dX12_askTerms_282 (by decide) ?_
    refine lv_iconst (v := (0:Int32)) C.1 C.2.1 dX12_askTerms_283 (by decide) ?_
    obtain ⟨r_10, ρ_9, hq, h⟩ := bd2_some h
    refine rf_callV (rest := []) C G cw_made [.int (4:Int32), .int r_4, .int (0:Int32), .int (0:Int32)] _ (kq_made l D h0 hq) (Nat.le_of_ble_eq_true rfl) (Nat.le_of_ble_eq_true rfl) rfl rfl hl.1 (Nat.le_of_ble_eq_true rfl) (Nat.zero_le _) (Nat.zero_le _) dX12_askTerms_284 (fun H locs G => ?_)
    refine W.eq (g2 := F0 m 287 ls [.int r_10]) rfl ?_
    exact rf_iret C G h dX12_askTerms_287
  rw [if_neg hk15] at h
  by_cases hk16 : x1 = (16:Int32)
  · rw [if_pos hk16] at h
    refine lv_tableIn (tgt := 288) C.1 C.2.1 dX12_askTerms_194 (by rw [hk16]; decide) (by rw [hk16]; decide) (by rw [hk16]; rfl) (by decide) ?_
    refine lv_aload_n C.1 C.2.1 dX12_askTerms_288 rfl (lv_at hl 1 rfl) ?_
    refine lv_iconst (v := (5:Int32)) C.1 C.2.1 dX12_askTerms_289 (by decide) ?_
    refine lv_iload C.1 C.2.1 dX12_askTerms_290 (lv_at hl 0 rfl) ?_
    refine lv_aload_n C.1 C.2.1 dX12_askTerms_292 rfl (lv_at hl 1 rfl) ?_
    refine lv_iload_n C.1 C.2.1 dX12_askTerms_293 rfl (lv_at hl 4 rfl) ?_
    obtain ⟨r_12, ρ_11, hq, h⟩ := bd2_some h
    refine rf_callV (rest := [.int r_4, .int (5:Int32), .ref h0]) C G cw_of [.int x3] _ (kq_of l D h0 hq) (Nat.le_of_ble_eq_true rfl) (Nat.le_of_ble_eq_true rfl) rfl rfl hl.1 (Nat.le_of_ble_eq_true rfl) (Nat.zero_le _) (Nat.zero_le _) dX12_askTerms_294 (fun H locs G => ?_)
    refine W.eq (g2 := F0 m 297 ls [.int r_12, .int r_4, .int (5:Int32), .ref h0]) rfl ?_
    refine lv_iconst (v := (0:Int32)) C.1 C.2.1 dX12_askTerms_297 (by decide) ?_
    obtain ⟨r_14, ρ_13, hq, h⟩ := bd2_some h
    refine rf_callV (rest := []) C G cw_made [.int (5:Int32), .int r_4, .int r_12, .int (0:Int32)] _ (kq_made l D h0 hq) (Nat.le_of_ble_eq_true rfl) (Nat.le_of_ble_eq_true rfl) rfl rfl hl.1 (Nat.le_of_ble_eq_true rfl) (Nat.zero_le _) (Nat.zero_le _) dX12_askTerms_298 (fun H locs G => ?_)
    refine W.eq (g2 := F0 m 301 ls [.int r_14]) rfl ?_
    exact rf_iret C G h dX12_askTerms_301
  rw [if_neg hk16] at h
  by_cases hk17 : x1 = (17:Int32)
  · rw [if_pos hk17] at h
    refine lv_tableIn (tgt := 302) C.1 C.2.1 dX12_askTerms_194 (by rw [hk17]; decide) (by rw [hk17]; decide) (by rw [hk17]; rfl) (by decide) ?_
    refine lv_aload_n C.1 C.2.1 dX12_askTerms_302 rfl (lv_at hl 1 rfl) ?_
    refine lv_bipush (v := (6:Int32)) C.1 C.2.1 dX12_askTerms_303 (by decide) ?_
    refine lv_iload C.1 C.2.1 dX12_askTerms_305 (lv_at hl 0 rfl) ?_
    refine lv_iconst (v := (0:Int32)) C.1 C.2.1 dX12_askTerms_307 (by decide) ?_
    refine lv_iconst (v := (0:Int32)) C.1 C.2.1 dX12_askTerms_308 (by decide) ?_
    obtain ⟨r_16, ρ_15, hq, h⟩ := bd2_some h
    refine rf_callV (rest := []) C G cw_made [.int (6:Int32), .int r_4, .int (0:Int32), .int (0:Int32)] _ (kq_made l D h0 hq) (Nat.le_of_ble_eq_true rfl) (Nat.le_of_ble_eq_true rfl) rfl rfl hl.1 (Nat.le_of_ble_eq_true rfl) (Nat.zero_le _) (Nat.zero_le _) dX12_askTerms_309 (fun H locs G => ?_)
    refine W.eq (g2 := F0 m 312 ls [.int r_16]) rfl ?_
    exact rf_iret C G h dX12_askTerms_312
  rw [if_neg hk17] at h
  by_cases hk18 : x1 = (18:Int32)
  · rw [if_pos hk18] at h
    refine lv_tableIn (tgt := 313) C.1 C.2.1 dX12_askTerms_194 (by rw [hk18]; decide) (by rw [hk18]; decide) (by rw [hk18]; rfl) (by decide) ?_
    refine lv_aload_n C.1 C.2.1 dX12_askTerms_313 rfl (lv_at hl 1 rfl) ?_
    refine lv_bipush (v := (7:Int32)) C.1 C.2.1 dX12_askTerms_314 (by decide) ?_
    refine lv_iload C.1 C.2.1 dX12_askTerms_316 (lv_at hl 0 rfl) ?_
    refine lv_aload_n C.1 C.2.1 dX12_askTerms_318 rfl (lv_at hl 1 rfl) ?_
    refine lv_iload_n C.1 C.2.1 dX12_askTerms_319 rfl (lv_at hl 4 rfl) ?_
    obtain ⟨r_18, ρ_17, hq, h⟩ := bd2_some h
    refine rf_callV (rest := [.int r_4, .int (7:Int32), .ref h0]) C G cw_of [.int x3] _ (kq_of l D h0 hq) (Nat.le_of_ble_eq_true rfl) (Nat.le_of_ble_eq_true rfl) rfl rfl hl.1 (Nat.le_of_ble_eq_true rfl) (Nat.zero_le _) (Nat.zero_le _) dX12_askTerms_320 (fun H locs G => ?_)
    refine W.eq (g2 := F0 m 323 ls [.int r_18, .int r_4, .int (7:Int32), .ref h0]) rfl ?_
    refine lv_iconst (v := (0:Int32)) C.1 C.2.1 dX12_askTerms_323 (by decide) ?_
    obtain ⟨r_20, ρ_19, hq, h⟩ := bd2_some h
    refine rf_callV (rest := []) C G cw_made [.int (7:Int32), .int r_4, .int r_18, .int (0:Int32)] _ (kq_made l D h0 hq) (Nat.le_of_ble_eq_true rfl) (Nat.le_of_ble_eq_true rfl) rfl rfl hl.1 (Nat.le_of_ble_eq_true rfl) (Nat.zero_le _) (Nat.zero_le _) dX12_askTerms_324 (fun H locs G => ?_)
    refine W.eq (g2 := F0 m 327 ls [.int r_20]) rfl ?_
    exact rf_iret C G h dX12_askTerms_327
  rw [if_neg hk18] at h
  by_cases hk19 : x1 = (19:Int32)
  · rw [if_pos hk19] at h
    refine lv_tableIn (tgt := 328) C.1 C.2.1 dX12_askTerms_194 (by rw [hk19]; decide) (by rw [hk19]; decide) (by rw [hk19]; rfl) (by decide) ?_
    refine lv_aload_n C.1 C.2.1 dX12_askTerms_328 rfl (lv_at hl 1 rfl) ?_
    refine lv_bipush (v := (8:Int32)) C.1 C.2.1 dX12_askTerms_329 (by decide) ?_
    refine lv_iload C.1 C.2.1 dX12_askTerms_331 (lv_at hl 0 rfl) ?_
    refine lv_aload_n C.1 C.2.1 dX12_askTerms_333 rfl (lv_at hl 1 rfl) ?_
    refine lv_iload_n C.1 C.2.1 dX12_askTerms_334 rfl (lv_at hl 4 rfl) ?_
    obtain ⟨r_22, ρ_21, hq, h⟩ := bd2_some h
    refine rf_callV (rest := [.int r_4, .int (8:Int32), .ref h0]) C G cw_of [.int x3] _ (kq_of l D h0 hq) (Nat.le_of_ble_eq_true rfl) (Nat.le_of_ble_eq_true rfl) rfl rfl hl.1 (Nat.le_of_ble_eq_true rfl) (Nat.zero_le _) (Nat.zero_le _) dX12_askTerms_335 (fun H locs G => ?_)
    refine W.eq (g2 := F0 m 338 ls [.int r_22, .int r_4, .int (8:Int32), .ref h0]) rfl ?_
    refine lv_aload_n C.1 C.2.1 dX12_askTerms_338 rfl (lv_at hl 1 rfl) ?_
    refine lv_aload_n C.1 C.2.1 dX12_askTerms_339 rfl (lv_at hl 1 rfl) ?_
    refine lv_iconst (v := (3:Int32)) C.1 C.2.1 dX12_askTerms_340 (by decide) ?_
    obtain ⟨r_24, ρ_23, hq, h⟩ := bd2_some h
    refine rf_callV (rest := [.ref h0, .int r_22, .int r_4, .int (8:Int32), .ref h0]) C G cw_reg [.int (3:Int32)] _ (kq_reg l D h0 hq) (Nat.le_of_ble_eq_true rfl) (Nat.le_of_ble_eq_true rfl) rfl rfl hl.1 (Nat.le_of_ble_eq_true rfl) (Nat.zero_le _) (Nat.zero_le _) dX12_askTerms_341 (fun H locs G => ?_)
    refine W.eq (g2 := F0 m 344 ls [.int r_24, .ref h0, .int r_22, .int r_4, .int (8:Int32), .ref h0]) rfl ?_
    obtain ⟨r_26, ρ_25, hq, h⟩ := bd2_some h
    refine rf_callV (rest := [.int r_22, .int r_4, .int (8:Int32), .ref h0]) C G cw_of [.int r_24] _ (kq_of l D h0 hq) (Nat.le_of_ble_eq_true rfl) (Nat.le_of_ble_eq_true rfl) rfl rfl hl.1 (Nat.le_of_ble_eq_true rfl) (Nat.zero_le _) (Nat.zero_le _) dX12_askTerms_344 (fun H locs G => ?_)
    refine W.eq (g2 := F0 m 347 ls [.int r_26, .int r_22, .int r_4, .int (8:Int32), .ref h0]) rfl ?_
    obtain ⟨r_28, ρ_27, hq, h⟩ := bd2_some h
    refine rf_callV (rest := []) C G cw_made [.int (8:Int32), .int r_4, .int r_22, .int r_26] _ (kq_made l D h0 hq) (Nat.le_of_ble_eq_true rfl) (Nat.le_of_ble_eq_true rfl) rfl rfl hl.1 (Nat.le_of_ble_eq_true rfl) (Nat.zero_le _) (Nat.zero_le _) dX12_askTerms_347 (fun H locs G => ?_)
    refine W.eq (g2 := F0 m 350 ls [.int r_28]) rfl ?_
    exact rf_iret C G h dX12_askTerms_350
  rw [if_neg hk19] at h
  by_cases hk20 : x1 = (20:Int32)
  · rw [if_pos hk20] at h
    refine lv_tableIn (tgt := 351) C.1 C.2.1 dX12_askTerms_194 (by rw [hk20]; decide) (by rw [hk20]; decide) (by rw [hk20]; rfl) (by decide) ?_
    refine lv_aload_n C.1 C.2.1 dX12_askTerms_351 rfl (lv_at hl 1 rfl) ?_
    refine lv_bipush (v := (9:Int32)) C.1 C.2.1 dX12_askTerms_352 (by decide) ?_
    refine lv_iload C.1 C.2.1 dX12_askTerms_354 (lv_at hl 0 rfl) ?_
    refine lv_aload_n C.1 C.2.1 dX12_askTerms_356 rfl (lv_at hl 1 rfl) ?_
    refine lv_iload_n C.1 C.2.1 dX12_askTerms_357 rfl (lv_at hl 4 rfl) ?_
    obtain ⟨r_30, ρ_29, hq, h⟩ := bd2_some h
    refine rf_callV (rest := [.int r_4, .int (9:Int32), .ref h0]) C G cw_of [.int x3] _ (kq_of l D h0 hq) (Nat.le_of_ble_eq_true rfl) (Nat.le_of_ble_eq_true rfl) rfl rfl hl.1 (Nat.le_of_ble_eq_true rfl) (Nat.zero_le _) (Nat.zero_le _) dX12_askTerms_358 (fun H locs G => ?_)
    refine W.eq (g2 := F0 m 361 ls [.int r_30, .int r_4, .int (9:Int32), .ref h0]) rfl ?_
    refine lv_iconst (v := (0:Int32)) C.1 C.2.1 dX12_askTerms_361 (by decide) ?_
    obtain ⟨r_32, ρ_31, hq, h⟩ := bd2_some h
    refine rf_callV (rest := []) C G cw_made [.int (9:Int32), .int r_4, .int r_30, .int (0:Int32)] _ (kq_made l D h0 hq) (Nat.le_of_ble_eq_true rfl) (Nat.le_of_ble_eq_true rfl) rfl rfl hl.1 (Nat.le_of_ble_eq_true rfl) (Nat.zero_le _) (Nat.zero_le _) dX12_askTerms_362 (fun H locs G => ?_)
    refine W.eq (g2 := F0 m 365 ls [.int r_32]) rfl ?_
    exact rf_iret C G h dX12_askTerms_365
  rw [if_neg hk20] at h
  by_cases hk22 : x1 = (22:Int32)
  · rw [if_pos hk22] at h
    refine lv_tableIn (tgt := 366) C.1 C.2.1 dX12_askTerms_194 (by rw [hk22]; decide) (by rw [hk22]; decide) (by rw [hk22]; rfl) (by decide) ?_
    refine lv_aload_n C.1 C.2.1 dX12_askTerms_366 rfl (lv_at hl 1 rfl) ?_
    refine gf_0 C G dX12_askTerms_367 ?_
    refine lv_iload C.1 C.2.1 dX12_askTerms_370 (lv_at hl 0 rfl) ?_
    obtain ⟨hi, h⟩ := ix_some h
    refine rf_bald C G 1 rfl (by decide) rfl rfl hi dX12_askTerms_372 ?_
    exact rf_iret C G h dX12_askTerms_373
  rw [if_neg hk22] at h
  by_cases hk24 : x1 = (24:Int32)
  · rw [if_pos hk24] at h
    refine lv_tableIn (tgt := 374) C.1 C.2.1 dX12_askTerms_194 (by rw [hk24]; decide) (by rw [hk24]; decide) (by rw [hk24]; rfl) (by decide) ?_
    exact wq_askTerms_374 C h G (lv_sub hl [1, 2, 0] rfl)
  rw [if_neg hk24] at h
  by_cases hk25 : x1 = (25:Int32)
  · rw [if_pos hk25] at h
    refine lv_tableIn (tgt := 374) C.1 C.2.1 dX12_askTerms_194 (by rw [hk25]; decide) (by rw [hk25]; decide) (by rw [hk25]; rfl) (by decide) ?_
    exact wq_askTerms_374 C h G (lv_sub hl [1, 2, 0] rfl)
  rw [if_neg hk25] at h
  by_cases hk26 : x1 = (26:Int32)
  · rw [if_pos hk26] at h
    refine lv_tableIn (tgt := 418) C.1 C.2.1 dX12_askTerms_194 (by rw [hk26]; decide) (by rw [hk26]; decide) (by rw [hk26]; rfl) (by decide) ?_
    refine lv_aload_n C.1 C.2.1 dX12_askTerms_418 rfl (lv_at hl 1 rfl) ?_
    refine gf_0 C G dX12_askTerms_419 ?_
    refine lv_iload C.1 C.2.1 dX12_askTerms_422 (lv_at hl 0 rfl) ?_
    obtain ⟨hi, h⟩ := ix_some h
    refine rf_bald C G 1 rfl (by decide) rfl rfl hi dX12_askTerms_424 ?_
    refine lv_bipush (v := (7:Int32)) C.1 C.2.1 dX12_askTerms_425 (by decide) ?_
    refine lv_icmp_ne (tgt := 444) C.1 C.2.1 dX12_askTerms_427 (by decide) (fun hc => ?_) (fun hc => ?_)
    · rw [if_neg hc] at h
      refine lv_bipush (v := (-3:Int32)) C.1 C.2.1 dX12_askTerms_444 (by decide) ?_
      exact rf_iret C G h dX12_askTerms_446
    · rw [if_pos hc] at h
      refine lv_aload_n C.1 C.2.1 dX12_askTerms_430 rfl (lv_at hl 1 rfl) ?_
      refine lv_aload_n C.1 C.2.1 dX12_askTerms_431 rfl (lv_at hl 1 rfl) ?_
      refine gf_2 C G dX12_askTerms_432 ?_
      refine lv_iload C.1 C.2.1 dX12_askTerms_435 (lv_at hl 0 rfl) ?_
      obtain ⟨hi, h⟩ := ix_some h
      refine rf_iald C G 3 rfl (by decide) rfl rfl hi dX12_askTerms_437 ?_
      obtain ⟨r_36, ρ_35, hq, h⟩ := bd2_some h
      refine rf_callV (rest := []) C G cw_comes [.int (ρ_3.1 3 r_4.toNatClampNeg)] _ (kq_comes l D h0 hq) (Nat.le_of_ble_eq_true rfl) (Nat.le_of_ble_eq_true rfl) rfl rfl hl.1 (Nat.le_of_ble_eq_true rfl) (Nat.zero_le _) (Nat.zero_le _) dX12_askTerms_438 (fun H locs G => ?_)
      refine W.eq (g2 := F0 m 441 ls [.int r_36]) rfl ?_
      refine lv_goto (tgt := 446) C.1 C.2.1 dX12_askTerms_441 (by decide) ?_
      exact rf_iret C G h dX12_askTerms_446
  rw [if_neg hk26] at h
  by_cases hk27 : x1 = (27:Int32)
  · rw [if_pos hk27] at h
    refine lv_tableIn (tgt := 447) C.1 C.2.1 dX12_askTerms_194 (by rw [hk27]; decide) (by rw [hk27]; decide) (by rw [hk27]; rfl) (by decide) ?_
    refine lv_aload_n C.1 C.2.1 dX12_askTerms_447 rfl (lv_at hl 1 rfl) ?_
    refine gf_0 C G dX12_askTerms_448 ?_
    refine lv_iload C.1 C.2.1 dX12_askTerms_451 (lv_at hl 0 rfl) ?_
    obtain ⟨hi, h⟩ := ix_some h
    refine rf_bald C G 1 rfl (by decide) rfl rfl hi dX12_askTerms_453 ?_
    refine lv_bipush (v := (6:Int32)) C.1 C.2.1 dX12_askTerms_454 (by decide) ?_
    refine lv_icmp_ne (tgt := 498) C.1 C.2.1 dX12_askTerms_456 (by decide) (fun hc => ?_) (fun hc => ?_)
    · rw [if_neg hc] at h
      refine lv_iconst (v := (0:Int32)) C.1 C.2.1 dX12_askTerms_498 (by decide) ?_
      exact rf_iret C G h dX12_askTerms_499
    · rw [if_pos hc] at h
      refine lv_aload_n C.1 C.2.1 dX12_askTerms_459 rfl (lv_at hl 1 rfl) ?_
      refine gf_0 C G dX12_askTerms_460 ?_
      refine lv_aload_n C.1 C.2.1 dX12_askTerms_463 rfl (lv_at hl 1 rfl) ?_
      refine lv_iload_n C.1 C.2.1 dX12_askTerms_464 rfl (lv_at hl 4 rfl) ?_
      obtain ⟨r_38, ρ_37, hq, h⟩ := bd2_some h
      refine rf_callV (rest := [.ref (h0 + 1)]) C G cw_of [.int x3] _ (kq_of l D h0 hq) (Nat.le_of_ble_eq_true rfl) (Nat.le_of_ble_eq_true rfl) rfl rfl hl.1 (Nat.le_of_ble_eq_true rfl) (Nat.zero_le _) (Nat.zero_le _) dX12_askTerms_465 (fun H locs G => ?_)
      refine W.eq (g2 := F0 m 468 ls [.int r_38, .ref (h0 + 1)]) rfl ?_
      obtain ⟨hi, h⟩ := ix_some h
      refine rf_bald C G 1 rfl (by decide) rfl rfl hi dX12_askTerms_468 ?_
      refine lv_bipush (v := (7:Int32)) C.1 C.2.1 dX12_askTerms_469 (by decide) ?_
      refine lv_icmp_ne (tgt := 498) C.1 C.2.1 dX12_askTerms_471 (by decide) (fun hc => ?_) (fun hc => ?_)
      · rw [if_neg hc] at h
        refine lv_iconst (v := (0:Int32)) C.1 C.2.1 dX12_askTerms_498 (by decide) ?_
        exact rf_iret C G h dX12_askTerms_499
      · rw [if_pos hc] at h
        refine lv_aload_n C.1 C.2.1 dX12_askTerms_474 rfl (lv_at hl 1 rfl) ?_
        refine gf_1 C G dX12_askTerms_475 ?_
        refine lv_iload C.1 C.2.1 dX12_askTerms_478 (lv_at hl 0 rfl) ?_
        obtain ⟨hi, h⟩ := ix_some h
        refine rf_iald C G 2 rfl (by decide) rfl rfl hi dX12_askTerms_480 ?_
        refine lv_aload_n C.1 C.2.1 dX12_askTerms_481 rfl (lv_at hl 1 rfl) ?_
        refine gf_1 C G dX12_askTerms_482 ?_
        refine lv_aload_n C.1 C.2.1 dX12_askTerms_485 rfl (lv_at hl 1 rfl) ?_
        refine lv_iload_n C.1 C.2.1 dX12_askTerms_486 rfl (lv_at hl 4 rfl) ?_
        obtain ⟨r_40, ρ_39, hq, h⟩ := bd2_some h
        refine rf_callV (rest := [.ref (h0 + 2), .int (ρ_37.1 2 r_4.toNatClampNeg)]) C G cw_of [.int x3] _ (kq_of l D h0 hq) (Nat.le_of_ble_eq_true rfl) (Nat.le_of_ble_eq_true rfl) rfl rfl hl.1 (Nat.le_of_ble_eq_true rfl) (Nat.zero_le _) (Nat.zero_le _) dX12_askTerms_487 (fun H locs G => ?_)
        refine W.eq (g2 := F0 m 490 ls [.int r_40, .ref (h0 + 2), .int (ρ_37.1 2 r_4.toNatClampNeg)]) rfl ?_
        obtain ⟨hi, h⟩ := ix_some h
        refine rf_iald C G 2 rfl (by decide) rfl rfl hi dX12_askTerms_490 ?_
        refine lv_icmp_ne (tgt := 498) C.1 C.2.1 dX12_askTerms_491 (by decide) (fun hc => ?_) (fun hc => ?_)
        · rw [if_neg hc] at h
          refine lv_iconst (v := (0:Int32)) C.1 C.2.1 dX12_askTerms_498 (by decide) ?_
          exact rf_iret C G h dX12_askTerms_499
        · rw [if_pos hc] at h
          refine lv_iconst (v := (1:Int32)) C.1 C.2.1 dX12_askTerms_494 (by decide) ?_
          refine lv_goto (tgt := 499) C.1 C.2.1 dX12_askTerms_495 (by decide) ?_
          exact rf_iret C G h dX12_askTerms_499
  rw [if_neg hk27] at h
  by_cases hk21 : x1 = (21:Int32)
  · refine lv_tableIn (tgt := 500) C.1 C.2.1 dX12_askTerms_194 (by rw [hk21]; decide) (by rw [hk21]; decide) (by rw [hk21]; rfl) (by decide) ?_
    exact wq_askTerms_500 C h G (lv_sub hl [1, 4, 0] rfl)
  by_cases hk23 : x1 = (23:Int32)
  · refine lv_tableIn (tgt := 500) C.1 C.2.1 dX12_askTerms_194 (by rw [hk23]; decide) (by rw [hk23]; decide) (by rw [hk23]; rfl) (by decide) ?_
    exact wq_askTerms_500 C h G (lv_sub hl [1, 4, 0] rfl)
  refine lv_tableOut (tgt := 500) C.1 C.2.1 dX12_askTerms_194 ?_ (by decide) ?_
  · rcases Int.lt_or_le x1.toInt 14 with q | q
    · exact Or.inl q
    · rcases Int.lt_or_le 27 x1.toInt with q2 | q2
      · exact Or.inr q2
      · exfalso
        have hd : x1.toInt = (14 : Int) ∨ x1.toInt = (15 : Int) ∨ x1.toInt = (16 : Int) ∨ x1.toInt = (17 : Int) ∨ x1.toInt = (18 : Int) ∨ x1.toInt = (19 : Int) ∨ x1.toInt = (20 : Int) ∨ x1.toInt = (21 : Int) ∨ x1.toInt = (22 : Int) ∨ x1.toInt = (23 : Int) ∨ x1.toInt = (24 : Int) ∨ x1.toInt = (25 : Int) ∨ x1.toInt = (26 : Int) ∨ x1.toInt = (27 : Int) := by omega
        rcases hd with e | e | e | e | e | e | e | e | e | e | e | e | e | e
        · exact hk14 (Int32.toInt_inj.mp (e.trans (by decide)))
        · exact hk15 (Int32.toInt_inj.mp (e.trans (by decide)))
        · exact hk16 (Int32.toInt_inj.mp (e.trans (by decide)))
        · exact hk17 (Int32.toInt_inj.mp (e.trans (by decide)))
        · exact hk18 (Int32.toInt_inj.mp (e.trans (by decide)))
        · exact hk19 (Int32.toInt_inj.mp (e.trans (by decide)))
        · exact hk20 (Int32.toInt_inj.mp (e.trans (by decide)))
        · exact hk21 (Int32.toInt_inj.mp (e.trans (by decide)))
        · exact hk22 (Int32.toInt_inj.mp (e.trans (by decide)))
        · exact hk23 (Int32.toInt_inj.mp (e.trans (by decide)))
        · exact hk24 (Int32.toInt_inj.mp (e.trans (by decide)))
        · exact hk25 (Int32.toInt_inj.mp (e.trans (by decide)))
        · exact hk26 (Int32.toInt_inj.mp (e.trans (by decide)))
        · exact hk27 (Int32.toInt_inj.mp (e.trans (by decide)))
  · exact wq_askTerms_500 C h G (lv_sub hl [1, 4, 0] rfl)
noncomputable def bq_askTerms_165 (x1 : Int32) (x2 : Int32) (x3 : Int32) (ρ : rf_S) : Option (Int32 × rf_S) := (if x1 = (19:Int32) then bd2 (fq_reg (3:Int32) ρ) (fun r_50 ρ_49 => bd2 (fq_isHandle r_50 ρ_49) (fun r_52 ρ_51 => (if r_52 = 0 then some ((-2:Int32), ρ_51) else bq_askTerms_186 x1 x2 x3 ρ_51))) else bq_askTerms_186 x1 x2 x3 ρ)
set_option maxHeartbeats 4000000 in
theorem wq_askTerms_165 (C : rf_C D p s m args meth c cX12_askTerms 6 (some .int)) {r : Int32} {x1 : Int32} {x2 : Int32} {x3 : Int32} {ρ ρ' : rf_S} {H : Heap} {locs : List Loc} {ls : Array Slot} (h : bq_askTerms_165 x1 x2 x3 ρ = some (r, ρ')) (G : rf_G D h0 s ρ H locs) (hl : lv_has ls 6 [(0, .ref h0), (1, .int x1), (2, .int x2), (3, .int x3)]) : W p l e ({ frames := 4, cells := 0, slots := 0, locals := 99 }) s m args below meth c H locs 0 0 (MQ below (rf_Q D h0 (some (.int r)) ρ') args s 0 0 (rf_A h0)) (F0 m 165 ls []) := by
  unfold bq_askTerms_165 at h
  refine lv_iload_n C.1 C.2.1 dX12_askTerms_165 rfl (lv_at hl 1 rfl) ?_
  refine lv_bipush (v := (19:Int32)) C.1 C.2.1 dX12_askTerms_166 (by decide) ?_
  refine lv_icmp_ne (tgt := 186) C.1 C.2.1 dX12_askTerms_168 (by decide) (fun hc => ?_) (fun hc => ?_)
  · rw [if_neg hc] at h
    exact wq_askTerms_186 C h G (lv_sub hl [0, 1, 2, 3] rfl)
  · rw [if_pos hc] at h
    refine lv_aload_n C.1 C.2.1 dX12_askTerms_171 rfl (lv_at hl 0 rfl) ?_
    refine lv_aload_n C.1 C.2.1 dX12_askTerms_172 rfl (lv_at hl 0 rfl) ?_
    refine lv_iconst (v := (3:Int32)) C.1 C.2.1 dX12_askTerms_173 (by decide) ?_
    obtain ⟨r_50, ρ_49, hq, h⟩ := bd2_some h
    refine rf_callV (rest := [.ref h0]) C G cw_reg [.int (3:Int32)] _ (kq_reg l D h0 hq) (Nat.le_of_ble_eq_true rfl) (Nat.le_of_ble_eq_true rfl) rfl rfl hl.1 (Nat.le_of_ble_eq_true rfl) (Nat.zero_le _) (Nat.zero_le _) dX12_askTerms_174 (fun H locs G => ?_)
    refine W.eq (g2 := F0 m 177 ls [.int r_50, .ref h0]) rfl ?_
    obtain ⟨r_52, ρ_51, hq, h⟩ := bd2_some h
    refine rf_callV (rest := []) C G cw_isHandle [.int r_50] _ (kq_isHandle l D h0 hq) (Nat.le_of_ble_eq_true rfl) (Nat.le_of_ble_eq_true rfl) rfl rfl hl.1 (Nat.le_of_ble_eq_true rfl) (Nat.zero_le _) (Nat.zero_le _) dX12_askTerms_177 (fun H locs G => ?_)
    refine W.eq (g2 := F0 m 180 ls [.int r_52]) rfl ?_
    refine lv_if_ne (tgt := 186) C.1 C.2.1 dX12_askTerms_180 (by decide) (fun hc => ?_) (fun hc => ?_)
    · rw [if_neg hc] at h
      exact wq_askTerms_186 C h G (lv_sub hl [0, 1, 2, 3] rfl)
    · rw [if_pos hc] at h
      refine lv_bipush (v := (-2:Int32)) C.1 C.2.1 dX12_askTerms_183 (by decide) ?_
      exact rf_iret C G h dX12_askTerms_185
noncomputable def bq_askTerms_142 (x1 : Int32) (x2 : Int32) (x3 : Int32) (v0 : Int32) (ρ : rf_S) : Option (Int32 × rf_S) := bd2 (fq_isHandle x2 ρ) (fun r_2 ρ_1 => (if r_2 = 0 then some ((-2:Int32), ρ_1) else (if v0 = 0 then bq_askTerms_165 x1 x2 x3 ρ_1 else bd2 (fq_isHandle x3 ρ_1) (fun r_54 ρ_53 => (if r_54 = 0 then some ((-2:Int32), ρ_53) else bq_askTerms_165 x1 x2 x3 ρ_53)))))
set_option maxHeartbeats 4000000 in
theorem wq_askTerms_142 (C : rf_C D p s m args meth c cX12_askTerms 6 (some .int)) {r : Int32} {x1 : Int32} {x2 : Int32} {x3 : Int32} {v0 : Int32} {ρ ρ' : rf_S} {H : Heap} {locs : List Loc} {ls : Array Slot} (h : bq_askTerms_142 x1 x2 x3 v0 ρ = some (r, ρ')) (G : rf_G D h0 s ρ H locs) (hl : lv_has ls 6 [(0, .ref h0), (1, .int x1), (2, .int x2), (3, .int x3)]) : W p l e ({ frames := 4, cells := 0, slots := 0, locals := 99 }) s m args below meth c H locs 0 0 (MQ below (rf_Q D h0 (some (.int r)) ρ') args s 0 0 (rf_A h0)) (F0 m 142 ls [.int v0]) := by
  unfold bq_askTerms_142 at h
  refine lv_istore (lv' := [(4, .int v0), (0, .ref h0), (1, .int x1), (2, .int x2), (3, .int x3)]) C.1 C.2.1 dX12_askTerms_142 hl (by decide) rfl (fun ls hl => ?_)
  refine lv_aload_n C.1 C.2.1 dX12_askTerms_144 rfl (lv_at hl 1 rfl) ?_
  refine lv_iload_n C.1 C.2.1 dX12_askTerms_145 rfl (lv_at hl 3 rfl) ?_
  obtain ⟨r_2, ρ_1, hq, h⟩ := bd2_some h
  refine rf_callV (rest := []) C G cw_isHandle [.int x2] _ (kq_isHandle l D h0 hq) (Nat.le_of_ble_eq_true rfl) (Nat.le_of_ble_eq_true rfl) rfl rfl hl.1 (Nat.le_of_ble_eq_true rfl) (Nat.zero_le _) (Nat.zero_le _) dX12_askTerms_146 (fun H locs G => ?_)
  refine W.eq (g2 := F0 m 149 ls [.int r_2]) rfl ?_
  refine lv_if_eq (tgt := 183) C.1 C.2.1 dX12_askTerms_149 (by decide) (fun hc => ?_) (fun hc => ?_)
  · rw [if_pos hc] at h
    refine lv_bipush (v := (-2:Int32)) C.1 C.2.1 dX12_askTerms_183 (by decide) ?_
    exact rf_iret C G h dX12_askTerms_185
  · rw [if_neg hc] at h
    refine lv_iload C.1 C.2.1 dX12_askTerms_152 (lv_at hl 0 rfl) ?_
    refine lv_if_eq (tgt := 165) C.1 C.2.1 dX12_askTerms_154 (by decide) (fun hc => ?_) (fun hc => ?_)
    · rw [if_pos hc] at h
      exact wq_askTerms_165 C h G (lv_sub hl [1, 2, 3, 4] rfl)
    · rw [if_neg hc] at h
      refine lv_aload_n C.1 C.2.1 dX12_askTerms_157 rfl (lv_at hl 1 rfl) ?_
      refine lv_iload_n C.1 C.2.1 dX12_askTerms_158 rfl (lv_at hl 4 rfl) ?_
      obtain ⟨r_54, ρ_53, hq, h⟩ := bd2_some h
      refine rf_callV (rest := []) C G cw_isHandle [.int x3] _ (kq_isHandle l D h0 hq) (Nat.le_of_ble_eq_true rfl) (Nat.le_of_ble_eq_true rfl) rfl rfl hl.1 (Nat.le_of_ble_eq_true rfl) (Nat.zero_le _) (Nat.zero_le _) dX12_askTerms_159 (fun H locs G => ?_)
      refine W.eq (g2 := F0 m 162 ls [.int r_54]) rfl ?_
      refine lv_if_eq (tgt := 183) C.1 C.2.1 dX12_askTerms_162 (by decide) (fun hc => ?_) (fun hc => ?_)
      · rw [if_pos hc] at h
        refine lv_bipush (v := (-2:Int32)) C.1 C.2.1 dX12_askTerms_183 (by decide) ?_
        exact rf_iret C G h dX12_askTerms_185
      · rw [if_neg hc] at h
        exact wq_askTerms_165 C h G (lv_sub hl [1, 2, 3, 4] rfl)
noncomputable def bq_askTerms_137 (x1 : Int32) (x2 : Int32) (x3 : Int32) (ρ : rf_S) : Option (Int32 × rf_S) := bq_askTerms_142 x1 x2 x3 (1:Int32) ρ
set_option maxHeartbeats 4000000 in
theorem wq_askTerms_137 (C : rf_C D p s m args meth c cX12_askTerms 6 (some .int)) {r : Int32} {x1 : Int32} {x2 : Int32} {x3 : Int32} {ρ ρ' : rf_S} {H : Heap} {locs : List Loc} {ls : Array Slot} (h : bq_askTerms_137 x1 x2 x3 ρ = some (r, ρ')) (G : rf_G D h0 s ρ H locs) (hl : lv_has ls 6 [(0, .ref h0), (1, .int x1), (2, .int x2), (3, .int x3)]) : W p l e ({ frames := 4, cells := 0, slots := 0, locals := 99 }) s m args below meth c H locs 0 0 (MQ below (rf_Q D h0 (some (.int r)) ρ') args s 0 0 (rf_A h0)) (F0 m 137 ls []) := by
  unfold bq_askTerms_137 at h
  refine lv_iconst (v := (1:Int32)) C.1 C.2.1 dX12_askTerms_137 (by decide) ?_
  refine lv_goto (tgt := 142) C.1 C.2.1 dX12_askTerms_138 (by decide) ?_
  exact wq_askTerms_142 C h G (lv_sub hl [0, 1, 2, 3] rfl)
noncomputable def bq_askTerms_72 (x2 : Int32) (x4 : Int32) (v1 : Int32) (v2 : Int32) (ρ : rf_S) : Option (Int32 × rf_S) := bd1 (fq_give v1 v2 ρ) (fun ρ_57 => (if x4 = 0 then some ((0:Int32), ρ_57) else bd2 (fq_of x2 ρ_57) (fun r_59 ρ_58 => ix r_59 112000 (some ((ρ_58.1 2 r_59.toNatClampNeg), ρ_58)))))
set_option maxHeartbeats 4000000 in
theorem wq_askTerms_72 (C : rf_C D p s m args meth c cX12_askTerms 6 (some .int)) {r : Int32} {x2 : Int32} {x4 : Int32} {v1 : Int32} {v2 : Int32} {ρ ρ' : rf_S} {H : Heap} {locs : List Loc} {ls : Array Slot} (h : bq_askTerms_72 x2 x4 v1 v2 ρ = some (r, ρ')) (G : rf_G D h0 s ρ H locs) (hl : lv_has ls 6 [(0, .ref h0), (2, .int x2), (4, .int x4)]) : W p l e ({ frames := 4, cells := 0, slots := 0, locals := 99 }) s m args below meth c H locs 0 0 (MQ below (rf_Q D h0 (some (.int r)) ρ') args s 0 0 (rf_A h0)) (F0 m 72 ls [.int v2, .int v1, .ref h0]) := by
  unfold bq_askTerms_72 at h
  obtain ⟨ρ_57, hq, h⟩ := bd1_some h
  refine rf_callV (rest := []) C G cw_give [.int v1, .int v2] _ (kq_give l D h0 hq) (Nat.le_of_ble_eq_true rfl) (Nat.le_of_ble_eq_true rfl) rfl rfl hl.1 (Nat.le_of_ble_eq_true rfl) (Nat.zero_le _) (Nat.zero_le _) dX12_askTerms_72 (fun H locs G => ?_)
  refine W.eq (g2 := F0 m 75 ls []) rfl ?_
  refine lv_iload C.1 C.2.1 dX12_askTerms_75 (lv_at hl 2 rfl) ?_
  refine lv_if_eq (tgt := 93) C.1 C.2.1 dX12_askTerms_77 (by decide) (fun hc => ?_) (fun hc => ?_)
  · rw [if_pos hc] at h
    refine lv_iconst (v := (0:Int32)) C.1 C.2.1 dX12_askTerms_93 (by decide) ?_
    exact rf_iret C G h dX12_askTerms_94
  · rw [if_neg hc] at h
    refine lv_aload_n C.1 C.2.1 dX12_askTerms_80 rfl (lv_at hl 0 rfl) ?_
    refine gf_1 C G dX12_askTerms_81 ?_
    refine lv_aload_n C.1 C.2.1 dX12_askTerms_84 rfl (lv_at hl 0 rfl) ?_
    refine lv_iload_n C.1 C.2.1 dX12_askTerms_85 rfl (lv_at hl 1 rfl) ?_
    obtain ⟨r_59, ρ_58, hq, h⟩ := bd2_some h
    refine rf_callV (rest := [.ref (h0 + 2)]) C G cw_of [.int x2] _ (kq_of l D h0 hq) (Nat.le_of_ble_eq_true rfl) (Nat.le_of_ble_eq_true rfl) rfl rfl hl.1 (Nat.le_of_ble_eq_true rfl) (Nat.zero_le _) (Nat.zero_le _) dX12_askTerms_86 (fun H locs G => ?_)
    refine W.eq (g2 := F0 m 89 ls [.int r_59, .ref (h0 + 2)]) rfl ?_
    obtain ⟨hi, h⟩ := ix_some h
    refine rf_iald C G 2 rfl (by decide) rfl rfl hi dX12_askTerms_89 ?_
    refine lv_goto (tgt := 94) C.1 C.2.1 dX12_askTerms_90 (by decide) ?_
    exact rf_iret C G h dX12_askTerms_94
noncomputable def bq_askTerms_58 (x2 : Int32) (v0 : Int32) (ρ : rf_S) : Option (Int32 × rf_S) := (if v0 = 0 then bq_askTerms_72 x2 v0 (2:Int32) (0:Int32) ρ else bq_askTerms_72 x2 v0 (2:Int32) (1:Int32) ρ)
set_option maxHeartbeats 4000000 in
theorem wq_askTerms_58 (C : rf_C D p s m args meth c cX12_askTerms 6 (some .int)) {r : Int32} {x2 : Int32} {v0 : Int32} {ρ ρ' : rf_S} {H : Heap} {locs : List Loc} {ls : Array Slot} (h : bq_askTerms_58 x2 v0 ρ = some (r, ρ')) (G : rf_G D h0 s ρ H locs) (hl : lv_has ls 6 [(0, .ref h0), (2, .int x2)]) : W p l e ({ frames := 4, cells := 0, slots := 0, locals := 99 }) s m args below meth c H locs 0 0 (MQ below (rf_Q D h0 (some (.int r)) ρ') args s 0 0 (rf_A h0)) (F0 m 58 ls [.int v0]) := by
  unfold bq_askTerms_58 at h
  refine lv_istore (lv' := [(4, .int v0), (0, .ref h0), (2, .int x2)]) C.1 C.2.1 dX12_askTerms_58 hl (by decide) rfl (fun ls hl => ?_)
  refine lv_aload_n C.1 C.2.1 dX12_askTerms_60 rfl (lv_at hl 1 rfl) ?_
  refine lv_iconst (v := (2:Int32)) C.1 C.2.1 dX12_askTerms_61 (by decide) ?_
  refine lv_iload C.1 C.2.1 dX12_askTerms_62 (lv_at hl 0 rfl) ?_
  refine lv_if_eq (tgt := 71) C.1 C.2.1 dX12_askTerms_64 (by decide) (fun hc => ?_) (fun hc => ?_)
  · rw [if_pos hc] at h
    refine lv_iconst (v := (0:Int32)) C.1 C.2.1 dX12_askTerms_71 (by decide) ?_
    exact wq_askTerms_72 C h G (lv_sub hl [1, 2, 0] rfl)
  · rw [if_neg hc] at h
    refine lv_iconst (v := (1:Int32)) C.1 C.2.1 dX12_askTerms_67 (by decide) ?_
    refine lv_goto (tgt := 72) C.1 C.2.1 dX12_askTerms_68 (by decide) ?_
    exact wq_askTerms_72 C h G (lv_sub hl [1, 2, 0] rfl)
noncomputable def bq_askTerms_57 (x2 : Int32) (ρ : rf_S) : Option (Int32 × rf_S) := bq_askTerms_58 x2 (0:Int32) ρ
set_option maxHeartbeats 4000000 in
theorem wq_askTerms_57 (C : rf_C D p s m args meth c cX12_askTerms 6 (some .int)) {r : Int32} {x2 : Int32} {ρ ρ' : rf_S} {H : Heap} {locs : List Loc} {ls : Array Slot} (h : bq_askTerms_57 x2 ρ = some (r, ρ')) (G : rf_G D h0 s ρ H locs) (hl : lv_has ls 6 [(0, .ref h0), (2, .int x2)]) : W p l e ({ frames := 4, cells := 0, slots := 0, locals := 99 }) s m args below meth c H locs 0 0 (MQ below (rf_Q D h0 (some (.int r)) ρ') args s 0 0 (rf_A h0)) (F0 m 57 ls []) := by
  unfold bq_askTerms_57 at h
  refine lv_iconst (v := (0:Int32)) C.1 C.2.1 dX12_askTerms_57 (by decide) ?_
  exact wq_askTerms_58 C h G (lv_sub hl [0, 1] rfl)
noncomputable def bq_askTerms_0 (x1 : Int32) (x2 : Int32) (x3 : Int32) (ρ : rf_S) : Option (Int32 × rf_S) := (if x1 = (13:Int32) then bd2 (fq_made (0:Int32) x2 (0:Int32) (0:Int32) ρ) (fun r_65 ρ_64 => some (r_65, ρ_64)) else (if x1 = (21:Int32) then bd2 (fq_newSecret ρ) (fun r_63 ρ_62 => some (r_63, ρ_62)) else (if x1 = (23:Int32) then bd2 (fq_isHandle x2 ρ) (fun r_56 ρ_55 => (if r_56 = 0 then bq_askTerms_57 x2 ρ_55 else bd2 (fq_of x2 ρ_55) (fun r_61 ρ_60 => ix r_61 112000 ((if (ρ_60.1 1 r_61.toNatClampNeg) = 0 then bq_askTerms_58 x2 (1:Int32) ρ_60 else bq_askTerms_57 x2 ρ_60))))) else (if x1 = (14:Int32) then bq_askTerms_137 x1 x2 x3 ρ else (if x1 = (16:Int32) then bq_askTerms_137 x1 x2 x3 ρ else (if x1 = (18:Int32) then bq_askTerms_137 x1 x2 x3 ρ else (if x1 = (19:Int32) then bq_askTerms_137 x1 x2 x3 ρ else (if x1 = (20:Int32) then bq_askTerms_137 x1 x2 x3 ρ else (if x1 = (27:Int32) then bq_askTerms_137 x1 x2 x3 ρ else (if x1 = (28:Int32) then bq_askTerms_137 x1 x2 x3 ρ else bq_askTerms_142 x1 x2 x3 (0:Int32) ρ))))))))))
set_option maxHeartbeats 4000000 in
theorem wq_askTerms_0 (C : rf_C D p s m args meth c cX12_askTerms 6 (some .int)) {r : Int32} {x1 : Int32} {x2 : Int32} {x3 : Int32} {ρ ρ' : rf_S} {H : Heap} {locs : List Loc} {ls : Array Slot} (h : bq_askTerms_0 x1 x2 x3 ρ = some (r, ρ')) (G : rf_G D h0 s ρ H locs) (hl : lv_has ls 6 [(0, .ref h0), (1, .int x1), (2, .int x2), (3, .int x3)]) : W p l e ({ frames := 4, cells := 0, slots := 0, locals := 99 }) s m args below meth c H locs 0 0 (MQ below (rf_Q D h0 (some (.int r)) ρ') args s 0 0 (rf_A h0)) (F0 m 0 ls []) := by
  unfold bq_askTerms_0 at h
  refine lv_iload_n C.1 C.2.1 dX12_askTerms_0 rfl (lv_at hl 1 rfl) ?_
  refine lv_bipush (v := (13:Int32)) C.1 C.2.1 dX12_askTerms_1 (by decide) ?_
  refine lv_icmp_ne (tgt := 15) C.1 C.2.1 dX12_askTerms_3 (by decide) (fun hc => ?_) (fun hc => ?_)
  · rw [if_neg hc] at h
    refine lv_iload_n C.1 C.2.1 dX12_askTerms_15 rfl (lv_at hl 1 rfl) ?_
    refine lv_bipush (v := (21:Int32)) C.1 C.2.1 dX12_askTerms_16 (by decide) ?_
    refine lv_icmp_ne (tgt := 26) C.1 C.2.1 dX12_askTerms_18 (by decide) (fun hc => ?_) (fun hc => ?_)
    · rw [if_neg hc] at h
      refine lv_iload_n C.1 C.2.1 dX12_askTerms_26 rfl (lv_at hl 1 rfl) ?_
      refine lv_bipush (v := (23:Int32)) C.1 C.2.1 dX12_askTerms_27 (by decide) ?_
      refine lv_icmp_ne (tgt := 95) C.1 C.2.1 dX12_askTerms_29 (by decide) (fun hc => ?_) (fun hc => ?_)
      · rw [if_neg hc] at h
        refine lv_iload_n C.1 C.2.1 dX12_askTerms_95 rfl (lv_at hl 1 rfl) ?_
        refine lv_bipush (v := (14:Int32)) C.1 C.2.1 dX12_askTerms_96 (by decide) ?_
        refine lv_icmp_eq (tgt := 137) C.1 C.2.1 dX12_askTerms_98 (by decide) (fun hc => ?_) (fun hc => ?_)
        · rw [if_pos hc] at h
          exact wq_askTerms_137 C h G (lv_sub hl [0, 1, 2, 3] rfl)
        · rw [if_neg hc] at h
          refine lv_iload_n C.1 C.2.1 dX12_askTerms_101 rfl (lv_at hl 1 rfl) ?_
          refine lv_bipush (v := (16:Int32)) C.1 C.2.1 dX12_askTerms_102 (by decide) ?_
          refine lv_icmp_eq (tgt := 137) C.1 C.2.1 dX12_askTerms_104 (by decide) (fun hc => ?_) (fun hc => ?_)
          · rw [if_pos hc] at h
            exact wq_askTerms_137 C h G (lv_sub hl [0, 1, 2, 3] rfl)
          · rw [if_neg hc] at h
            refine lv_iload_n C.1 C.2.1 dX12_askTerms_107 rfl (lv_at hl 1 rfl) ?_
            refine lv_bipush (v := (18:Int32)) C.1 C.2.1 dX12_askTerms_108 (by decide) ?_
            refine lv_icmp_eq (tgt := 137) C.1 C.2.1 dX12_askTerms_110 (by decide) (fun hc => ?_) (fun hc => ?_)
            · rw [if_pos hc] at h
              exact wq_askTerms_137 C h G (lv_sub hl [0, 1, 2, 3] rfl)
            · rw [if_neg hc] at h
              refine lv_iload_n C.1 C.2.1 dX12_askTerms_113 rfl (lv_at hl 1 rfl) ?_
              refine lv_bipush (v := (19:Int32)) C.1 C.2.1 dX12_askTerms_114 (by decide) ?_
              refine lv_icmp_eq (tgt := 137) C.1 C.2.1 dX12_askTerms_116 (by decide) (fun hc => ?_) (fun hc => ?_)
              · rw [if_pos hc] at h
                exact wq_askTerms_137 C h G (lv_sub hl [0, 1, 2, 3] rfl)
              · rw [if_neg hc] at h
                refine lv_iload_n C.1 C.2.1 dX12_askTerms_119 rfl (lv_at hl 1 rfl) ?_
                refine lv_bipush (v := (20:Int32)) C.1 C.2.1 dX12_askTerms_120 (by decide) ?_
                refine lv_icmp_eq (tgt := 137) C.1 C.2.1 dX12_askTerms_122 (by decide) (fun hc => ?_) (fun hc => ?_)
                · rw [if_pos hc] at h
                  exact wq_askTerms_137 C h G (lv_sub hl [0, 1, 2, 3] rfl)
                · rw [if_neg hc] at h
                  refine lv_iload_n C.1 C.2.1 dX12_askTerms_125 rfl (lv_at hl 1 rfl) ?_
                  refine lv_bipush (v := (27:Int32)) C.1 C.2.1 dX12_askTerms_126 (by decide) ?_
                  refine lv_icmp_eq (tgt := 137) C.1 C.2.1 dX12_askTerms_128 (by decide) (fun hc => ?_) (fun hc => ?_)
                  · rw [if_pos hc] at h
                    exact wq_askTerms_137 C h G (lv_sub hl [0, 1, 2, 3] rfl)
                  · rw [if_neg hc] at h
                    refine lv_iload_n C.1 C.2.1 dX12_askTerms_131 rfl (lv_at hl 1 rfl) ?_
                    refine lv_bipush (v := (28:Int32)) C.1 C.2.1 dX12_askTerms_132 (by decide) ?_
                    refine lv_icmp_ne (tgt := 141) C.1 C.2.1 dX12_askTerms_134 (by decide) (fun hc => ?_) (fun hc => ?_)
                    · rw [if_neg hc] at h
                      refine lv_iconst (v := (0:Int32)) C.1 C.2.1 dX12_askTerms_141 (by decide) ?_
                      exact wq_askTerms_142 C h G (lv_sub hl [0, 1, 2, 3] rfl)
                    · rw [if_pos hc] at h
                      exact wq_askTerms_137 C h G (lv_sub hl [0, 1, 2, 3] rfl)
      · rw [if_pos hc] at h
        refine lv_aload_n C.1 C.2.1 dX12_askTerms_32 rfl (lv_at hl 0 rfl) ?_
        refine lv_iload_n C.1 C.2.1 dX12_askTerms_33 rfl (lv_at hl 2 rfl) ?_
        obtain ⟨r_56, ρ_55, hq, h⟩ := bd2_some h
        refine rf_callV (rest := []) C G cw_isHandle [.int x2] _ (kq_isHandle l D h0 hq) (Nat.le_of_ble_eq_true rfl) (Nat.le_of_ble_eq_true rfl) rfl rfl hl.1 (Nat.le_of_ble_eq_true rfl) (Nat.zero_le _) (Nat.zero_le _) dX12_askTerms_34 (fun H locs G => ?_)
        refine W.eq (g2 := F0 m 37 ls [.int r_56]) rfl ?_
        refine lv_if_eq (tgt := 57) C.1 C.2.1 dX12_askTerms_37 (by decide) (fun hc => ?_) (fun hc => ?_)
        · rw [if_pos hc] at h
          exact wq_askTerms_57 C h G (lv_sub hl [0, 2] rfl)
        · rw [if_neg hc] at h
          refine lv_aload_n C.1 C.2.1 dX12_askTerms_40 rfl (lv_at hl 0 rfl) ?_
          refine gf_0 C G dX12_askTerms_41 ?_
          refine lv_aload_n C.1 C.2.1 dX12_askTerms_44 rfl (lv_at hl 0 rfl) ?_
          refine lv_iload_n C.1 C.2.1 dX12_askTerms_45 rfl (lv_at hl 2 rfl) ?_
          obtain ⟨r_61, ρ_60, hq, h⟩ := bd2_some h
          refine rf_callV (rest := [.ref (h0 + 1)]) C G cw_of [.int x2] _ (kq_of l D h0 hq) (Nat.le_of_ble_eq_true rfl) (Nat.le_of_ble_eq_true rfl) rfl rfl hl.1 (Nat.le_of_ble_eq_true rfl) (Nat.zero_le _) (Nat.zero_le _) dX12_askTerms_46 (fun H locs G => ?_)
          refine W.eq (g2 := F0 m 49 ls [.int r_61, .ref (h0 + 1)]) rfl ?_
          obtain ⟨hi, h⟩ := ix_some h
          refine rf_bald C G 1 rfl (by decide) rfl rfl hi dX12_askTerms_49 ?_
          refine lv_if_ne (tgt := 57) C.1 C.2.1 dX12_askTerms_50 (by decide) (fun hc => ?_) (fun hc => ?_)
          · rw [if_neg hc] at h
            exact wq_askTerms_57 C h G (lv_sub hl [0, 2] rfl)
          · rw [if_pos hc] at h
            refine lv_iconst (v := (1:Int32)) C.1 C.2.1 dX12_askTerms_53 (by decide) ?_
            refine lv_goto (tgt := 58) C.1 C.2.1 dX12_askTerms_54 (by decide) ?_
            exact wq_askTerms_58 C h G (lv_sub hl [0, 2] rfl)
    · rw [if_pos hc] at h
      refine lv_aload_n C.1 C.2.1 dX12_askTerms_21 rfl (lv_at hl 0 rfl) ?_
      obtain ⟨r_63, ρ_62, hq, h⟩ := bd2_some h
      refine rf_callV (rest := []) C G cw_newSecret [] _ (kq_newSecret l D h0 hq) (Nat.le_of_ble_eq_true rfl) (Nat.le_of_ble_eq_true rfl) rfl rfl hl.1 (Nat.le_of_ble_eq_true rfl) (Nat.zero_le _) (Nat.zero_le _) dX12_askTerms_22 (fun H locs G => ?_)
      refine W.eq (g2 := F0 m 25 ls [.int r_63]) rfl ?_
      exact rf_iret C G h dX12_askTerms_25
  · rw [if_pos hc] at h
    refine lv_aload_n C.1 C.2.1 dX12_askTerms_6 rfl (lv_at hl 0 rfl) ?_
    refine lv_iconst (v := (0:Int32)) C.1 C.2.1 dX12_askTerms_7 (by decide) ?_
    refine lv_iload_n C.1 C.2.1 dX12_askTerms_8 rfl (lv_at hl 2 rfl) ?_
    refine lv_iconst (v := (0:Int32)) C.1 C.2.1 dX12_askTerms_9 (by decide) ?_
    refine lv_iconst (v := (0:Int32)) C.1 C.2.1 dX12_askTerms_10 (by decide) ?_
    obtain ⟨r_65, ρ_64, hq, h⟩ := bd2_some h
    refine rf_callV (rest := []) C G cw_made [.int (0:Int32), .int x2, .int (0:Int32), .int (0:Int32)] _ (kq_made l D h0 hq) (Nat.le_of_ble_eq_true rfl) (Nat.le_of_ble_eq_true rfl) rfl rfl hl.1 (Nat.le_of_ble_eq_true rfl) (Nat.zero_le _) (Nat.zero_le _) dX12_askTerms_11 (fun H locs G => ?_)
    refine W.eq (g2 := F0 m 14 ls [.int r_65]) rfl ?_
    exact rf_iret C G h dX12_askTerms_14
noncomputable def fq_askTerms (x1 : Int32) (x2 : Int32) (x3 : Int32) (ρ : rf_S) : Option (Int32 × rf_S) := bq_askTerms_0 x1 x2 x3 ρ
theorem kq_askTerms (l : Launch) (D : rf_D) (h0 : Nat) {r : Int32} {x1 : Int32} {x2 : Int32} {x3 : Int32} {ρ ρ' : rf_S} (h : fq_askTerms x1 x2 x3 ρ = some (r, ρ')) : rf_Met l D h0 yX12_askTerms cX12_askTerms 6 (some .int) 4 99 [.ref h0, .int x1, .int x2, .int x3] ρ (some (.int r)) ρ' :=
  rf_of rfl cc_askTerms (Nat.le_of_ble_eq_true rfl) (fun p e s m args below meth c ls C G hl => wq_askTerms_0 C h G hl)
abbrev cX12_quote : ByteArray := prog_14_method_95_code
def yX12_quote : MethodName := ⟨RX12, "quote", "(I)I"⟩
theorem dX12_quote_0 : decode cX12_quote 0 = .ok (.aload_n 0, 1) := by decide +kernel
theorem dX12_quote_1 : decode cX12_quote 1 = .ok (.iload_n 1, 1) := by decide +kernel
theorem dX12_quote_2 : decode cX12_quote 2 = .ok (.invokevirtual 639, 3) := by decide +kernel
theorem dX12_quote_5 : decode cX12_quote 5 = .ok (.ifCond .ne 6, 3) := by decide +kernel
theorem dX12_quote_8 : decode cX12_quote 8 = .ok (.bipush (-2), 2) := by decide +kernel
theorem dX12_quote_10 : decode cX12_quote 10 = .ok (.ireturn, 1) := by decide +kernel
theorem dX12_quote_11 : decode cX12_quote 11 = .ok (.aload_n 0, 1) := by decide +kernel
theorem dX12_quote_12 : decode cX12_quote 12 = .ok (.iconst 3, 1) := by decide +kernel
theorem dX12_quote_13 : decode cX12_quote 13 = .ok (.aload_n 0, 1) := by decide +kernel
theorem dX12_quote_14 : decode cX12_quote 14 = .ok (.getfield 140, 3) := by decide +kernel
theorem dX12_quote_17 : decode cX12_quote 17 = .ok (.aload_n 0, 1) := by decide +kernel
theorem dX12_quote_18 : decode cX12_quote 18 = .ok (.getfield 567, 3) := by decide +kernel
theorem dX12_quote_21 : decode cX12_quote 21 = .ok (.iaload, 1) := by decide +kernel
theorem dX12_quote_22 : decode cX12_quote 22 = .ok (.aload_n 0, 1) := by decide +kernel
theorem dX12_quote_23 : decode cX12_quote 23 = .ok (.iload_n 1, 1) := by decide +kernel
theorem dX12_quote_24 : decode cX12_quote 24 = .ok (.invokevirtual 642, 3) := by decide +kernel
theorem dX12_quote_27 : decode cX12_quote 27 = .ok (.iconst 0, 1) := by decide +kernel
theorem dX12_quote_28 : decode cX12_quote 28 = .ok (.invokevirtual 296, 3) := by decide +kernel
theorem dX12_quote_31 : decode cX12_quote 31 = .ok (.istore_n 2, 1) := by decide +kernel
theorem dX12_quote_32 : decode cX12_quote 32 = .ok (.aload_n 0, 1) := by decide +kernel
theorem dX12_quote_33 : decode cX12_quote 33 = .ok (.getfield 206, 3) := by decide +kernel
theorem dX12_quote_36 : decode cX12_quote 36 = .ok (.aload_n 0, 1) := by decide +kernel
theorem dX12_quote_37 : decode cX12_quote 37 = .ok (.getfield 563, 3) := by decide +kernel
theorem dX12_quote_40 : decode cX12_quote 40 = .ok (.iaload, 1) := by decide +kernel
theorem dX12_quote_41 : decode cX12_quote 41 = .ok (.bipush 100, 2) := by decide +kernel
theorem dX12_quote_43 : decode cX12_quote 43 = .ok (.if_icmp .ne 25, 3) := by decide +kernel
theorem dX12_quote_46 : decode cX12_quote 46 = .ok (.iload_n 2, 1) := by decide +kernel
theorem dX12_quote_47 : decode cX12_quote 47 = .ok (.ifCond .lt 18, 3) := by decide +kernel
theorem dX12_quote_50 : decode cX12_quote 50 = .ok (.aload_n 0, 1) := by decide +kernel
theorem dX12_quote_51 : decode cX12_quote 51 = .ok (.bipush 7, 2) := by decide +kernel
theorem dX12_quote_53 : decode cX12_quote 53 = .ok (.aload_n 0, 1) := by decide +kernel
theorem dX12_quote_54 : decode cX12_quote 54 = .ok (.getfield 281, 3) := by decide +kernel
theorem dX12_quote_57 : decode cX12_quote 57 = .ok (.iload_n 2, 1) := by decide +kernel
theorem dX12_quote_58 : decode cX12_quote 58 = .ok (.iconst 0, 1) := by decide +kernel
theorem dX12_quote_59 : decode cX12_quote 59 = .ok (.invokevirtual 296, 3) := by decide +kernel
theorem dX12_quote_62 : decode cX12_quote 62 = .ok (.ifCond .ge 6, 3) := by decide +kernel
theorem dX12_quote_65 : decode cX12_quote 65 = .ok (.bipush (-4), 2) := by decide +kernel
theorem dX12_quote_67 : decode cX12_quote 67 = .ok (.ireturn, 1) := by decide +kernel
theorem dX12_quote_68 : decode cX12_quote 68 = .ok (.aload_n 0, 1) := by decide +kernel
theorem dX12_quote_69 : decode cX12_quote 69 = .ok (.bipush 7, 2) := by decide +kernel
theorem dX12_quote_71 : decode cX12_quote 71 = .ok (.aload_n 0, 1) := by decide +kernel
theorem dX12_quote_72 : decode cX12_quote 72 = .ok (.getfield 281, 3) := by decide +kernel
theorem dX12_quote_75 : decode cX12_quote 75 = .ok (.aload_n 0, 1) := by decide +kernel
theorem dX12_quote_76 : decode cX12_quote 76 = .ok (.iconst 3, 1) := by decide +kernel
theorem dX12_quote_77 : decode cX12_quote 77 = .ok (.aload_n 0, 1) := by decide +kernel
theorem dX12_quote_78 : decode cX12_quote 78 = .ok (.getfield 140, 3) := by decide +kernel
theorem dX12_quote_81 : decode cX12_quote 81 = .ok (.aload_n 0, 1) := by decide +kernel
theorem dX12_quote_82 : decode cX12_quote 82 = .ok (.getfield 567, 3) := by decide +kernel
theorem dX12_quote_85 : decode cX12_quote 85 = .ok (.iaload, 1) := by decide +kernel
theorem dX12_quote_86 : decode cX12_quote 86 = .ok (.aload_n 0, 1) := by decide +kernel
theorem dX12_quote_87 : decode cX12_quote 87 = .ok (.iload_n 1, 1) := by decide +kernel
theorem dX12_quote_88 : decode cX12_quote 88 = .ok (.invokevirtual 642, 3) := by decide +kernel
theorem dX12_quote_91 : decode cX12_quote 91 = .ok (.iconst 0, 1) := by decide +kernel
theorem dX12_quote_92 : decode cX12_quote 92 = .ok (.invokevirtual 271, 3) := by decide +kernel
theorem dX12_quote_95 : decode cX12_quote 95 = .ok (.iconst 0, 1) := by decide +kernel
theorem dX12_quote_96 : decode cX12_quote 96 = .ok (.invokevirtual 654, 3) := by decide +kernel
theorem dX12_quote_99 : decode cX12_quote 99 = .ok (.ireturn, 1) := by decide +kernel
theorem cc_quote : Cond.code yX12_quote cX12_quote 3 (some .int) ∈ rf_tb := rf_at 2219 (by decide +kernel) (by decide +kernel)
theorem cw_quote : rf_wV yX12_quote cX12_quote 3 (some .int) 665 1 := ⟨⟨rf_at 2216 (by decide +kernel) (by decide +kernel), rf_at 2218 (by decide +kernel) (by decide +kernel), rf_sel (q := (yX12_quote, 122)) 133 (by decide +kernel) (by decide +kernel), cc_quote⟩, rfl, by decide +kernel⟩
noncomputable def bq_quote_68 (x1 : Int32) (ρ : rf_S) : Option (Int32 × rf_S) := ix (ρ.1 0 118) 8 (bd2 (fq_of x1 ρ) (fun r_8 ρ_7 => bd2 (fq_term (3:Int32) (ρ.1 39 (ρ.1 0 118).toNatClampNeg) r_8 (0:Int32) ρ_7) (fun r_10 ρ_9 => bd2 (fq_made (7:Int32) (ρ.1 0 20) r_10 (0:Int32) ρ_9) (fun r_12 ρ_11 => some (r_12, ρ_11)))))
set_option maxHeartbeats 4000000 in
theorem wq_quote_68 (C : rf_C D p s m args meth c cX12_quote 3 (some .int)) {r : Int32} {x1 : Int32} {ρ ρ' : rf_S} {H : Heap} {locs : List Loc} {ls : Array Slot} (h : bq_quote_68 x1 ρ = some (r, ρ')) (G : rf_G D h0 s ρ H locs) (hl : lv_has ls 3 [(0, .ref h0), (1, .int x1)]) : W p l e ({ frames := 4, cells := 0, slots := 0, locals := 99 }) s m args below meth c H locs 0 0 (MQ below (rf_Q D h0 (some (.int r)) ρ') args s 0 0 (rf_A h0)) (F0 m 68 ls []) := by
  unfold bq_quote_68 at h
  refine lv_aload_n C.1 C.2.1 dX12_quote_68 rfl (lv_at hl 0 rfl) ?_
  refine lv_bipush (v := (7:Int32)) C.1 C.2.1 dX12_quote_69 (by decide) ?_
  refine lv_aload_n C.1 C.2.1 dX12_quote_71 rfl (lv_at hl 0 rfl) ?_
  refine gf_20 C G dX12_quote_72 ?_
  refine lv_aload_n C.1 C.2.1 dX12_quote_75 rfl (lv_at hl 0 rfl) ?_
  refine lv_iconst (v := (3:Int32)) C.1 C.2.1 dX12_quote_76 (by decide) ?_
  refine lv_aload_n C.1 C.2.1 dX12_quote_77 rfl (lv_at hl 0 rfl) ?_
  refine gf_69 C G dX12_quote_78 ?_
  refine lv_aload_n C.1 C.2.1 dX12_quote_81 rfl (lv_at hl 0 rfl) ?_
  refine gf_118 C G dX12_quote_82 ?_
  obtain ⟨hi, h⟩ := ix_some h
  refine rf_iald C G 39 rfl (by decide) rfl rfl hi dX12_quote_85 ?_
  refine lv_aload_n C.1 C.2.1 dX12_quote_86 rfl (lv_at hl 0 rfl) ?_
  refine lv_iload_n C.1 C.2.1 dX12_quote_87 rfl (lv_at hl 1 rfl) ?_
  obtain ⟨r_8, ρ_7, hq, h⟩ := bd2_some h
  refine rf_callV (rest := [.int (ρ.1 39 (ρ.1 0 118).toNatClampNeg), .int (3:Int32), .ref h0, .int (ρ.1 0 20), .int (7:Int32), .ref h0]) C G cw_of [.int x1] _ (kq_of l D h0 hq) (Nat.le_of_ble_eq_true rfl) (Nat.le_of_ble_eq_true rfl) rfl rfl hl.1 (Nat.le_of_ble_eq_true rfl) (Nat.zero_le _) (Nat.zero_le _) dX12_quote_88 (fun H locs G => ?_)
  refine W.eq (g2 := F0 m 91 ls [.int r_8, .int (ρ.1 39 (ρ.1 0 118).toNatClampNeg), .int (3:Int32), .ref h0, .int (ρ.1 0 20), .int (7:Int32), .ref h0]) rfl ?_
  refine lv_iconst (v := (0:Int32)) C.1 C.2.1 dX12_quote_91 (by decide) ?_
  obtain ⟨r_10, ρ_9, hq, h⟩ := bd2_some h
  refine rf_callV (rest := [.int (ρ.1 0 20), .int (7:Int32), .ref h0]) C G cw_term [.int (3:Int32), .int (ρ.1 39 (ρ.1 0 118).toNatClampNeg), .int r_8, .int (0:Int32)] _ (kq_term l D h0 hq) (Nat.le_of_ble_eq_true rfl) (Nat.le_of_ble_eq_true rfl) rfl rfl hl.1 (Nat.le_of_ble_eq_true rfl) (Nat.zero_le _) (Nat.zero_le _) dX12_quote_92 (fun H locs G => ?_)
  refine W.eq (g2 := F0 m 95 ls [.int r_10, .int (ρ.1 0 20), .int (7:Int32), .ref h0]) rfl ?_
  refine lv_iconst (v := (0:Int32)) C.1 C.2.1 dX12_quote_95 (by decide) ?_
  obtain ⟨r_12, ρ_11, hq, h⟩ := bd2_some h
  refine rf_callV (rest := []) C G cw_made [.int (7:Int32), .int (ρ.1 0 20), .int r_10, .int (0:Int32)] _ (kq_made l D h0 hq) (Nat.le_of_ble_eq_true rfl) (Nat.le_of_ble_eq_true rfl) rfl rfl hl.1 (Nat.le_of_ble_eq_true rfl) (Nat.zero_le _) (Nat.zero_le _) dX12_quote_96 (fun H locs G => ?_)
  refine W.eq (g2 := F0 m 99 ls [.int r_12]) rfl ?_
  exact rf_iret C G h dX12_quote_99
noncomputable def bq_quote_0 (x1 : Int32) (ρ : rf_S) : Option (Int32 × rf_S) := bd2 (fq_isHandle x1 ρ) (fun r_2 ρ_1 => (if r_2 = 0 then some ((-2:Int32), ρ_1) else ix (ρ_1.1 0 118) 8 (bd2 (fq_of x1 ρ_1) (fun r_4 ρ_3 => bd2 (fq_peek (3:Int32) (ρ_1.1 39 (ρ_1.1 0 118).toNatClampNeg) r_4 (0:Int32) ρ_3) (fun r_6 ρ_5 => ix (ρ_5.1 0 119) 16 ((if (ρ_5.1 61 (ρ_5.1 0 119).toNatClampNeg) = (100:Int32) then (if r_6 < 0 then some ((-4:Int32), ρ_5) else bd2 (fq_peek (7:Int32) (ρ_5.1 0 20) r_6 (0:Int32) ρ_5) (fun r_14 ρ_13 => (if 0 ≤ r_14 then bq_quote_68 x1 ρ_13 else some ((-4:Int32), ρ_13)))) else bq_quote_68 x1 ρ_5)))))))
set_option maxHeartbeats 4000000 in
theorem wq_quote_0 (C : rf_C D p s m args meth c cX12_quote 3 (some .int)) {r : Int32} {x1 : Int32} {ρ ρ' : rf_S} {H : Heap} {locs : List Loc} {ls : Array Slot} (h : bq_quote_0 x1 ρ = some (r, ρ')) (G : rf_G D h0 s ρ H locs) (hl : lv_has ls 3 [(0, .ref h0), (1, .int x1)]) : W p l e ({ frames := 4, cells := 0, slots := 0, locals := 99 }) s m args below meth c H locs 0 0 (MQ below (rf_Q D h0 (some (.int r)) ρ') args s 0 0 (rf_A h0)) (F0 m 0 ls []) := by
  unfold bq_quote_0 at h
  refine lv_aload_n C.1 C.2.1 dX12_quote_0 rfl (lv_at hl 0 rfl) ?_
  refine lv_iload_n C.1 C.2.1 dX12_quote_1 rfl (lv_at hl 1 rfl) ?_
  obtain ⟨r_2, ρ_1, hq, h⟩ := bd2_some h
  refine rf_callV (rest := []) C G cw_isHandle [.int x1] _ (kq_isHandle l D h0 hq) (Nat.le_of_ble_eq_true rfl) (Nat.le_of_ble_eq_true rfl) rfl rfl hl.1 (Nat.le_of_ble_eq_true rfl) (Nat.zero_le _) (Nat.zero_le _) dX12_quote_2 (fun H locs G => ?_)
  refine W.eq (g2 := F0 m 5 ls [.int r_2]) rfl ?_
  refine lv_if_ne (tgt := 11) C.1 C.2.1 dX12_quote_5 (by decide) (fun hc => ?_) (fun hc => ?_)
  · rw [if_neg hc] at h
    refine lv_aload_n C.1 C.2.1 dX12_quote_11 rfl (lv_at hl 0 rfl) ?_
    refine lv_iconst (v := (3:Int32)) C.1 C.2.1 dX12_quote_12 (by decide) ?_
    refine lv_aload_n C.1 C.2.1 dX12_quote_13 rfl (lv_at hl 0 rfl) ?_
    refine gf_69 C G dX12_quote_14 ?_
    refine lv_aload_n C.1 C.2.1 dX12_quote_17 rfl (lv_at hl 0 rfl) ?_
    refine gf_118 C G dX12_quote_18 ?_
    obtain ⟨hi, h⟩ := ix_some h
    refine rf_iald C G 39 rfl (by decide) rfl rfl hi dX12_quote_21 ?_
    refine lv_aload_n C.1 C.2.1 dX12_quote_22 rfl (lv_at hl 0 rfl) ?_
    refine lv_iload_n C.1 C.2.1 dX12_quote_23 rfl (lv_at hl 1 rfl) ?_
    obtain ⟨r_4, ρ_3, hq, h⟩ := bd2_some h
    refine rf_callV (rest := [.int (ρ_1.1 39 (ρ_1.1 0 118).toNatClampNeg), .int (3:Int32), .ref h0]) C G cw_of [.int x1] _ (kq_of l D h0 hq) (Nat.le_of_ble_eq_true rfl) (Nat.le_of_ble_eq_true rfl) rfl rfl hl.1 (Nat.le_of_ble_eq_true rfl) (Nat.zero_le _) (Nat.zero_le _) dX12_quote_24 (fun H locs G => ?_)
    refine W.eq (g2 := F0 m 27 ls [.int r_4, .int (ρ_1.1 39 (ρ_1.1 0 118).toNatClampNeg), .int (3:Int32), .ref h0]) rfl ?_
    refine lv_iconst (v := (0:Int32)) C.1 C.2.1 dX12_quote_27 (by decide) ?_
    obtain ⟨r_6, ρ_5, hq, h⟩ := bd2_some h
    refine rf_callV (rest := []) C G cw_peek [.int (3:Int32), .int (ρ_1.1 39 (ρ_1.1 0 118).toNatClampNeg), .int r_4, .int (0:Int32)] _ (kq_peek l D h0 hq) (Nat.le_of_ble_eq_true rfl) (Nat.le_of_ble_eq_true rfl) rfl rfl hl.1 (Nat.le_of_ble_eq_true rfl) (Nat.zero_le _) (Nat.zero_le _) dX12_quote_28 (fun H locs G => ?_)
    refine W.eq (g2 := F0 m 31 ls [.int r_6]) rfl ?_
    refine lv_istore_n (lv' := [(2, .int r_6), (0, .ref h0), (1, .int x1)]) C.1 C.2.1 dX12_quote_31 rfl hl (by decide) rfl (fun ls hl => ?_)
    refine lv_aload_n C.1 C.2.1 dX12_quote_32 rfl (lv_at hl 1 rfl) ?_
    refine gf_93 C G dX12_quote_33 ?_
    refine lv_aload_n C.1 C.2.1 dX12_quote_36 rfl (lv_at hl 1 rfl) ?_
    refine gf_119 C G dX12_quote_37 ?_
    obtain ⟨hi, h⟩ := ix_some h
    refine rf_iald C G 61 rfl (by decide) rfl rfl hi dX12_quote_40 ?_
    refine lv_bipush (v := (100:Int32)) C.1 C.2.1 dX12_quote_41 (by decide) ?_
    refine lv_icmp_ne (tgt := 68) C.1 C.2.1 dX12_quote_43 (by decide) (fun hc => ?_) (fun hc => ?_)
    · rw [if_neg hc] at h
      exact wq_quote_68 C h G (lv_sub hl [1, 2] rfl)
    · rw [if_pos hc] at h
      refine lv_iload_n C.1 C.2.1 dX12_quote_46 rfl (lv_at hl 0 rfl) ?_
      refine lv_if_lt (tgt := 65) C.1 C.2.1 dX12_quote_47 (by decide) (fun hc => ?_) (fun hc => ?_)
      · rw [if_pos hc] at h
        refine lv_bipush (v := (-4:Int32)) C.1 C.2.1 dX12_quote_65 (by decide) ?_
        exact rf_iret C G h dX12_quote_67
      · rw [if_neg hc] at h
        refine lv_aload_n C.1 C.2.1 dX12_quote_50 rfl (lv_at hl 1 rfl) ?_
        refine lv_bipush (v := (7:Int32)) C.1 C.2.1 dX12_quote_51 (by decide) ?_
        refine lv_aload_n C.1 C.2.1 dX12_quote_53 rfl (lv_at hl 1 rfl) ?_
        refine gf_20 C G dX12_quote_54 ?_
        refine lv_iload_n C.1 C.2.1 dX12_quote_57 rfl (lv_at hl 0 rfl) ?_
        refine lv_iconst (v := (0:Int32)) C.1 C.2.1 dX12_quote_58 (by decide) ?_
        obtain ⟨r_14, ρ_13, hq, h⟩ := bd2_some h
        refine rf_callV (rest := []) C G cw_peek [.int (7:Int32), .int (ρ_5.1 0 20), .int r_6, .int (0:Int32)] _ (kq_peek l D h0 hq) (Nat.le_of_ble_eq_true rfl) (Nat.le_of_ble_eq_true rfl) rfl rfl hl.1 (Nat.le_of_ble_eq_true rfl) (Nat.zero_le _) (Nat.zero_le _) dX12_quote_59 (fun H locs G => ?_)
        refine W.eq (g2 := F0 m 62 ls [.int r_14]) rfl ?_
        refine lv_if_ge (tgt := 68) C.1 C.2.1 dX12_quote_62 (by decide) (fun hc => ?_) (fun hc => ?_)
        · rw [if_pos hc] at h
          exact wq_quote_68 C h G (lv_sub hl [1, 2] rfl)
        · rw [if_neg hc] at h
          refine lv_bipush (v := (-4:Int32)) C.1 C.2.1 dX12_quote_65 (by decide) ?_
          exact rf_iret C G h dX12_quote_67
  · rw [if_pos hc] at h
    refine lv_bipush (v := (-2:Int32)) C.1 C.2.1 dX12_quote_8 (by decide) ?_
    exact rf_iret C G h dX12_quote_10
noncomputable def fq_quote (x1 : Int32) (ρ : rf_S) : Option (Int32 × rf_S) := bq_quote_0 x1 ρ
theorem kq_quote (l : Launch) (D : rf_D) (h0 : Nat) {r : Int32} {x1 : Int32} {ρ ρ' : rf_S} (h : fq_quote x1 ρ = some (r, ρ')) : rf_Met l D h0 yX12_quote cX12_quote 3 (some .int) 4 99 [.ref h0, .int x1] ρ (some (.int r)) ρ' :=
  rf_of rfl cc_quote (Nat.le_of_ble_eq_true rfl) (fun p e s m args below meth c ls C G hl => wq_quote_0 C h G hl)
end RQ11
