section RQ3
variable {p : Program} {l : Launch} {e : Env} {s : State} {m : MethodId} {args : Array Value} {below : List Frame} {meth : Method} {c : Code} {D : rf_D} {h0 : Nat}
abbrev cX12_rest : ByteArray := prog_14_method_35_code
def yX12_rest : MethodName := ⟨RX12, "rest", "(I)I"⟩
theorem dX12_rest_0 : decode cX12_rest 0 = .ok (.iload_n 1, 1) := by decide +kernel
theorem dX12_rest_1 : decode cX12_rest 1 = .ok (.bipush 21, 2) := by decide +kernel
theorem dX12_rest_3 : decode cX12_rest 3 = .ok (.if_icmp .ne 13, 3) := by decide +kernel
theorem dX12_rest_6 : decode cX12_rest 6 = .ok (.aload_n 0, 1) := by decide +kernel
theorem dX12_rest_7 : decode cX12_rest 7 = .ok (.lconst 0, 1) := by decide +kernel
theorem dX12_rest_8 : decode cX12_rest 8 = .ok (.ldc2_w 439, 3) := by decide +kernel
theorem dX12_rest_11 : decode cX12_rest 11 = .ok (.invokevirtual 412, 3) := by decide +kernel
theorem dX12_rest_14 : decode cX12_rest 14 = .ok (.l2i, 1) := by decide +kernel
theorem dX12_rest_15 : decode cX12_rest 15 = .ok (.ireturn, 1) := by decide +kernel
theorem dX12_rest_16 : decode cX12_rest 16 = .ok (.iload_n 1, 1) := by decide +kernel
theorem dX12_rest_17 : decode cX12_rest 17 = .ok (.bipush 36, 2) := by decide +kernel
theorem dX12_rest_19 : decode cX12_rest 19 = .ok (.if_icmp .ne 13, 3) := by decide +kernel
theorem dX12_rest_22 : decode cX12_rest 22 = .ok (.aload_n 0, 1) := by decide +kernel
theorem dX12_rest_23 : decode cX12_rest 23 = .ok (.invokevirtual 441, 3) := by decide +kernel
theorem dX12_rest_26 : decode cX12_rest 26 = .ok (.l2i, 1) := by decide +kernel
theorem dX12_rest_27 : decode cX12_rest 27 = .ok (.ldc_w 445, 3) := by decide +kernel
theorem dX12_rest_30 : decode cX12_rest 30 = .ok (.iand, 1) := by decide +kernel
theorem dX12_rest_31 : decode cX12_rest 31 = .ok (.ireturn, 1) := by decide +kernel
theorem dX12_rest_32 : decode cX12_rest 32 = .ok (.aload_n 0, 1) := by decide +kernel
theorem dX12_rest_33 : decode cX12_rest 33 = .ok (.invokevirtual 428, 3) := by decide +kernel
theorem dX12_rest_36 : decode cX12_rest 36 = .ok (.bipush 18, 2) := by decide +kernel
theorem dX12_rest_38 : decode cX12_rest 38 = .ok (.ishl, 1) := by decide +kernel
theorem dX12_rest_39 : decode cX12_rest 39 = .ok (.istore_n 2, 1) := by decide +kernel
theorem dX12_rest_40 : decode cX12_rest 40 = .ok (.aload_n 0, 1) := by decide +kernel
theorem dX12_rest_41 : decode cX12_rest 41 = .ok (.getfield 383, 3) := by decide +kernel
theorem dX12_rest_44 : decode cX12_rest 44 = .ok (.ifCond .ne 8, 3) := by decide +kernel
theorem dX12_rest_47 : decode cX12_rest 47 = .ok (.aload_n 0, 1) := by decide +kernel
theorem dX12_rest_48 : decode cX12_rest 48 = .ok (.iconst 3, 1) := by decide +kernel
theorem dX12_rest_49 : decode cX12_rest 49 = .ok (.invokevirtual 432, 3) := by decide +kernel
theorem dX12_rest_52 : decode cX12_rest 52 = .ok (.aload_n 0, 1) := by decide +kernel
theorem dX12_rest_53 : decode cX12_rest 53 = .ok (.getfield 383, 3) := by decide +kernel
theorem dX12_rest_56 : decode cX12_rest 56 = .ok (.ifCond .le 5, 3) := by decide +kernel
theorem dX12_rest_59 : decode cX12_rest 59 = .ok (.iconst 0, 1) := by decide +kernel
theorem dX12_rest_60 : decode cX12_rest 60 = .ok (.ireturn, 1) := by decide +kernel
theorem dX12_rest_61 : decode cX12_rest 61 = .ok (.iload_n 1, 1) := by decide +kernel
theorem dX12_rest_62 : decode cX12_rest 62 = .ok (.bipush 12, 2) := by decide +kernel
theorem dX12_rest_64 : decode cX12_rest 64 = .ok (.if_icmp .ge 13, 3) := by decide +kernel
theorem dX12_rest_67 : decode cX12_rest 67 = .ok (.iload_n 2, 1) := by decide +kernel
theorem dX12_rest_68 : decode cX12_rest 68 = .ok (.aload_n 0, 1) := by decide +kernel
theorem dX12_rest_69 : decode cX12_rest 69 = .ok (.invokevirtual 428, 3) := by decide +kernel
theorem dX12_rest_72 : decode cX12_rest 72 = .ok (.bipush 14, 2) := by decide +kernel
theorem dX12_rest_74 : decode cX12_rest 74 = .ok (.ishl, 1) := by decide +kernel
theorem dX12_rest_75 : decode cX12_rest 75 = .ok (.ior, 1) := by decide +kernel
theorem dX12_rest_76 : decode cX12_rest 76 = .ok (.ireturn, 1) := by decide +kernel
theorem dX12_rest_77 : decode cX12_rest 77 = .ok (.iload_n 2, 1) := by decide +kernel
theorem dX12_rest_78 : decode cX12_rest 78 = .ok (.iload_n 1, 1) := by decide +kernel
theorem dX12_rest_79 : decode cX12_rest 79 = .ok (.bipush 30, 2) := by decide +kernel
theorem dX12_rest_81 : decode cX12_rest 81 = .ok (.if_icmp .lt 16, 3) := by decide +kernel
theorem dX12_rest_84 : decode cX12_rest 84 = .ok (.iload_n 1, 1) := by decide +kernel
theorem dX12_rest_85 : decode cX12_rest 85 = .ok (.bipush 35, 2) := by decide +kernel
theorem dX12_rest_87 : decode cX12_rest 87 = .ok (.if_icmp .gt 10, 3) := by decide +kernel
theorem dX12_rest_90 : decode cX12_rest 90 = .ok (.aload_n 0, 1) := by decide +kernel
theorem dX12_rest_91 : decode cX12_rest 91 = .ok (.invokevirtual 441, 3) := by decide +kernel
theorem dX12_rest_94 : decode cX12_rest 94 = .ok (.goto 13, 3) := by decide +kernel
theorem dX12_rest_97 : decode cX12_rest 97 = .ok (.aload_n 0, 1) := by decide +kernel
theorem dX12_rest_98 : decode cX12_rest 98 = .ok (.ldc2_w 408, 3) := by decide +kernel
theorem dX12_rest_101 : decode cX12_rest 101 = .ok (.ldc2_w 410, 3) := by decide +kernel
theorem dX12_rest_104 : decode cX12_rest 104 = .ok (.invokevirtual 412, 3) := by decide +kernel
theorem dX12_rest_107 : decode cX12_rest 107 = .ok (.l2i, 1) := by decide +kernel
theorem dX12_rest_108 : decode cX12_rest 108 = .ok (.ldc_w 445, 3) := by decide +kernel
theorem dX12_rest_111 : decode cX12_rest 111 = .ok (.iand, 1) := by decide +kernel
theorem dX12_rest_112 : decode cX12_rest 112 = .ok (.ior, 1) := by decide +kernel
theorem dX12_rest_113 : decode cX12_rest 113 = .ok (.ireturn, 1) := by decide +kernel
theorem cc_rest : Cond.code yX12_rest cX12_rest 3 (some .int) ∈ rf_tb := rf_at 1985 (by decide +kernel) (by decide +kernel)
theorem cw_rest : rf_wV yX12_rest cX12_rest 3 (some .int) 436 1 := ⟨⟨rf_at 1982 (by decide +kernel) (by decide +kernel), rf_at 1984 (by decide +kernel) (by decide +kernel), rf_sel (q := (yX12_rest, 122)) 94 (by decide +kernel) (by decide +kernel), cc_rest⟩, rfl, by decide +kernel⟩
theorem kc_439 : Cond.constantLong RX12 439 (262143 : Int64) ∈ rf_tb := rf_at 1986 (by decide +kernel) (by decide +kernel)
theorem kc_445 : Cond.constant RX12 445 (262143 : Int32) ∈ rf_tb := rf_at 1993 (by decide +kernel) (by decide +kernel)
noncomputable def bq_rest_107 (v0 : Int32) (v1 : Int64) (ρ : rf_S) : Option (Int32 × rf_S) := some ((v0 ||| ((v1.toInt32) &&& (262143:Int32))), ρ)
set_option maxHeartbeats 4000000 in
theorem wq_rest_107 (C : rf_C D p s m args meth c cX12_rest 3 (some .int)) {r : Int32} {v0 : Int32} {v1 : Int64} {ρ ρ' : rf_S} {H : Heap} {locs : List Loc} {ls : Array Slot} (h : bq_rest_107 v0 v1 ρ = some (r, ρ')) (G : rf_G D h0 s ρ H locs) (hl : lv_has ls 3 [(0, .ref h0)]) : W p l e ({ frames := 6, cells := 0, slots := 0, locals := 130 }) s m args below meth c H locs 0 0 (MQ below (rf_Q D h0 (some (.int r)) ρ') args s 0 0 (rf_A h0)) (F0 m 107 ls [.long v1, .int v0]) := by
  unfold bq_rest_107 at h
  refine lv_l2i C.1 C.2.1 dX12_rest_107 rfl ?_
  refine lv_ldcw (v := (262143:Int32)) C.1 C.2.1 C.2.2.2.1 (C.2.2.2.2.1 _ kc_445) dX12_rest_108 ?_
  refine lv_iand C.1 C.2.1 dX12_rest_111 ?_
  refine lv_ior C.1 C.2.1 dX12_rest_112 ?_
  exact rf_iret C G h dX12_rest_113
noncomputable def bq_rest_97 (v0 : Int32) (ρ : rf_S) : Option (Int32 × rf_S) := bd2 (fq_wantsNumber (-131072:Int64) (131071:Int64) ρ) (fun r_5 ρ_4 => bq_rest_107 v0 r_5 ρ_4)
set_option maxHeartbeats 4000000 in
theorem wq_rest_97 (C : rf_C D p s m args meth c cX12_rest 3 (some .int)) {r : Int32} {v0 : Int32} {ρ ρ' : rf_S} {H : Heap} {locs : List Loc} {ls : Array Slot} (h : bq_rest_97 v0 ρ = some (r, ρ')) (G : rf_G D h0 s ρ H locs) (hl : lv_has ls 3 [(0, .ref h0)]) : W p l e ({ frames := 6, cells := 0, slots := 0, locals := 130 }) s m args below meth c H locs 0 0 (MQ below (rf_Q D h0 (some (.int r)) ρ') args s 0 0 (rf_A h0)) (F0 m 97 ls [.int v0]) := by
  unfold bq_rest_97 at h
  refine lv_aload_n C.1 C.2.1 dX12_rest_97 rfl (lv_at hl 0 rfl) ?_
  refine lv_ldc2 (v := (-131072:Int64)) C.1 C.2.1 C.2.2.2.1 (C.2.2.2.2.1 _ kc_408) dX12_rest_98 ?_
  refine lv_ldc2 (v := (131071:Int64)) C.1 C.2.1 C.2.2.2.1 (C.2.2.2.2.1 _ kc_410) dX12_rest_101 ?_
  obtain ⟨r_5, ρ_4, hq, h⟩ := bd2_some h
  refine rf_callV (rest := [.int v0]) C G cw_wantsNumber [.long (-131072:Int64), .long (131071:Int64)] _ (kq_wantsNumber l D h0 hq) (Nat.le_of_ble_eq_true rfl) (Nat.le_of_ble_eq_true rfl) rfl rfl hl.1 (Nat.le_of_ble_eq_true rfl) (Nat.zero_le _) (Nat.zero_le _) dX12_rest_104 (fun H locs G => ?_)
  refine W.eq (g2 := F0 m 107 ls [.long r_5, .int v0]) rfl ?_
  exact wq_rest_107 C h G (lv_sub hl [0] rfl)
noncomputable def bq_rest_52 (x1 : Int32) (x2 : Int32) (ρ : rf_S) : Option (Int32 × rf_S) := (if (ρ.1 0 39) ≤ 0 then (if (12:Int32) ≤ x1 then (if x1 < (30:Int32) then bq_rest_97 x2 ρ else (if (35:Int32) < x1 then bq_rest_97 x2 ρ else bd2 (fq_wantsWay ρ) (fun r_7 ρ_6 => bq_rest_107 x2 r_7 ρ_6))) else bd2 (fq_wantsRegister ρ) (fun r_9 ρ_8 => some ((x2 ||| (r_9 <<< ((14:Int32) &&& 31))), ρ_8))) else some ((0:Int32), ρ))
set_option maxHeartbeats 4000000 in
theorem wq_rest_52 (C : rf_C D p s m args meth c cX12_rest 3 (some .int)) {r : Int32} {x1 : Int32} {x2 : Int32} {ρ ρ' : rf_S} {H : Heap} {locs : List Loc} {ls : Array Slot} (h : bq_rest_52 x1 x2 ρ = some (r, ρ')) (G : rf_G D h0 s ρ H locs) (hl : lv_has ls 3 [(0, .ref h0), (1, .int x1), (2, .int x2)]) : W p l e ({ frames := 6, cells := 0, slots := 0, locals := 130 }) s m args below meth c H locs 0 0 (MQ below (rf_Q D h0 (some (.int r)) ρ') args s 0 0 (rf_A h0)) (F0 m 52 ls []) := by
  unfold bq_rest_52 at h
  refine lv_aload_n C.1 C.2.1 dX12_rest_52 rfl (lv_at hl 0 rfl) ?_
  refine gf_39 C G dX12_rest_53 ?_
  refine lv_if_le (tgt := 61) C.1 C.2.1 dX12_rest_56 (by decide) (fun hc => ?_) (fun hc => ?_)
  · rw [if_pos hc] at h
    refine lv_iload_n C.1 C.2.1 dX12_rest_61 rfl (lv_at hl 1 rfl) ?_
    refine lv_bipush (v := (12:Int32)) C.1 C.2.1 dX12_rest_62 (by decide) ?_
    refine lv_icmp_ge (tgt := 77) C.1 C.2.1 dX12_rest_64 (by decide) (fun hc => ?_) (fun hc => ?_)
    · rw [if_pos hc] at h
      refine lv_iload_n C.1 C.2.1 dX12_rest_77 rfl (lv_at hl 2 rfl) ?_
      refine lv_iload_n C.1 C.2.1 dX12_rest_78 rfl (lv_at hl 1 rfl) ?_
      refine lv_bipush (v := (30:Int32)) C.1 C.2.1 dX12_rest_79 (by decide) ?_
      refine lv_icmp_lt (tgt := 97) C.1 C.2.1 dX12_rest_81 (by decide) (fun hc => ?_) (fun hc => ?_)
      · rw [if_pos hc] at h
        exact wq_rest_97 C h G (lv_sub hl [0] rfl)
      · rw [if_neg hc] at h
        refine lv_iload_n C.1 C.2.1 dX12_rest_84 rfl (lv_at hl 1 rfl) ?_
        refine lv_bipush (v := (35:Int32)) C.1 C.2.1 dX12_rest_85 (by decide) ?_
        refine lv_icmp_gt (tgt := 97) C.1 C.2.1 dX12_rest_87 (by decide) (fun hc => ?_) (fun hc => ?_)
        · rw [if_pos hc] at h
          exact wq_rest_97 C h G (lv_sub hl [0] rfl)
        · rw [if_neg hc] at h
          refine lv_aload_n C.1 C.2.1 dX12_rest_90 rfl (lv_at hl 0 rfl) ?_
          obtain ⟨r_7, ρ_6, hq, h⟩ := bd2_some h
          refine rf_callV (rest := [.int x2]) C G cw_wantsWay [] _ (kq_wantsWay l D h0 hq) (Nat.le_of_ble_eq_true rfl) (Nat.le_of_ble_eq_true rfl) rfl rfl hl.1 (Nat.le_of_ble_eq_true rfl) (Nat.zero_le _) (Nat.zero_le _) dX12_rest_91 (fun H locs G => ?_)
          refine W.eq (g2 := F0 m 94 ls [.long r_7, .int x2]) rfl ?_
          refine lv_goto (tgt := 107) C.1 C.2.1 dX12_rest_94 (by decide) ?_
          exact wq_rest_107 C h G (lv_sub hl [0] rfl)
    · rw [if_neg hc] at h
      refine lv_iload_n C.1 C.2.1 dX12_rest_67 rfl (lv_at hl 2 rfl) ?_
      refine lv_aload_n C.1 C.2.1 dX12_rest_68 rfl (lv_at hl 0 rfl) ?_
      obtain ⟨r_9, ρ_8, hq, h⟩ := bd2_some h
      refine rf_callV (rest := [.int x2]) C G cw_wantsRegister [] _ (kq_wantsRegister l D h0 hq) (Nat.le_of_ble_eq_true rfl) (Nat.le_of_ble_eq_true rfl) rfl rfl hl.1 (Nat.le_of_ble_eq_true rfl) (Nat.zero_le _) (Nat.zero_le _) dX12_rest_69 (fun H locs G => ?_)
      refine W.eq (g2 := F0 m 72 ls [.int r_9, .int x2]) rfl ?_
      refine lv_bipush (v := (14:Int32)) C.1 C.2.1 dX12_rest_72 (by decide) ?_
      refine lv_ishl C.1 C.2.1 dX12_rest_74 ?_
      refine lv_ior C.1 C.2.1 dX12_rest_75 ?_
      exact rf_iret C G h dX12_rest_76
  · rw [if_neg hc] at h
    refine lv_iconst (v := (0:Int32)) C.1 C.2.1 dX12_rest_59 (by decide) ?_
    exact rf_iret C G h dX12_rest_60
noncomputable def bq_rest_0 (x1 : Int32) (ρ : rf_S) : Option (Int32 × rf_S) := (if x1 = (21:Int32) then bd2 (fq_wantsNumber (0:Int64) (262143:Int64) ρ) (fun r_14 ρ_13 => some (r_14.toInt32, ρ_13)) else (if x1 = (36:Int32) then bd2 (fq_wantsWay ρ) (fun r_12 ρ_11 => some (((r_12.toInt32) &&& (262143:Int32)), ρ_11)) else bd2 (fq_wantsRegister ρ) (fun r_2 ρ_1 => vl (r_2 <<< ((18:Int32) &&& 31)) (fun x2_3 => (if (ρ_1.1 0 39) = 0 then bd1 (fq_wants (3:Int32) ρ_1) (fun ρ_10 => bq_rest_52 x1 x2_3 ρ_10) else bq_rest_52 x1 x2_3 ρ_1)))))
set_option maxHeartbeats 4000000 in
theorem wq_rest_0 (C : rf_C D p s m args meth c cX12_rest 3 (some .int)) {r : Int32} {x1 : Int32} {ρ ρ' : rf_S} {H : Heap} {locs : List Loc} {ls : Array Slot} (h : bq_rest_0 x1 ρ = some (r, ρ')) (G : rf_G D h0 s ρ H locs) (hl : lv_has ls 3 [(0, .ref h0), (1, .int x1)]) : W p l e ({ frames := 6, cells := 0, slots := 0, locals := 130 }) s m args below meth c H locs 0 0 (MQ below (rf_Q D h0 (some (.int r)) ρ') args s 0 0 (rf_A h0)) (F0 m 0 ls []) := by
  unfold bq_rest_0 at h
  refine lv_iload_n C.1 C.2.1 dX12_rest_0 rfl (lv_at hl 1 rfl) ?_
  refine lv_bipush (v := (21:Int32)) C.1 C.2.1 dX12_rest_1 (by decide) ?_
  refine lv_icmp_ne (tgt := 16) C.1 C.2.1 dX12_rest_3 (by decide) (fun hc => ?_) (fun hc => ?_)
  · rw [if_neg hc] at h
    refine lv_iload_n C.1 C.2.1 dX12_rest_16 rfl (lv_at hl 1 rfl) ?_
    refine lv_bipush (v := (36:Int32)) C.1 C.2.1 dX12_rest_17 (by decide) ?_
    refine lv_icmp_ne (tgt := 32) C.1 C.2.1 dX12_rest_19 (by decide) (fun hc => ?_) (fun hc => ?_)
    · rw [if_neg hc] at h
      refine lv_aload_n C.1 C.2.1 dX12_rest_32 rfl (lv_at hl 0 rfl) ?_
      obtain ⟨r_2, ρ_1, hq, h⟩ := bd2_some h
      refine rf_callV (rest := []) C G cw_wantsRegister [] _ (kq_wantsRegister l D h0 hq) (Nat.le_of_ble_eq_true rfl) (Nat.le_of_ble_eq_true rfl) rfl rfl hl.1 (Nat.le_of_ble_eq_true rfl) (Nat.zero_le _) (Nat.zero_le _) dX12_rest_33 (fun H locs G => ?_)
      refine W.eq (g2 := F0 m 36 ls [.int r_2]) rfl ?_
      refine lv_bipush (v := (18:Int32)) C.1 C.2.1 dX12_rest_36 (by decide) ?_
      refine lv_ishl C.1 C.2.1 dX12_rest_38 ?_
      refine vt_i h (fun x2_3 h => ?_)
      refine lv_istore_n (lv' := [(2, .int x2_3), (0, .ref h0), (1, .int x1)]) C.1 C.2.1 dX12_rest_39 rfl hl (by decide) rfl (fun ls hl => ?_)
      refine lv_aload_n C.1 C.2.1 dX12_rest_40 rfl (lv_at hl 1 rfl) ?_
      refine gf_39 C G dX12_rest_41 ?_
      refine lv_if_ne (tgt := 52) C.1 C.2.1 dX12_rest_44 (by decide) (fun hc => ?_) (fun hc => ?_)
      · rw [if_neg hc] at h
        exact wq_rest_52 C h G (lv_sub hl [1, 2, 0] rfl)
      · rw [if_pos hc] at h
        refine lv_aload_n C.1 C.2.1 dX12_rest_47 rfl (lv_at hl 1 rfl) ?_
        refine lv_iconst (v := (3:Int32)) C.1 C.2.1 dX12_rest_48 (by decide) ?_
        obtain ⟨ρ_10, hq, h⟩ := bd1_some h
        refine rf_callV (rest := []) C G cw_wants [.int (3:Int32)] _ (kq_wants l D h0 hq) (Nat.le_of_ble_eq_true rfl) (Nat.le_of_ble_eq_true rfl) rfl rfl hl.1 (Nat.le_of_ble_eq_true rfl) (Nat.zero_le _) (Nat.zero_le _) dX12_rest_49 (fun H locs G => ?_)
        refine W.eq (g2 := F0 m 52 ls []) rfl ?_
        exact wq_rest_52 C h G (lv_sub hl [1, 2, 0] rfl)
    · rw [if_pos hc] at h
      refine lv_aload_n C.1 C.2.1 dX12_rest_22 rfl (lv_at hl 0 rfl) ?_
      obtain ⟨r_12, ρ_11, hq, h⟩ := bd2_some h
      refine rf_callV (rest := []) C G cw_wantsWay [] _ (kq_wantsWay l D h0 hq) (Nat.le_of_ble_eq_true rfl) (Nat.le_of_ble_eq_true rfl) rfl rfl hl.1 (Nat.le_of_ble_eq_true rfl) (Nat.zero_le _) (Nat.zero_le _) dX12_rest_23 (fun H locs G => ?_)
      refine W.eq (g2 := F0 m 26 ls [.long r_12]) rfl ?_
      refine lv_l2i C.1 C.2.1 dX12_rest_26 rfl ?_
      refine lv_ldcw (v := (262143:Int32)) C.1 C.2.1 C.2.2.2.1 (C.2.2.2.2.1 _ kc_445) dX12_rest_27 ?_
      refine lv_iand C.1 C.2.1 dX12_rest_30 ?_
      exact rf_iret C G h dX12_rest_31
  · rw [if_pos hc] at h
    refine lv_aload_n C.1 C.2.1 dX12_rest_6 rfl (lv_at hl 0 rfl) ?_
    refine lv_lconst (v := (0:Int64)) C.1 C.2.1 dX12_rest_7 (by decide) ?_
    refine lv_ldc2 (v := (262143:Int64)) C.1 C.2.1 C.2.2.2.1 (C.2.2.2.2.1 _ kc_439) dX12_rest_8 ?_
    obtain ⟨r_14, ρ_13, hq, h⟩ := bd2_some h
    refine rf_callV (rest := []) C G cw_wantsNumber [.long (0:Int64), .long (262143:Int64)] _ (kq_wantsNumber l D h0 hq) (Nat.le_of_ble_eq_true rfl) (Nat.le_of_ble_eq_true rfl) rfl rfl hl.1 (Nat.le_of_ble_eq_true rfl) (Nat.zero_le _) (Nat.zero_le _) dX12_rest_11 (fun H locs G => ?_)
    refine W.eq (g2 := F0 m 14 ls [.long r_14]) rfl ?_
    refine lv_l2i C.1 C.2.1 dX12_rest_14 rfl ?_
    exact rf_iret C G h dX12_rest_15
noncomputable def fq_rest (x1 : Int32) (ρ : rf_S) : Option (Int32 × rf_S) := bq_rest_0 x1 ρ
theorem kq_rest (l : Launch) (D : rf_D) (h0 : Nat) {r : Int32} {x1 : Int32} {ρ ρ' : rf_S} (h : fq_rest x1 ρ = some (r, ρ')) : rf_Met l D h0 yX12_rest cX12_rest 3 (some .int) 6 130 [.ref h0, .int x1] ρ (some (.int r)) ρ' :=
  rf_of rfl cc_rest (Nat.le_of_ble_eq_true rfl) (fun p e s m args below meth c ls C G hl => wq_rest_0 C h G hl)
abbrev cX12_one : ByteArray := prog_14_method_34_code
def yX12_one : MethodName := ⟨RX12, "one", "(JI)V"⟩
theorem dX12_one_0 : decode cX12_one 0 = .ok (.iconst 1, 1) := by decide +kernel
theorem dX12_one_1 : decode cX12_one 1 = .ok (.istore 4, 2) := by decide +kernel
theorem dX12_one_3 : decode cX12_one 3 = .ok (.iload 4, 2) := by decide +kernel
theorem dX12_one_5 : decode cX12_one 5 = .ok (.bipush 42, 2) := by decide +kernel
theorem dX12_one_7 : decode cX12_one 7 = .ok (.if_icmp .ge 21, 3) := by decide +kernel
theorem dX12_one_10 : decode cX12_one 10 = .ok (.aload_n 0, 1) := by decide +kernel
theorem dX12_one_11 : decode cX12_one 11 = .ok (.getfield 58, 3) := by decide +kernel
theorem dX12_one_14 : decode cX12_one 14 = .ok (.iload 4, 2) := by decide +kernel
theorem dX12_one_16 : decode cX12_one 16 = .ok (.laload, 1) := by decide +kernel
theorem dX12_one_17 : decode cX12_one 17 = .ok (.lload_n 1, 1) := by decide +kernel
theorem dX12_one_18 : decode cX12_one 18 = .ok (.lcmp, 1) := by decide +kernel
theorem dX12_one_19 : decode cX12_one 19 = .ok (.ifCond .eq 9, 3) := by decide +kernel
theorem dX12_one_22 : decode cX12_one 22 = .ok (.iinc 4 1, 3) := by decide +kernel
theorem dX12_one_25 : decode cX12_one 25 = .ok (.goto (-22), 3) := by decide +kernel
theorem dX12_one_28 : decode cX12_one 28 = .ok (.iload 4, 2) := by decide +kernel
theorem dX12_one_30 : decode cX12_one 30 = .ok (.bipush 42, 2) := by decide +kernel
theorem dX12_one_32 : decode cX12_one 32 = .ok (.if_icmp .ne 10, 3) := by decide +kernel
theorem dX12_one_35 : decode cX12_one 35 = .ok (.aload_n 0, 1) := by decide +kernel
theorem dX12_one_36 : decode cX12_one 36 = .ok (.iconst 3, 1) := by decide +kernel
theorem dX12_one_37 : decode cX12_one 37 = .ok (.iload_n 3, 1) := by decide +kernel
theorem dX12_one_38 : decode cX12_one 38 = .ok (.invokevirtual 389, 3) := by decide +kernel
theorem dX12_one_41 : decode cX12_one 41 = .ok (.return_, 1) := by decide +kernel
theorem dX12_one_42 : decode cX12_one 42 = .ok (.aload_n 0, 1) := by decide +kernel
theorem dX12_one_43 : decode cX12_one 43 = .ok (.getfield 405, 3) := by decide +kernel
theorem dX12_one_46 : decode cX12_one 46 = .ok (.sipush 2048, 3) := by decide +kernel
theorem dX12_one_49 : decode cX12_one 49 = .ok (.if_icmp .ne 18, 3) := by decide +kernel
theorem dX12_one_52 : decode cX12_one 52 = .ok (.iload 4, 2) := by decide +kernel
theorem dX12_one_54 : decode cX12_one 54 = .ok (.bipush 41, 2) := by decide +kernel
theorem dX12_one_56 : decode cX12_one 56 = .ok (.if_icmp .ge 11, 3) := by decide +kernel
theorem dX12_one_59 : decode cX12_one 59 = .ok (.aload_n 0, 1) := by decide +kernel
theorem dX12_one_60 : decode cX12_one 60 = .ok (.bipush 6, 2) := by decide +kernel
theorem dX12_one_62 : decode cX12_one 62 = .ok (.iload_n 3, 1) := by decide +kernel
theorem dX12_one_63 : decode cX12_one 63 = .ok (.invokevirtual 389, 3) := by decide +kernel
theorem dX12_one_66 : decode cX12_one 66 = .ok (.return_, 1) := by decide +kernel
theorem dX12_one_67 : decode cX12_one 67 = .ok (.iload 4, 2) := by decide +kernel
theorem dX12_one_69 : decode cX12_one 69 = .ok (.bipush 41, 2) := by decide +kernel
theorem dX12_one_71 : decode cX12_one 71 = .ok (.if_icmp .ne 85, 3) := by decide +kernel
theorem dX12_one_74 : decode cX12_one 74 = .ok (.aload_n 0, 1) := by decide +kernel
theorem dX12_one_75 : decode cX12_one 75 = .ok (.lconst 1, 1) := by decide +kernel
theorem dX12_one_76 : decode cX12_one 76 = .ok (.ldc2_w 422, 3) := by decide +kernel
theorem dX12_one_79 : decode cX12_one 79 = .ok (.invokevirtual 412, 3) := by decide +kernel
theorem dX12_one_82 : decode cX12_one 82 = .ok (.l2i, 1) := by decide +kernel
theorem dX12_one_83 : decode cX12_one 83 = .ok (.istore 5, 2) := by decide +kernel
theorem dX12_one_85 : decode cX12_one 85 = .ok (.aload_n 0, 1) := by decide +kernel
theorem dX12_one_86 : decode cX12_one 86 = .ok (.getfield 383, 3) := by decide +kernel
theorem dX12_one_89 : decode cX12_one 89 = .ok (.ifCond .ne 23, 3) := by decide +kernel
theorem dX12_one_92 : decode cX12_one 92 = .ok (.aload_n 0, 1) := by decide +kernel
theorem dX12_one_93 : decode cX12_one 93 = .ok (.getfield 405, 3) := by decide +kernel
theorem dX12_one_96 : decode cX12_one 96 = .ok (.iload 5, 2) := by decide +kernel
theorem dX12_one_98 : decode cX12_one 98 = .ok (.iadd, 1) := by decide +kernel
theorem dX12_one_99 : decode cX12_one 99 = .ok (.sipush 2048, 3) := by decide +kernel
theorem dX12_one_102 : decode cX12_one 102 = .ok (.if_icmp .le 10, 3) := by decide +kernel
theorem dX12_one_105 : decode cX12_one 105 = .ok (.aload_n 0, 1) := by decide +kernel
theorem dX12_one_106 : decode cX12_one 106 = .ok (.bipush 6, 2) := by decide +kernel
theorem dX12_one_108 : decode cX12_one 108 = .ok (.iload_n 3, 1) := by decide +kernel
theorem dX12_one_109 : decode cX12_one 109 = .ok (.invokevirtual 389, 3) := by decide +kernel
theorem dX12_one_112 : decode cX12_one 112 = .ok (.iconst 0, 1) := by decide +kernel
theorem dX12_one_113 : decode cX12_one 113 = .ok (.istore 6, 2) := by decide +kernel
theorem dX12_one_115 : decode cX12_one 115 = .ok (.iload 6, 2) := by decide +kernel
theorem dX12_one_117 : decode cX12_one 117 = .ok (.iload 5, 2) := by decide +kernel
theorem dX12_one_119 : decode cX12_one 119 = .ok (.if_icmp .ge 36, 3) := by decide +kernel
theorem dX12_one_122 : decode cX12_one 122 = .ok (.aload_n 0, 1) := by decide +kernel
theorem dX12_one_123 : decode cX12_one 123 = .ok (.getfield 383, 3) := by decide +kernel
theorem dX12_one_126 : decode cX12_one 126 = .ok (.ifCond .ne 29, 3) := by decide +kernel
theorem dX12_one_129 : decode cX12_one 129 = .ok (.aload_n 0, 1) := by decide +kernel
theorem dX12_one_130 : decode cX12_one 130 = .ok (.getfield 74, 3) := by decide +kernel
theorem dX12_one_133 : decode cX12_one 133 = .ok (.aload_n 0, 1) := by decide +kernel
theorem dX12_one_134 : decode cX12_one 134 = .ok (.getfield 405, 3) := by decide +kernel
theorem dX12_one_137 : decode cX12_one 137 = .ok (.iconst 0, 1) := by decide +kernel
theorem dX12_one_138 : decode cX12_one 138 = .ok (.iastore, 1) := by decide +kernel
theorem dX12_one_139 : decode cX12_one 139 = .ok (.aload_n 0, 1) := by decide +kernel
theorem dX12_one_140 : decode cX12_one 140 = .ok (.dup, 1) := by decide +kernel
theorem dX12_one_141 : decode cX12_one 141 = .ok (.getfield 405, 3) := by decide +kernel
theorem dX12_one_144 : decode cX12_one 144 = .ok (.iconst 1, 1) := by decide +kernel
theorem dX12_one_145 : decode cX12_one 145 = .ok (.iadd, 1) := by decide +kernel
theorem dX12_one_146 : decode cX12_one 146 = .ok (.putfield 405, 3) := by decide +kernel
theorem dX12_one_149 : decode cX12_one 149 = .ok (.iinc 6 1, 3) := by decide +kernel
theorem dX12_one_152 : decode cX12_one 152 = .ok (.goto (-37), 3) := by decide +kernel
theorem dX12_one_155 : decode cX12_one 155 = .ok (.return_, 1) := by decide +kernel
theorem dX12_one_156 : decode cX12_one 156 = .ok (.iload 4, 2) := by decide +kernel
theorem dX12_one_158 : decode cX12_one 158 = .ok (.bipush 40, 2) := by decide +kernel
theorem dX12_one_160 : decode cX12_one 160 = .ok (.if_icmp .ne 7, 3) := by decide +kernel
theorem dX12_one_163 : decode cX12_one 163 = .ok (.iconst 0, 1) := by decide +kernel
theorem dX12_one_164 : decode cX12_one 164 = .ok (.goto 8, 3) := by decide +kernel
theorem dX12_one_167 : decode cX12_one 167 = .ok (.iload 4, 2) := by decide +kernel
theorem dX12_one_169 : decode cX12_one 169 = .ok (.bipush 26, 2) := by decide +kernel
theorem dX12_one_171 : decode cX12_one 171 = .ok (.ishl, 1) := by decide +kernel
theorem dX12_one_172 : decode cX12_one 172 = .ok (.istore 5, 2) := by decide +kernel
theorem dX12_one_174 : decode cX12_one 174 = .ok (.iload 4, 2) := by decide +kernel
theorem dX12_one_176 : decode cX12_one 176 = .ok (.bipush 40, 2) := by decide +kernel
theorem dX12_one_178 : decode cX12_one 178 = .ok (.if_icmp .ne 35, 3) := by decide +kernel
theorem dX12_one_181 : decode cX12_one 181 = .ok (.aload_n 0, 1) := by decide +kernel
theorem dX12_one_182 : decode cX12_one 182 = .ok (.getfield 357, 3) := by decide +kernel
theorem dX12_one_185 : decode cX12_one 185 = .ok (.iconst 1, 1) := by decide +kernel
theorem dX12_one_186 : decode cX12_one 186 = .ok (.if_icmp .ne 11, 3) := by decide +kernel
theorem dX12_one_189 : decode cX12_one 189 = .ok (.aload_n 0, 1) := by decide +kernel
theorem dX12_one_190 : decode cX12_one 190 = .ok (.iconst 1, 1) := by decide +kernel
theorem dX12_one_191 : decode cX12_one 191 = .ok (.invokevirtual 416, 3) := by decide +kernel
theorem dX12_one_194 : decode cX12_one 194 = .ok (.goto 92, 3) := by decide +kernel
theorem dX12_one_197 : decode cX12_one 197 = .ok (.aload_n 0, 1) := by decide +kernel
theorem dX12_one_198 : decode cX12_one 198 = .ok (.ldc2_w 424, 3) := by decide +kernel
theorem dX12_one_201 : decode cX12_one 201 = .ok (.ldc2_w 426, 3) := by decide +kernel
theorem dX12_one_204 : decode cX12_one 204 = .ok (.invokevirtual 412, 3) := by decide +kernel
theorem dX12_one_207 : decode cX12_one 207 = .ok (.l2i, 1) := by decide +kernel
theorem dX12_one_208 : decode cX12_one 208 = .ok (.istore 5, 2) := by decide +kernel
theorem dX12_one_210 : decode cX12_one 210 = .ok (.goto 76, 3) := by decide +kernel
theorem dX12_one_213 : decode cX12_one 213 = .ok (.iload 4, 2) := by decide +kernel
theorem dX12_one_215 : decode cX12_one 215 = .ok (.bipush 38, 2) := by decide +kernel
theorem dX12_one_217 : decode cX12_one 217 = .ok (.if_icmp .ge 48, 3) := by decide +kernel
theorem dX12_one_220 : decode cX12_one 220 = .ok (.iload 5, 2) := by decide +kernel
theorem dX12_one_222 : decode cX12_one 222 = .ok (.aload_n 0, 1) := by decide +kernel
theorem dX12_one_223 : decode cX12_one 223 = .ok (.invokevirtual 428, 3) := by decide +kernel
theorem dX12_one_226 : decode cX12_one 226 = .ok (.bipush 22, 2) := by decide +kernel
theorem dX12_one_228 : decode cX12_one 228 = .ok (.ishl, 1) := by decide +kernel
theorem dX12_one_229 : decode cX12_one 229 = .ok (.ior, 1) := by decide +kernel
theorem dX12_one_230 : decode cX12_one 230 = .ok (.istore 5, 2) := by decide +kernel
theorem dX12_one_232 : decode cX12_one 232 = .ok (.aload_n 0, 1) := by decide +kernel
theorem dX12_one_233 : decode cX12_one 233 = .ok (.getfield 383, 3) := by decide +kernel
theorem dX12_one_236 : decode cX12_one 236 = .ok (.ifCond .ne 8, 3) := by decide +kernel
theorem dX12_one_239 : decode cX12_one 239 = .ok (.aload_n 0, 1) := by decide +kernel
theorem dX12_one_240 : decode cX12_one 240 = .ok (.iconst 3, 1) := by decide +kernel
theorem dX12_one_241 : decode cX12_one 241 = .ok (.invokevirtual 432, 3) := by decide +kernel
theorem dX12_one_244 : decode cX12_one 244 = .ok (.aload_n 0, 1) := by decide +kernel
theorem dX12_one_245 : decode cX12_one 245 = .ok (.getfield 383, 3) := by decide +kernel
theorem dX12_one_248 : decode cX12_one 248 = .ok (.ifCond .ne 38, 3) := by decide +kernel
theorem dX12_one_251 : decode cX12_one 251 = .ok (.iload 5, 2) := by decide +kernel
theorem dX12_one_253 : decode cX12_one 253 = .ok (.aload_n 0, 1) := by decide +kernel
theorem dX12_one_254 : decode cX12_one 254 = .ok (.iload 4, 2) := by decide +kernel
theorem dX12_one_256 : decode cX12_one 256 = .ok (.invokevirtual 436, 3) := by decide +kernel
theorem dX12_one_259 : decode cX12_one 259 = .ok (.ior, 1) := by decide +kernel
theorem dX12_one_260 : decode cX12_one 260 = .ok (.istore 5, 2) := by decide +kernel
theorem dX12_one_262 : decode cX12_one 262 = .ok (.goto 24, 3) := by decide +kernel
theorem dX12_one_265 : decode cX12_one 265 = .ok (.iload 4, 2) := by decide +kernel
theorem dX12_one_267 : decode cX12_one 267 = .ok (.bipush 38, 2) := by decide +kernel
theorem dX12_one_269 : decode cX12_one 269 = .ok (.if_icmp .ne 17, 3) := by decide +kernel
theorem dX12_one_272 : decode cX12_one 272 = .ok (.iload 5, 2) := by decide +kernel
theorem dX12_one_274 : decode cX12_one 274 = .ok (.aload_n 0, 1) := by decide +kernel
theorem dX12_one_275 : decode cX12_one 275 = .ok (.lconst 0, 1) := by decide +kernel
theorem dX12_one_276 : decode cX12_one 276 = .ok (.ldc2_w 410, 3) := by decide +kernel
theorem dX12_one_279 : decode cX12_one 279 = .ok (.invokevirtual 412, 3) := by decide +kernel
theorem dX12_one_282 : decode cX12_one 282 = .ok (.l2i, 1) := by decide +kernel
theorem dX12_one_283 : decode cX12_one 283 = .ok (.ior, 1) := by decide +kernel
theorem dX12_one_284 : decode cX12_one 284 = .ok (.istore 5, 2) := by decide +kernel
theorem dX12_one_286 : decode cX12_one 286 = .ok (.aload_n 0, 1) := by decide +kernel
theorem dX12_one_287 : decode cX12_one 287 = .ok (.getfield 383, 3) := by decide +kernel
theorem dX12_one_290 : decode cX12_one 290 = .ok (.ifCond .ne 24, 3) := by decide +kernel
theorem dX12_one_293 : decode cX12_one 293 = .ok (.aload_n 0, 1) := by decide +kernel
theorem dX12_one_294 : decode cX12_one 294 = .ok (.getfield 74, 3) := by decide +kernel
theorem dX12_one_297 : decode cX12_one 297 = .ok (.aload_n 0, 1) := by decide +kernel
theorem dX12_one_298 : decode cX12_one 298 = .ok (.getfield 405, 3) := by decide +kernel
theorem dX12_one_301 : decode cX12_one 301 = .ok (.iload 5, 2) := by decide +kernel
theorem dX12_one_303 : decode cX12_one 303 = .ok (.iastore, 1) := by decide +kernel
theorem dX12_one_304 : decode cX12_one 304 = .ok (.aload_n 0, 1) := by decide +kernel
theorem dX12_one_305 : decode cX12_one 305 = .ok (.dup, 1) := by decide +kernel
theorem dX12_one_306 : decode cX12_one 306 = .ok (.getfield 405, 3) := by decide +kernel
theorem dX12_one_309 : decode cX12_one 309 = .ok (.iconst 1, 1) := by decide +kernel
theorem dX12_one_310 : decode cX12_one 310 = .ok (.iadd, 1) := by decide +kernel
theorem dX12_one_311 : decode cX12_one 311 = .ok (.putfield 405, 3) := by decide +kernel
theorem dX12_one_314 : decode cX12_one 314 = .ok (.return_, 1) := by decide +kernel
theorem cc_one : Cond.code yX12_one cX12_one 7 none ∈ rf_tb := rf_at 1956 (by decide +kernel) (by decide +kernel)
theorem cw_one : rf_wV yX12_one cX12_one 7 none 450 2 := ⟨⟨rf_at 1953 (by decide +kernel) (by decide +kernel), rf_at 1955 (by decide +kernel) (by decide +kernel), rf_sel (q := (yX12_one, 122)) 88 (by decide +kernel) (by decide +kernel), cc_one⟩, rfl, by decide +kernel⟩
theorem kc_422 : Cond.constantLong RX12 422 (2048 : Int64) ∈ rf_tb := rf_at 1957 (by decide +kernel) (by decide +kernel)
theorem kc_424 : Cond.constantLong RX12 424 (-2147483648 : Int64) ∈ rf_tb := rf_at 1970 (by decide +kernel) (by decide +kernel)
theorem kc_426 : Cond.constantLong RX12 426 (4294967295 : Int64) ∈ rf_tb := rf_at 1971 (by decide +kernel) (by decide +kernel)
noncomputable def lq_one_3 (x1 : Int64) (x3 : Int32) (x4 : Int32) (ρ : rf_S) : Option ((Int32 × rf_S) ⊕ (Int32 × rf_S)) := (if (42:Int32) ≤ x4 then some (.inr (x4, ρ)) else ix x4 42 ((if (lg_cmp (ρ.2 13 x4.toNatClampNeg) x1) = 0 then some (.inr (x4, ρ)) else vl (x4 + (1:Int32)) (fun x4_1 => some (.inl (x4_1, ρ))))))
noncomputable def bq_one_286 (x5 : Int32) (ρ : rf_S) : Option (rf_S) := (if (ρ.1 0 39) = 0 then ix (ρ.1 0 30) 2048 (vl (rf_w ρ 18 (ρ.1 0 30).toNatClampNeg x5) (fun ρ_2 => vl (rf_w ρ_2 0 30 ((ρ_2.1 0 30) + (1:Int32))) (fun ρ_3 => some ρ_3))) else some ρ)
set_option maxHeartbeats 4000000 in
theorem wq_one_286 (C : rf_C D p s m args meth c cX12_one 7 none) {x5 : Int32} {ρ ρ' : rf_S} {H : Heap} {locs : List Loc} {ls : Array Slot} (h : bq_one_286 x5 ρ = some ρ') (G : rf_G D h0 s ρ H locs) (hl : lv_has ls 7 [(0, .ref h0), (5, .int x5)]) : W p l e ({ frames := 7, cells := 0, slots := 0, locals := 152 }) s m args below meth c H locs 0 0 (MQ below (rf_Q D h0 none ρ') args s 0 0 (rf_A h0)) (F0 m 286 ls []) := by
  unfold bq_one_286 at h
  refine lv_aload_n C.1 C.2.1 dX12_one_286 rfl (lv_at hl 0 rfl) ?_
  refine gf_39 C G dX12_one_287 ?_
  refine lv_if_ne (tgt := 314) C.1 C.2.1 dX12_one_290 (by decide) (fun hc => ?_) (fun hc => ?_)
  · rw [if_neg hc] at h
    exact rf_vret C G h dX12_one_314
  · rw [if_pos hc] at h
    refine lv_aload_n C.1 C.2.1 dX12_one_293 rfl (lv_at hl 0 rfl) ?_
    refine gf_29 C G dX12_one_294 ?_
    refine lv_aload_n C.1 C.2.1 dX12_one_297 rfl (lv_at hl 0 rfl) ?_
    refine gf_30 C G dX12_one_298 ?_
    refine lv_iload C.1 C.2.1 dX12_one_301 (lv_at hl 1 rfl) ?_
    obtain ⟨hi, h⟩ := ix_some h
    refine rf_iast C G 18 rfl (by decide) rfl rfl hi dX12_one_303 (fun H locs G => ?_)
    refine rf_nm G h (fun ρ_2 G h => ?_)
    refine lv_aload_n C.1 C.2.1 dX12_one_304 rfl (lv_at hl 0 rfl) ?_
    refine lv_dup C.1 C.2.1 dX12_one_305 rfl ?_
    refine gf_30 C G dX12_one_306 ?_
    refine lv_iconst (v := (1:Int32)) C.1 C.2.1 dX12_one_309 (by decide) ?_
    refine lv_iadd C.1 C.2.1 dX12_one_310 ?_
    refine pf_30 C G dX12_one_311 (fun H locs G => ?_)
    refine rf_nm G h (fun ρ_3 G h => ?_)
    exact rf_vret C G h dX12_one_314
noncomputable def bq_one_244 (x4 : Int32) (x5 : Int32) (ρ : rf_S) : Option (rf_S) := (if (ρ.1 0 39) = 0 then bd2 (fq_rest x4 ρ) (fun r_11 ρ_10 => vl (x5 ||| r_11) (fun x5_12 => bq_one_286 x5_12 ρ_10)) else bq_one_286 x5 ρ)
set_option maxHeartbeats 4000000 in
theorem wq_one_244 (C : rf_C D p s m args meth c cX12_one 7 none) {x4 : Int32} {x5 : Int32} {ρ ρ' : rf_S} {H : Heap} {locs : List Loc} {ls : Array Slot} (h : bq_one_244 x4 x5 ρ = some ρ') (G : rf_G D h0 s ρ H locs) (hl : lv_has ls 7 [(0, .ref h0), (4, .int x4), (5, .int x5)]) : W p l e ({ frames := 7, cells := 0, slots := 0, locals := 152 }) s m args below meth c H locs 0 0 (MQ below (rf_Q D h0 none ρ') args s 0 0 (rf_A h0)) (F0 m 244 ls []) := by
  unfold bq_one_244 at h
  refine lv_aload_n C.1 C.2.1 dX12_one_244 rfl (lv_at hl 0 rfl) ?_
  refine gf_39 C G dX12_one_245 ?_
  refine lv_if_ne (tgt := 286) C.1 C.2.1 dX12_one_248 (by decide) (fun hc => ?_) (fun hc => ?_)
  · rw [if_neg hc] at h
    exact wq_one_286 C h G (lv_sub hl [0, 2] rfl)
  · rw [if_pos hc] at h
    refine lv_iload C.1 C.2.1 dX12_one_251 (lv_at hl 2 rfl) ?_
    refine lv_aload_n C.1 C.2.1 dX12_one_253 rfl (lv_at hl 0 rfl) ?_
    refine lv_iload C.1 C.2.1 dX12_one_254 (lv_at hl 1 rfl) ?_
    obtain ⟨r_11, ρ_10, hq, h⟩ := bd2_some h
    refine rf_callV (rest := [.int x5]) C G cw_rest [.int x4] _ (kq_rest l D h0 hq) (Nat.le_of_ble_eq_true rfl) (Nat.le_of_ble_eq_true rfl) rfl rfl hl.1 (Nat.le_of_ble_eq_true rfl) (Nat.zero_le _) (Nat.zero_le _) dX12_one_256 (fun H locs G => ?_)
    refine W.eq (g2 := F0 m 259 ls [.int r_11, .int x5]) rfl ?_
    refine lv_ior C.1 C.2.1 dX12_one_259 ?_
    refine vt_i h (fun x5_12 h => ?_)
    refine lv_istore (lv' := [(5, .int x5_12), (0, .ref h0), (4, .int x4)]) C.1 C.2.1 dX12_one_260 hl (by decide) rfl (fun ls hl => ?_)
    refine lv_goto (tgt := 286) C.1 C.2.1 dX12_one_262 (by decide) ?_
    exact wq_one_286 C h G (lv_sub hl [1, 0] rfl)
noncomputable def bq_one_172 (x4 : Int32) (v0 : Int32) (ρ : rf_S) : Option (rf_S) := (if x4 = (40:Int32) then (if (ρ.1 0 44) = (1:Int32) then bd1 (fq_use_ (1:Int32) ρ) (fun ρ_17 => bq_one_286 v0 ρ_17) else bd2 (fq_wantsNumber (-2147483648:Int64) (4294967295:Int64) ρ) (fun r_15 ρ_14 => vl (r_15.toInt32) (fun x5_16 => bq_one_286 x5_16 ρ_14))) else (if (38:Int32) ≤ x4 then (if x4 = (38:Int32) then bd2 (fq_wantsNumber (0:Int64) (131071:Int64) ρ) (fun r_5 ρ_4 => vl (v0 ||| (r_5.toInt32)) (fun x5_6 => bq_one_286 x5_6 ρ_4)) else bq_one_286 v0 ρ) else bd2 (fq_wantsRegister ρ) (fun r_8 ρ_7 => vl (v0 ||| (r_8 <<< ((22:Int32) &&& 31))) (fun x5_9 => (if (ρ_7.1 0 39) = 0 then bd1 (fq_wants (3:Int32) ρ_7) (fun ρ_13 => bq_one_244 x4 x5_9 ρ_13) else bq_one_244 x4 x5_9 ρ_7)))))
set_option maxHeartbeats 4000000 in
theorem wq_one_172 (C : rf_C D p s m args meth c cX12_one 7 none) {x4 : Int32} {v0 : Int32} {ρ ρ' : rf_S} {H : Heap} {locs : List Loc} {ls : Array Slot} (h : bq_one_172 x4 v0 ρ = some ρ') (G : rf_G D h0 s ρ H locs) (hl : lv_has ls 7 [(0, .ref h0), (4, .int x4)]) : W p l e ({ frames := 7, cells := 0, slots := 0, locals := 152 }) s m args below meth c H locs 0 0 (MQ below (rf_Q D h0 none ρ') args s 0 0 (rf_A h0)) (F0 m 172 ls [.int v0]) := by
  unfold bq_one_172 at h
  refine lv_istore (lv' := [(5, .int v0), (0, .ref h0), (4, .int x4)]) C.1 C.2.1 dX12_one_172 hl (by decide) rfl (fun ls hl => ?_)
  refine lv_iload C.1 C.2.1 dX12_one_174 (lv_at hl 2 rfl) ?_
  refine lv_bipush (v := (40:Int32)) C.1 C.2.1 dX12_one_176 (by decide) ?_
  refine lv_icmp_ne (tgt := 213) C.1 C.2.1 dX12_one_178 (by decide) (fun hc => ?_) (fun hc => ?_)
  · rw [if_neg hc] at h
    refine lv_iload C.1 C.2.1 dX12_one_213 (lv_at hl 2 rfl) ?_
    refine lv_bipush (v := (38:Int32)) C.1 C.2.1 dX12_one_215 (by decide) ?_
    refine lv_icmp_ge (tgt := 265) C.1 C.2.1 dX12_one_217 (by decide) (fun hc => ?_) (fun hc => ?_)
    · rw [if_pos hc] at h
      refine lv_iload C.1 C.2.1 dX12_one_265 (lv_at hl 2 rfl) ?_
      refine lv_bipush (v := (38:Int32)) C.1 C.2.1 dX12_one_267 (by decide) ?_
      refine lv_icmp_ne (tgt := 286) C.1 C.2.1 dX12_one_269 (by decide) (fun hc => ?_) (fun hc => ?_)
      · rw [if_neg hc] at h
        exact wq_one_286 C h G (lv_sub hl [1, 0] rfl)
      · rw [if_pos hc] at h
        refine lv_iload C.1 C.2.1 dX12_one_272 (lv_at hl 0 rfl) ?_
        refine lv_aload_n C.1 C.2.1 dX12_one_274 rfl (lv_at hl 1 rfl) ?_
        refine lv_lconst (v := (0:Int64)) C.1 C.2.1 dX12_one_275 (by decide) ?_
        refine lv_ldc2 (v := (131071:Int64)) C.1 C.2.1 C.2.2.2.1 (C.2.2.2.2.1 _ kc_410) dX12_one_276 ?_
        obtain ⟨r_5, ρ_4, hq, h⟩ := bd2_some h
        refine rf_callV (rest := [.int v0]) C G cw_wantsNumber [.long (0:Int64), .long (131071:Int64)] _ (kq_wantsNumber l D h0 hq) (Nat.le_of_ble_eq_true rfl) (Nat.le_of_ble_eq_true rfl) rfl rfl hl.1 (Nat.le_of_ble_eq_true rfl) (Nat.zero_le _) (Nat.zero_le _) dX12_one_279 (fun H locs G => ?_)
        refine W.eq (g2 := F0 m 282 ls [.long r_5, .int v0]) rfl ?_
        refine lv_l2i C.1 C.2.1 dX12_one_282 rfl ?_
        refine lv_ior C.1 C.2.1 dX12_one_283 ?_
        refine vt_i h (fun x5_6 h => ?_)
        refine lv_istore (lv' := [(5, .int x5_6), (0, .ref h0), (4, .int x4)]) C.1 C.2.1 dX12_one_284 hl (by decide) rfl (fun ls hl => ?_)
        exact wq_one_286 C h G (lv_sub hl [1, 0] rfl)
    · rw [if_neg hc] at h
      refine lv_iload C.1 C.2.1 dX12_one_220 (lv_at hl 0 rfl) ?_
      refine lv_aload_n C.1 C.2.1 dX12_one_222 rfl (lv_at hl 1 rfl) ?_
      obtain ⟨r_8, ρ_7, hq, h⟩ := bd2_some h
      refine rf_callV (rest := [.int v0]) C G cw_wantsRegister [] _ (kq_wantsRegister l D h0 hq) (Nat.le_of_ble_eq_true rfl) (Nat.le_of_ble_eq_true rfl) rfl rfl hl.1 (Nat.le_of_ble_eq_true rfl) (Nat.zero_le _) (Nat.zero_le _) dX12_one_223 (fun H locs G => ?_)
      refine W.eq (g2 := F0 m 226 ls [.int r_8, .int v0]) rfl ?_
      refine lv_bipush (v := (22:Int32)) C.1 C.2.1 dX12_one_226 (by decide) ?_
      refine lv_ishl C.1 C.2.1 dX12_one_228 ?_
      refine lv_ior C.1 C.2.1 dX12_one_229 ?_
      refine vt_i h (fun x5_9 h => ?_)
      refine lv_istore (lv' := [(5, .int x5_9), (0, .ref h0), (4, .int x4)]) C.1 C.2.1 dX12_one_230 hl (by decide) rfl (fun ls hl => ?_)
      refine lv_aload_n C.1 C.2.1 dX12_one_232 rfl (lv_at hl 1 rfl) ?_
      refine gf_39 C G dX12_one_233 ?_
      refine lv_if_ne (tgt := 244) C.1 C.2.1 dX12_one_236 (by decide) (fun hc => ?_) (fun hc => ?_)
      · rw [if_neg hc] at h
        exact wq_one_244 C h G (lv_sub hl [1, 2, 0] rfl)
      · rw [if_pos hc] at h
        refine lv_aload_n C.1 C.2.1 dX12_one_239 rfl (lv_at hl 1 rfl) ?_
        refine lv_iconst (v := (3:Int32)) C.1 C.2.1 dX12_one_240 (by decide) ?_
        obtain ⟨ρ_13, hq, h⟩ := bd1_some h
        refine rf_callV (rest := []) C G cw_wants [.int (3:Int32)] _ (kq_wants l D h0 hq) (Nat.le_of_ble_eq_true rfl) (Nat.le_of_ble_eq_true rfl) rfl rfl hl.1 (Nat.le_of_ble_eq_true rfl) (Nat.zero_le _) (Nat.zero_le _) dX12_one_241 (fun H locs G => ?_)
        refine W.eq (g2 := F0 m 244 ls []) rfl ?_
        exact wq_one_244 C h G (lv_sub hl [1, 2, 0] rfl)
  · rw [if_pos hc] at h
    refine lv_aload_n C.1 C.2.1 dX12_one_181 rfl (lv_at hl 1 rfl) ?_
    refine gf_44 C G dX12_one_182 ?_
    refine lv_iconst (v := (1:Int32)) C.1 C.2.1 dX12_one_185 (by decide) ?_
    refine lv_icmp_ne (tgt := 197) C.1 C.2.1 dX12_one_186 (by decide) (fun hc => ?_) (fun hc => ?_)
    · rw [if_neg hc] at h
      refine lv_aload_n C.1 C.2.1 dX12_one_197 rfl (lv_at hl 1 rfl) ?_
      refine lv_ldc2 (v := (-2147483648:Int64)) C.1 C.2.1 C.2.2.2.1 (C.2.2.2.2.1 _ kc_424) dX12_one_198 ?_
      refine lv_ldc2 (v := (4294967295:Int64)) C.1 C.2.1 C.2.2.2.1 (C.2.2.2.2.1 _ kc_426) dX12_one_201 ?_
      obtain ⟨r_15, ρ_14, hq, h⟩ := bd2_some h
      refine rf_callV (rest := []) C G cw_wantsNumber [.long (-2147483648:Int64), .long (4294967295:Int64)] _ (kq_wantsNumber l D h0 hq) (Nat.le_of_ble_eq_true rfl) (Nat.le_of_ble_eq_true rfl) rfl rfl hl.1 (Nat.le_of_ble_eq_true rfl) (Nat.zero_le _) (Nat.zero_le _) dX12_one_204 (fun H locs G => ?_)
      refine W.eq (g2 := F0 m 207 ls [.long r_15]) rfl ?_
      refine lv_l2i C.1 C.2.1 dX12_one_207 rfl ?_
      refine vt_i h (fun x5_16 h => ?_)
      refine lv_istore (lv' := [(5, .int x5_16), (0, .ref h0), (4, .int x4)]) C.1 C.2.1 dX12_one_208 hl (by decide) rfl (fun ls hl => ?_)
      refine lv_goto (tgt := 286) C.1 C.2.1 dX12_one_210 (by decide) ?_
      exact wq_one_286 C h G (lv_sub hl [1, 0] rfl)
    · rw [if_pos hc] at h
      refine lv_aload_n C.1 C.2.1 dX12_one_189 rfl (lv_at hl 1 rfl) ?_
      refine lv_iconst (v := (1:Int32)) C.1 C.2.1 dX12_one_190 (by decide) ?_
      obtain ⟨ρ_17, hq, h⟩ := bd1_some h
      refine rf_callV (rest := []) C G cw_use_ [.int (1:Int32)] _ (kq_use_ l D h0 hq) (Nat.le_of_ble_eq_true rfl) (Nat.le_of_ble_eq_true rfl) rfl rfl hl.1 (Nat.le_of_ble_eq_true rfl) (Nat.zero_le _) (Nat.zero_le _) dX12_one_191 (fun H locs G => ?_)
      refine W.eq (g2 := F0 m 194 ls []) rfl ?_
      refine lv_goto (tgt := 286) C.1 C.2.1 dX12_one_194 (by decide) ?_
      exact wq_one_286 C h G (lv_sub hl [1, 0] rfl)
noncomputable def lq_one_115 (x5 : Int32) (x6 : Int32) (ρ : rf_S) : Option ((Int32 × rf_S) ⊕ (Int32 × rf_S)) := (if x5 ≤ x6 then some (.inr (x6, ρ)) else (if (ρ.1 0 39) = 0 then ix (ρ.1 0 30) 2048 (vl (rf_w ρ 18 (ρ.1 0 30).toNatClampNeg (0:Int32)) (fun ρ_21 => vl (rf_w ρ_21 0 30 ((ρ_21.1 0 30) + (1:Int32))) (fun ρ_22 => vl (x6 + (1:Int32)) (fun x6_23 => some (.inl (x6_23, ρ_22)))))) else some (.inr (x6, ρ))))
noncomputable def eq_one_115 (x5 : Int32) (x6 : Int32) (ρ : rf_S) : Option (rf_S) := some ρ
noncomputable def bq_one_115 (x5 : Int32) (x6 : Int32) (ρ : rf_S) : Option (rf_S) := (lp (fun z : (Int32 × rf_S) => lq_one_115 x5 z.1 z.2) (x6, ρ)).bind (fun z => eq_one_115 x5 z.1 z.2)
set_option maxHeartbeats 4000000 in
theorem wq_one_115 (C : rf_C D p s m args meth c cX12_one 7 none) {x5 : Int32} {x6 : Int32} {ρ ρ' : rf_S} {H : Heap} {locs : List Loc} {ls : Array Slot} (h : bq_one_115 x5 x6 ρ = some ρ') (G : rf_G D h0 s ρ H locs) (hl : lv_has ls 7 [(0, .ref h0), (5, .int x5), (6, .int x6)]) : W p l e ({ frames := 7, cells := 0, slots := 0, locals := 152 }) s m args below meth c H locs 0 0 (MQ below (rf_Q D h0 none ρ') args s 0 0 (rf_A h0)) (F0 m 115 ls []) := by
  unfold bq_one_115 at h
  obtain ⟨y, hy, h⟩ := bd_some h
  have hE : (fun z : (Int32 × rf_S) => ∀ (H : Heap) (locs : List Loc) (ls : Array Slot), rf_G D h0 s z.2 H locs → lv_has ls 7 [(0, .ref h0), (5, .int x5), (6, .int z.1)] → W p l e ({ frames := 7, cells := 0, slots := 0, locals := 152 }) s m args below meth c H locs 0 0 (MQ below (rf_Q D h0 none ρ') args s 0 0 (rf_A h0)) (F0 m 155 ls [])) y := by
    intro H locs ls G hl
    obtain ⟨x6, ρ⟩ := y
    dsimp only at h G hl
    unfold eq_one_115 at h
    exact rf_vret C G h dX12_one_155
  refine lp_recE (fun z : (Int32 × rf_S) => ∀ (H : Heap) (locs : List Loc) (ls : Array Slot), rf_G D h0 s z.2 H locs → lv_has ls 7 [(0, .ref h0), (5, .int x5), (6, .int z.1)] → W p l e ({ frames := 7, cells := 0, slots := 0, locals := 152 }) s m args below meth c H locs 0 0 (MQ below (rf_Q D h0 none ρ') args s 0 0 (rf_A h0)) (F0 m 115 ls [])) (fun z : (Int32 × rf_S) => ∀ (H : Heap) (locs : List Loc) (ls : Array Slot), rf_G D h0 s z.2 H locs → lv_has ls 7 [(0, .ref h0), (5, .int x5), (6, .int z.1)] → W p l e ({ frames := 7, cells := 0, slots := 0, locals := 152 }) s m args below meth c H locs 0 0 (MQ below (rf_Q D h0 none ρ') args s 0 0 (rf_A h0)) (F0 m 155 ls [])) ?_ _ _ hy hE _ _ _ G hl
  clear hE hy G hl h
  intro z o h hP H locs ls G hl
  obtain ⟨x6, ρ⟩ := z
  dsimp only at h G hl
  unfold lq_one_115 at h
  refine lv_iload C.1 C.2.1 dX12_one_115 (lv_at hl 2 rfl) ?_
  refine lv_iload C.1 C.2.1 dX12_one_117 (lv_at hl 1 rfl) ?_
  refine lv_icmp_ge (tgt := 155) C.1 C.2.1 dX12_one_119 (by decide) (fun hc => ?_) (fun hc => ?_)
  · rw [if_pos hc] at h
    cases h
    exact hP _ _ _ G (lv_sub hl [0, 1, 2] rfl)
  · rw [if_neg hc] at h
    refine lv_aload_n C.1 C.2.1 dX12_one_122 rfl (lv_at hl 0 rfl) ?_
    refine gf_39 C G dX12_one_123 ?_
    refine lv_if_ne (tgt := 155) C.1 C.2.1 dX12_one_126 (by decide) (fun hc => ?_) (fun hc => ?_)
    · rw [if_neg hc] at h
      cases h
      exact hP _ _ _ G (lv_sub hl [0, 1, 2] rfl)
    · rw [if_pos hc] at h
      refine lv_aload_n C.1 C.2.1 dX12_one_129 rfl (lv_at hl 0 rfl) ?_
      refine gf_29 C G dX12_one_130 ?_
      refine lv_aload_n C.1 C.2.1 dX12_one_133 rfl (lv_at hl 0 rfl) ?_
      refine gf_30 C G dX12_one_134 ?_
      refine lv_iconst (v := (0:Int32)) C.1 C.2.1 dX12_one_137 (by decide) ?_
      obtain ⟨hi, h⟩ := ix_some h
      refine rf_iast C G 18 rfl (by decide) rfl rfl hi dX12_one_138 (fun H locs G => ?_)
      refine rf_nm G h (fun ρ_21 G h => ?_)
      refine lv_aload_n C.1 C.2.1 dX12_one_139 rfl (lv_at hl 0 rfl) ?_
      refine lv_dup C.1 C.2.1 dX12_one_140 rfl ?_
      refine gf_30 C G dX12_one_141 ?_
      refine lv_iconst (v := (1:Int32)) C.1 C.2.1 dX12_one_144 (by decide) ?_
      refine lv_iadd C.1 C.2.1 dX12_one_145 ?_
      refine pf_30 C G dX12_one_146 (fun H locs G => ?_)
      refine rf_nm G h (fun ρ_22 G h => ?_)
      refine vl_ex h (fun x6_23 ey h => ?_)
      refine lv_iinc (v := x6_23) (lv' := [(6, .int x6_23), (0, .ref h0), (5, .int x5)]) C.1 C.2.1 dX12_one_149 hl (k := 2) rfl (by rw [ey]; rfl) (by decide) rfl (fun ls hl => ?_)
      refine lv_goto (tgt := 115) C.1 C.2.1 dX12_one_152 (by decide) ?_
      cases h
      exact hP _ _ _ G (lv_sub hl [1, 2, 0] rfl)
noncomputable def bq_one_112 (x5 : Int32) (ρ : rf_S) : Option (rf_S) := bq_one_115 x5 (0:Int32) ρ
set_option maxHeartbeats 4000000 in
theorem wq_one_112 (C : rf_C D p s m args meth c cX12_one 7 none) {x5 : Int32} {ρ ρ' : rf_S} {H : Heap} {locs : List Loc} {ls : Array Slot} (h : bq_one_112 x5 ρ = some ρ') (G : rf_G D h0 s ρ H locs) (hl : lv_has ls 7 [(0, .ref h0), (5, .int x5)]) : W p l e ({ frames := 7, cells := 0, slots := 0, locals := 152 }) s m args below meth c H locs 0 0 (MQ below (rf_Q D h0 none ρ') args s 0 0 (rf_A h0)) (F0 m 112 ls []) := by
  unfold bq_one_112 at h
  refine lv_iconst (v := (0:Int32)) C.1 C.2.1 dX12_one_112 (by decide) ?_
  refine lv_istore (lv' := [(6, .int (0:Int32)), (0, .ref h0), (5, .int x5)]) C.1 C.2.1 dX12_one_113 hl (by decide) rfl (fun ls hl => ?_)
  exact wq_one_115 C h G (lv_sub hl [1, 2, 0] rfl)
noncomputable def bq_one_67 (x3 : Int32) (x4 : Int32) (ρ : rf_S) : Option (rf_S) := (if x4 = (41:Int32) then bd2 (fq_wantsNumber (1:Int64) (2048:Int64) ρ) (fun r_19 ρ_18 => vl (r_19.toInt32) (fun x5_20 => (if (ρ_18.1 0 39) = 0 then (if ((ρ_18.1 0 30) + x5_20) ≤ (2048:Int32) then bq_one_112 x5_20 ρ_18 else bd1 (fq_fault (6:Int32) x3 ρ_18) (fun ρ_24 => bq_one_112 x5_20 ρ_24)) else bq_one_112 x5_20 ρ_18))) else (if x4 = (40:Int32) then bq_one_172 x4 (0:Int32) ρ else bq_one_172 x4 (x4 <<< ((26:Int32) &&& 31)) ρ))
set_option maxHeartbeats 4000000 in
theorem wq_one_67 (C : rf_C D p s m args meth c cX12_one 7 none) {x3 : Int32} {x4 : Int32} {ρ ρ' : rf_S} {H : Heap} {locs : List Loc} {ls : Array Slot} (h : bq_one_67 x3 x4 ρ = some ρ') (G : rf_G D h0 s ρ H locs) (hl : lv_has ls 7 [(0, .ref h0), (3, .int x3), (4, .int x4)]) : W p l e ({ frames := 7, cells := 0, slots := 0, locals := 152 }) s m args below meth c H locs 0 0 (MQ below (rf_Q D h0 none ρ') args s 0 0 (rf_A h0)) (F0 m 67 ls []) := by
  unfold bq_one_67 at h
  refine lv_iload C.1 C.2.1 dX12_one_67 (lv_at hl 2 rfl) ?_
  refine lv_bipush (v := (41:Int32)) C.1 C.2.1 dX12_one_69 (by decide) ?_
  refine lv_icmp_ne (tgt := 156) C.1 C.2.1 dX12_one_71 (by decide) (fun hc => ?_) (fun hc => ?_)
  · rw [if_neg hc] at h
    refine lv_iload C.1 C.2.1 dX12_one_156 (lv_at hl 2 rfl) ?_
    refine lv_bipush (v := (40:Int32)) C.1 C.2.1 dX12_one_158 (by decide) ?_
    refine lv_icmp_ne (tgt := 167) C.1 C.2.1 dX12_one_160 (by decide) (fun hc => ?_) (fun hc => ?_)
    · rw [if_neg hc] at h
      refine lv_iload C.1 C.2.1 dX12_one_167 (lv_at hl 2 rfl) ?_
      refine lv_bipush (v := (26:Int32)) C.1 C.2.1 dX12_one_169 (by decide) ?_
      refine lv_ishl C.1 C.2.1 dX12_one_171 ?_
      exact wq_one_172 C h G (lv_sub hl [0, 2] rfl)
    · rw [if_pos hc] at h
      refine lv_iconst (v := (0:Int32)) C.1 C.2.1 dX12_one_163 (by decide) ?_
      refine lv_goto (tgt := 172) C.1 C.2.1 dX12_one_164 (by decide) ?_
      exact wq_one_172 C h G (lv_sub hl [0, 2] rfl)
  · rw [if_pos hc] at h
    refine lv_aload_n C.1 C.2.1 dX12_one_74 rfl (lv_at hl 0 rfl) ?_
    refine lv_lconst (v := (1:Int64)) C.1 C.2.1 dX12_one_75 (by decide) ?_
    refine lv_ldc2 (v := (2048:Int64)) C.1 C.2.1 C.2.2.2.1 (C.2.2.2.2.1 _ kc_422) dX12_one_76 ?_
    obtain ⟨r_19, ρ_18, hq, h⟩ := bd2_some h
    refine rf_callV (rest := []) C G cw_wantsNumber [.long (1:Int64), .long (2048:Int64)] _ (kq_wantsNumber l D h0 hq) (Nat.le_of_ble_eq_true rfl) (Nat.le_of_ble_eq_true rfl) rfl rfl hl.1 (Nat.le_of_ble_eq_true rfl) (Nat.zero_le _) (Nat.zero_le _) dX12_one_79 (fun H locs G => ?_)
    refine W.eq (g2 := F0 m 82 ls [.long r_19]) rfl ?_
    refine lv_l2i C.1 C.2.1 dX12_one_82 rfl ?_
    refine vt_i h (fun x5_20 h => ?_)
    refine lv_istore (lv' := [(5, .int x5_20), (0, .ref h0), (3, .int x3), (4, .int x4)]) C.1 C.2.1 dX12_one_83 hl (by decide) rfl (fun ls hl => ?_)
    refine lv_aload_n C.1 C.2.1 dX12_one_85 rfl (lv_at hl 1 rfl) ?_
    refine gf_39 C G dX12_one_86 ?_
    refine lv_if_ne (tgt := 112) C.1 C.2.1 dX12_one_89 (by decide) (fun hc => ?_) (fun hc => ?_)
    · rw [if_neg hc] at h
      exact wq_one_112 C h G (lv_sub hl [1, 0] rfl)
    · rw [if_pos hc] at h
      refine lv_aload_n C.1 C.2.1 dX12_one_92 rfl (lv_at hl 1 rfl) ?_
      refine gf_30 C G dX12_one_93 ?_
      refine lv_iload C.1 C.2.1 dX12_one_96 (lv_at hl 0 rfl) ?_
      refine lv_iadd C.1 C.2.1 dX12_one_98 ?_
      refine lv_sipush (v := (2048:Int32)) C.1 C.2.1 dX12_one_99 (by decide) ?_
      refine lv_icmp_le (tgt := 112) C.1 C.2.1 dX12_one_102 (by decide) (fun hc => ?_) (fun hc => ?_)
      · rw [if_pos hc] at h
        exact wq_one_112 C h G (lv_sub hl [1, 0] rfl)
      · rw [if_neg hc] at h
        refine lv_aload_n C.1 C.2.1 dX12_one_105 rfl (lv_at hl 1 rfl) ?_
        refine lv_bipush (v := (6:Int32)) C.1 C.2.1 dX12_one_106 (by decide) ?_
        refine lv_iload_n C.1 C.2.1 dX12_one_108 rfl (lv_at hl 2 rfl) ?_
        obtain ⟨ρ_24, hq, h⟩ := bd1_some h
        refine rf_callV (rest := []) C G cw_fault [.int (6:Int32), .int x3] _ (kq_fault l D h0 hq) (Nat.le_of_ble_eq_true rfl) (Nat.le_of_ble_eq_true rfl) rfl rfl hl.1 (Nat.le_of_ble_eq_true rfl) (Nat.zero_le _) (Nat.zero_le _) dX12_one_109 (fun H locs G => ?_)
        refine W.eq (g2 := F0 m 112 ls []) rfl ?_
        exact wq_one_112 C h G (lv_sub hl [1, 0] rfl)
noncomputable def bq_one_28 (x3 : Int32) (x4 : Int32) (ρ : rf_S) : Option (rf_S) := (if x4 = (42:Int32) then bd1 (fq_fault (3:Int32) x3 ρ) (fun ρ_26 => some ρ_26) else (if (ρ.1 0 30) = (2048:Int32) then (if (41:Int32) ≤ x4 then bq_one_67 x3 x4 ρ else bd1 (fq_fault (6:Int32) x3 ρ) (fun ρ_25 => some ρ_25)) else bq_one_67 x3 x4 ρ))
set_option maxHeartbeats 4000000 in
theorem wq_one_28 (C : rf_C D p s m args meth c cX12_one 7 none) {x3 : Int32} {x4 : Int32} {ρ ρ' : rf_S} {H : Heap} {locs : List Loc} {ls : Array Slot} (h : bq_one_28 x3 x4 ρ = some ρ') (G : rf_G D h0 s ρ H locs) (hl : lv_has ls 7 [(0, .ref h0), (3, .int x3), (4, .int x4)]) : W p l e ({ frames := 7, cells := 0, slots := 0, locals := 152 }) s m args below meth c H locs 0 0 (MQ below (rf_Q D h0 none ρ') args s 0 0 (rf_A h0)) (F0 m 28 ls []) := by
  unfold bq_one_28 at h
  refine lv_iload C.1 C.2.1 dX12_one_28 (lv_at hl 2 rfl) ?_
  refine lv_bipush (v := (42:Int32)) C.1 C.2.1 dX12_one_30 (by decide) ?_
  refine lv_icmp_ne (tgt := 42) C.1 C.2.1 dX12_one_32 (by decide) (fun hc => ?_) (fun hc => ?_)
  · rw [if_neg hc] at h
    refine lv_aload_n C.1 C.2.1 dX12_one_42 rfl (lv_at hl 0 rfl) ?_
    refine gf_30 C G dX12_one_43 ?_
    refine lv_sipush (v := (2048:Int32)) C.1 C.2.1 dX12_one_46 (by decide) ?_
    refine lv_icmp_ne (tgt := 67) C.1 C.2.1 dX12_one_49 (by decide) (fun hc => ?_) (fun hc => ?_)
    · rw [if_neg hc] at h
      exact wq_one_67 C h G (lv_sub hl [0, 1, 2] rfl)
    · rw [if_pos hc] at h
      refine lv_iload C.1 C.2.1 dX12_one_52 (lv_at hl 2 rfl) ?_
      refine lv_bipush (v := (41:Int32)) C.1 C.2.1 dX12_one_54 (by decide) ?_
      refine lv_icmp_ge (tgt := 67) C.1 C.2.1 dX12_one_56 (by decide) (fun hc => ?_) (fun hc => ?_)
      · rw [if_pos hc] at h
        exact wq_one_67 C h G (lv_sub hl [0, 1, 2] rfl)
      · rw [if_neg hc] at h
        refine lv_aload_n C.1 C.2.1 dX12_one_59 rfl (lv_at hl 0 rfl) ?_
        refine lv_bipush (v := (6:Int32)) C.1 C.2.1 dX12_one_60 (by decide) ?_
        refine lv_iload_n C.1 C.2.1 dX12_one_62 rfl (lv_at hl 1 rfl) ?_
        obtain ⟨ρ_25, hq, h⟩ := bd1_some h
        refine rf_callV (rest := []) C G cw_fault [.int (6:Int32), .int x3] _ (kq_fault l D h0 hq) (Nat.le_of_ble_eq_true rfl) (Nat.le_of_ble_eq_true rfl) rfl rfl hl.1 (Nat.le_of_ble_eq_true rfl) (Nat.zero_le _) (Nat.zero_le _) dX12_one_63 (fun H locs G => ?_)
        refine W.eq (g2 := F0 m 66 ls []) rfl ?_
        exact rf_vret C G h dX12_one_66
  · rw [if_pos hc] at h
    refine lv_aload_n C.1 C.2.1 dX12_one_35 rfl (lv_at hl 0 rfl) ?_
    refine lv_iconst (v := (3:Int32)) C.1 C.2.1 dX12_one_36 (by decide) ?_
    refine lv_iload_n C.1 C.2.1 dX12_one_37 rfl (lv_at hl 1 rfl) ?_
    obtain ⟨ρ_26, hq, h⟩ := bd1_some h
    refine rf_callV (rest := []) C G cw_fault [.int (3:Int32), .int x3] _ (kq_fault l D h0 hq) (Nat.le_of_ble_eq_true rfl) (Nat.le_of_ble_eq_true rfl) rfl rfl hl.1 (Nat.le_of_ble_eq_true rfl) (Nat.zero_le _) (Nat.zero_le _) dX12_one_38 (fun H locs G => ?_)
    refine W.eq (g2 := F0 m 41 ls []) rfl ?_
    exact rf_vret C G h dX12_one_41
noncomputable def eq_one_3 (x1 : Int64) (x3 : Int32) (x4 : Int32) (ρ : rf_S) : Option (rf_S) := bq_one_28 x3 x4 ρ
noncomputable def bq_one_3 (x1 : Int64) (x3 : Int32) (x4 : Int32) (ρ : rf_S) : Option (rf_S) := (lp (fun z : (Int32 × rf_S) => lq_one_3 x1 x3 z.1 z.2) (x4, ρ)).bind (fun z => eq_one_3 x1 x3 z.1 z.2)
set_option maxHeartbeats 4000000 in
theorem wq_one_3 (C : rf_C D p s m args meth c cX12_one 7 none) {x1 : Int64} {x3 : Int32} {x4 : Int32} {ρ ρ' : rf_S} {H : Heap} {locs : List Loc} {ls : Array Slot} (h : bq_one_3 x1 x3 x4 ρ = some ρ') (G : rf_G D h0 s ρ H locs) (hl : lv_has ls 7 [(0, .ref h0), (1, .long x1), (3, .int x3), (4, .int x4)]) : W p l e ({ frames := 7, cells := 0, slots := 0, locals := 152 }) s m args below meth c H locs 0 0 (MQ below (rf_Q D h0 none ρ') args s 0 0 (rf_A h0)) (F0 m 3 ls []) := by
  unfold bq_one_3 at h
  obtain ⟨y, hy, h⟩ := bd_some h
  have hE : (fun z : (Int32 × rf_S) => ∀ (H : Heap) (locs : List Loc) (ls : Array Slot), rf_G D h0 s z.2 H locs → lv_has ls 7 [(0, .ref h0), (1, .long x1), (3, .int x3), (4, .int z.1)] → W p l e ({ frames := 7, cells := 0, slots := 0, locals := 152 }) s m args below meth c H locs 0 0 (MQ below (rf_Q D h0 none ρ') args s 0 0 (rf_A h0)) (F0 m 28 ls [])) y := by
    intro H locs ls G hl
    obtain ⟨x4, ρ⟩ := y
    dsimp only at h G hl
    unfold eq_one_3 at h
    exact wq_one_28 C h G (lv_sub hl [0, 2, 3] rfl)
  refine lp_recE (fun z : (Int32 × rf_S) => ∀ (H : Heap) (locs : List Loc) (ls : Array Slot), rf_G D h0 s z.2 H locs → lv_has ls 7 [(0, .ref h0), (1, .long x1), (3, .int x3), (4, .int z.1)] → W p l e ({ frames := 7, cells := 0, slots := 0, locals := 152 }) s m args below meth c H locs 0 0 (MQ below (rf_Q D h0 none ρ') args s 0 0 (rf_A h0)) (F0 m 3 ls [])) (fun z : (Int32 × rf_S) => ∀ (H : Heap) (locs : List Loc) (ls : Array Slot), rf_G D h0 s z.2 H locs → lv_has ls 7 [(0, .ref h0), (1, .long x1), (3, .int x3), (4, .int z.1)] → W p l e ({ frames := 7, cells := 0, slots := 0, locals := 152 }) s m args below meth c H locs 0 0 (MQ below (rf_Q D h0 none ρ') args s 0 0 (rf_A h0)) (F0 m 28 ls [])) ?_ _ _ hy hE _ _ _ G hl
  clear hE hy G hl h
  intro z o h hP H locs ls G hl
  obtain ⟨x4, ρ⟩ := z
  dsimp only at h G hl
  unfold lq_one_3 at h
  refine lv_iload C.1 C.2.1 dX12_one_3 (lv_at hl 3 rfl) ?_
  refine lv_bipush (v := (42:Int32)) C.1 C.2.1 dX12_one_5 (by decide) ?_
  refine lv_icmp_ge (tgt := 28) C.1 C.2.1 dX12_one_7 (by decide) (fun hc => ?_) (fun hc => ?_)
  · rw [if_pos hc] at h
    cases h
    exact hP _ _ _ G (lv_sub hl [0, 1, 2, 3] rfl)
  · rw [if_neg hc] at h
    refine lv_aload_n C.1 C.2.1 dX12_one_10 rfl (lv_at hl 0 rfl) ?_
    refine gf_22 C G dX12_one_11 ?_
    refine lv_iload C.1 C.2.1 dX12_one_14 (lv_at hl 3 rfl) ?_
    obtain ⟨hi, h⟩ := ix_some h
    refine rf_lald C G 13 rfl (by decide) rfl rfl hi dX12_one_16 ?_
    refine lv_lload_n C.1 C.2.1 dX12_one_17 rfl (lv_at hl 1 rfl) ?_
    refine W.lcmp C.1 C.2.1 dX12_one_18 ?_
    refine lv_if_eq (tgt := 28) C.1 C.2.1 dX12_one_19 (by decide) (fun hc => ?_) (fun hc => ?_)
    · rw [if_pos hc] at h
      cases h
      exact hP _ _ _ G (lv_sub hl [0, 1, 2, 3] rfl)
    · rw [if_neg hc] at h
      refine vl_ex h (fun x4_1 ey h => ?_)
      refine lv_iinc (v := x4_1) (lv' := [(4, .int x4_1), (0, .ref h0), (1, .long x1), (3, .int x3)]) C.1 C.2.1 dX12_one_22 hl (k := 3) rfl (by rw [ey]; rfl) (by decide) rfl (fun ls hl => ?_)
      refine lv_goto (tgt := 3) C.1 C.2.1 dX12_one_25 (by decide) ?_
      cases h
      exact hP _ _ _ G (lv_sub hl [1, 2, 3, 0] rfl)
noncomputable def bq_one_0 (x1 : Int64) (x3 : Int32) (ρ : rf_S) : Option (rf_S) := bq_one_3 x1 x3 (1:Int32) ρ
set_option maxHeartbeats 4000000 in
theorem wq_one_0 (C : rf_C D p s m args meth c cX12_one 7 none) {x1 : Int64} {x3 : Int32} {ρ ρ' : rf_S} {H : Heap} {locs : List Loc} {ls : Array Slot} (h : bq_one_0 x1 x3 ρ = some ρ') (G : rf_G D h0 s ρ H locs) (hl : lv_has ls 7 [(0, .ref h0), (1, .long x1), (3, .int x3)]) : W p l e ({ frames := 7, cells := 0, slots := 0, locals := 152 }) s m args below meth c H locs 0 0 (MQ below (rf_Q D h0 none ρ') args s 0 0 (rf_A h0)) (F0 m 0 ls []) := by
  unfold bq_one_0 at h
  refine lv_iconst (v := (1:Int32)) C.1 C.2.1 dX12_one_0 (by decide) ?_
  refine lv_istore (lv' := [(4, .int (1:Int32)), (0, .ref h0), (1, .long x1), (3, .int x3)]) C.1 C.2.1 dX12_one_1 hl (by decide) rfl (fun ls hl => ?_)
  exact wq_one_3 C h G (lv_sub hl [1, 2, 3, 0] rfl)
noncomputable def fq_one (x1 : Int64) (x3 : Int32) (ρ : rf_S) : Option (rf_S) := bq_one_0 x1 x3 ρ
theorem kq_one (l : Launch) (D : rf_D) (h0 : Nat) {x1 : Int64} {x3 : Int32} {ρ ρ' : rf_S} (h : fq_one x1 x3 ρ = some ρ') : rf_Met l D h0 yX12_one cX12_one 7 none 7 152 [.ref h0, .long x1, .int x3] ρ none ρ' :=
  rf_of rfl cc_one (Nat.le_of_ble_eq_true rfl) (fun p e s m args below meth c ls C G hl => wq_one_0 C h G hl)
abbrev cX12_line : ByteArray := prog_14_method_36_code
def yX12_line : MethodName := ⟨RX12, "line", "()V"⟩
theorem dX12_line_0 : decode cX12_line 0 = .ok (.aload_n 0, 1) := by decide +kernel
theorem dX12_line_1 : decode cX12_line 1 = .ok (.getfield 369, 3) := by decide +kernel
theorem dX12_line_4 : decode cX12_line 4 = .ok (.lstore_n 1, 1) := by decide +kernel
theorem dX12_line_5 : decode cX12_line 5 = .ok (.aload_n 0, 1) := by decide +kernel
theorem dX12_line_6 : decode cX12_line 6 = .ok (.getfield 354, 3) := by decide +kernel
theorem dX12_line_9 : decode cX12_line 9 = .ok (.istore_n 3, 1) := by decide +kernel
theorem dX12_line_10 : decode cX12_line 10 = .ok (.aload_n 0, 1) := by decide +kernel
theorem dX12_line_11 : decode cX12_line 11 = .ok (.invokevirtual 392, 3) := by decide +kernel
theorem dX12_line_14 : decode cX12_line 14 = .ok (.aload_n 0, 1) := by decide +kernel
theorem dX12_line_15 : decode cX12_line 15 = .ok (.getfield 357, 3) := by decide +kernel
theorem dX12_line_18 : decode cX12_line 18 = .ok (.iconst 4, 1) := by decide +kernel
theorem dX12_line_19 : decode cX12_line 19 = .ok (.if_icmp .ne 43, 3) := by decide +kernel
theorem dX12_line_22 : decode cX12_line 22 = .ok (.aload_n 0, 1) := by decide +kernel
theorem dX12_line_23 : decode cX12_line 23 = .ok (.lload_n 1, 1) := by decide +kernel
theorem dX12_line_24 : decode cX12_line 24 = .ok (.iload_n 3, 1) := by decide +kernel
theorem dX12_line_25 : decode cX12_line 25 = .ok (.invokevirtual 446, 3) := by decide +kernel
theorem dX12_line_28 : decode cX12_line 28 = .ok (.aload_n 0, 1) := by decide +kernel
theorem dX12_line_29 : decode cX12_line 29 = .ok (.invokevirtual 392, 3) := by decide +kernel
theorem dX12_line_32 : decode cX12_line 32 = .ok (.aload_n 0, 1) := by decide +kernel
theorem dX12_line_33 : decode cX12_line 33 = .ok (.getfield 357, 3) := by decide +kernel
theorem dX12_line_36 : decode cX12_line 36 = .ok (.iconst 1, 1) := by decide +kernel
theorem dX12_line_37 : decode cX12_line 37 = .ok (.if_icmp .ne 10, 3) := by decide +kernel
theorem dX12_line_40 : decode cX12_line 40 = .ok (.aload_n 0, 1) := by decide +kernel
theorem dX12_line_41 : decode cX12_line 41 = .ok (.getfield 383, 3) := by decide +kernel
theorem dX12_line_44 : decode cX12_line 44 = .ok (.ifCond .le 4, 3) := by decide +kernel
theorem dX12_line_47 : decode cX12_line 47 = .ok (.return_, 1) := by decide +kernel
theorem dX12_line_48 : decode cX12_line 48 = .ok (.aload_n 0, 1) := by decide +kernel
theorem dX12_line_49 : decode cX12_line 49 = .ok (.getfield 369, 3) := by decide +kernel
theorem dX12_line_52 : decode cX12_line 52 = .ok (.lstore_n 1, 1) := by decide +kernel
theorem dX12_line_53 : decode cX12_line 53 = .ok (.aload_n 0, 1) := by decide +kernel
theorem dX12_line_54 : decode cX12_line 54 = .ok (.getfield 354, 3) := by decide +kernel
theorem dX12_line_57 : decode cX12_line 57 = .ok (.istore_n 3, 1) := by decide +kernel
theorem dX12_line_58 : decode cX12_line 58 = .ok (.aload_n 0, 1) := by decide +kernel
theorem dX12_line_59 : decode cX12_line 59 = .ok (.invokevirtual 392, 3) := by decide +kernel
theorem dX12_line_62 : decode cX12_line 62 = .ok (.aload_n 0, 1) := by decide +kernel
theorem dX12_line_63 : decode cX12_line 63 = .ok (.lload_n 1, 1) := by decide +kernel
theorem dX12_line_64 : decode cX12_line 64 = .ok (.iload_n 3, 1) := by decide +kernel
theorem dX12_line_65 : decode cX12_line 65 = .ok (.invokevirtual 450, 3) := by decide +kernel
theorem dX12_line_68 : decode cX12_line 68 = .ok (.return_, 1) := by decide +kernel
theorem cc_line : Cond.code yX12_line cX12_line 4 none ∈ rf_tb := rf_at 1944 (by decide +kernel) (by decide +kernel)
theorem cw_line : rf_wV yX12_line cX12_line 4 none 453 0 := ⟨⟨rf_at 1941 (by decide +kernel) (by decide +kernel), rf_at 1943 (by decide +kernel) (by decide +kernel), rf_sel (q := (yX12_line, 122)) 85 (by decide +kernel) (by decide +kernel), cc_line⟩, rfl, by decide +kernel⟩
noncomputable def bq_line_62 (x1 : Int64) (x3 : Int32) (ρ : rf_S) : Option (rf_S) := bd1 (fq_one x1 x3 ρ) (fun ρ_4 => some ρ_4)
set_option maxHeartbeats 4000000 in
theorem wq_line_62 (C : rf_C D p s m args meth c cX12_line 4 none) {x1 : Int64} {x3 : Int32} {ρ ρ' : rf_S} {H : Heap} {locs : List Loc} {ls : Array Slot} (h : bq_line_62 x1 x3 ρ = some ρ') (G : rf_G D h0 s ρ H locs) (hl : lv_has ls 4 [(0, .ref h0), (1, .long x1), (3, .int x3)]) : W p l e ({ frames := 8, cells := 0, slots := 0, locals := 178 }) s m args below meth c H locs 0 0 (MQ below (rf_Q D h0 none ρ') args s 0 0 (rf_A h0)) (F0 m 62 ls []) := by
  unfold bq_line_62 at h
  refine lv_aload_n C.1 C.2.1 dX12_line_62 rfl (lv_at hl 0 rfl) ?_
  refine lv_lload_n C.1 C.2.1 dX12_line_63 rfl (lv_at hl 1 rfl) ?_
  refine lv_iload_n C.1 C.2.1 dX12_line_64 rfl (lv_at hl 2 rfl) ?_
  obtain ⟨ρ_4, hq, h⟩ := bd1_some h
  refine rf_callV (rest := []) C G cw_one [.long x1, .int x3] _ (kq_one l D h0 hq) (Nat.le_of_ble_eq_true rfl) (Nat.le_of_ble_eq_true rfl) rfl rfl hl.1 (Nat.le_of_ble_eq_true rfl) (Nat.zero_le _) (Nat.zero_le _) dX12_line_65 (fun H locs G => ?_)
  refine W.eq (g2 := F0 m 68 ls []) rfl ?_
  exact rf_vret C G h dX12_line_68
noncomputable def bq_line_0  (ρ : rf_S) : Option (rf_S) := vl (ρ.2 0 46) (fun x1_1 => vl (ρ.1 0 45) (fun x3_2 => bd1 (fq_next ρ) (fun ρ_3 => (if (ρ_3.1 0 44) = (4:Int32) then bd1 (fq_label x1_1 x3_2 ρ_3) (fun ρ_5 => bd1 (fq_next ρ_5) (fun ρ_6 => (if (ρ_6.1 0 44) = (1:Int32) then (if (ρ_6.1 0 39) ≤ 0 then vl (ρ_6.2 0 46) (fun x1_7 => vl (ρ_6.1 0 45) (fun x3_8 => bd1 (fq_next ρ_6) (fun ρ_9 => bq_line_62 x1_7 x3_8 ρ_9))) else some ρ_6) else some ρ_6))) else bq_line_62 x1_1 x3_2 ρ_3))))
set_option maxHeartbeats 4000000 in
theorem wq_line_0 (C : rf_C D p s m args meth c cX12_line 4 none) {ρ ρ' : rf_S} {H : Heap} {locs : List Loc} {ls : Array Slot} (h : bq_line_0 ρ = some ρ') (G : rf_G D h0 s ρ H locs) (hl : lv_has ls 4 [(0, .ref h0)]) : W p l e ({ frames := 8, cells := 0, slots := 0, locals := 178 }) s m args below meth c H locs 0 0 (MQ below (rf_Q D h0 none ρ') args s 0 0 (rf_A h0)) (F0 m 0 ls []) := by
  unfold bq_line_0 at h
  refine lv_aload_n C.1 C.2.1 dX12_line_0 rfl (lv_at hl 0 rfl) ?_
  refine gf_46 C G dX12_line_1 ?_
  refine vt_l h (fun x1_1 h => ?_)
  refine lv_lstore_n (lv' := [(1, .long x1_1), (0, .ref h0)]) C.1 C.2.1 dX12_line_4 rfl hl (by decide) rfl (fun ls hl => ?_)
  refine lv_aload_n C.1 C.2.1 dX12_line_5 rfl (lv_at hl 1 rfl) ?_
  refine gf_45 C G dX12_line_6 ?_
  refine vt_i h (fun x3_2 h => ?_)
  refine lv_istore_n (lv' := [(3, .int x3_2), (1, .long x1_1), (0, .ref h0)]) C.1 C.2.1 dX12_line_9 rfl hl (by decide) rfl (fun ls hl => ?_)
  refine lv_aload_n C.1 C.2.1 dX12_line_10 rfl (lv_at hl 2 rfl) ?_
  obtain ⟨ρ_3, hq, h⟩ := bd1_some h
  refine rf_callV (rest := []) C G cw_next [] _ (kq_next l D h0 hq) (Nat.le_of_ble_eq_true rfl) (Nat.le_of_ble_eq_true rfl) rfl rfl hl.1 (Nat.le_of_ble_eq_true rfl) (Nat.zero_le _) (Nat.zero_le _) dX12_line_11 (fun H locs G => ?_)
  refine W.eq (g2 := F0 m 14 ls []) rfl ?_
  refine lv_aload_n C.1 C.2.1 dX12_line_14 rfl (lv_at hl 2 rfl) ?_
  refine gf_44 C G dX12_line_15 ?_
  refine lv_iconst (v := (4:Int32)) C.1 C.2.1 dX12_line_18 (by decide) ?_
  refine lv_icmp_ne (tgt := 62) C.1 C.2.1 dX12_line_19 (by decide) (fun hc => ?_) (fun hc => ?_)
  · rw [if_neg hc] at h
    exact wq_line_62 C h G (lv_sub hl [2, 1, 0] rfl)
  · rw [if_pos hc] at h
    refine lv_aload_n C.1 C.2.1 dX12_line_22 rfl (lv_at hl 2 rfl) ?_
    refine lv_lload_n C.1 C.2.1 dX12_line_23 rfl (lv_at hl 1 rfl) ?_
    refine lv_iload_n C.1 C.2.1 dX12_line_24 rfl (lv_at hl 0 rfl) ?_
    obtain ⟨ρ_5, hq, h⟩ := bd1_some h
    refine rf_callV (rest := []) C G cw_label [.long x1_1, .int x3_2] _ (kq_label l D h0 hq) (Nat.le_of_ble_eq_true rfl) (Nat.le_of_ble_eq_true rfl) rfl rfl hl.1 (Nat.le_of_ble_eq_true rfl) (Nat.zero_le _) (Nat.zero_le _) dX12_line_25 (fun H locs G => ?_)
    refine W.eq (g2 := F0 m 28 ls []) rfl ?_
    refine lv_aload_n C.1 C.2.1 dX12_line_28 rfl (lv_at hl 2 rfl) ?_
    obtain ⟨ρ_6, hq, h⟩ := bd1_some h
    refine rf_callV (rest := []) C G cw_next [] _ (kq_next l D h0 hq) (Nat.le_of_ble_eq_true rfl) (Nat.le_of_ble_eq_true rfl) rfl rfl hl.1 (Nat.le_of_ble_eq_true rfl) (Nat.zero_le _) (Nat.zero_le _) dX12_line_29 (fun H locs G => ?_)
    refine W.eq (g2 := F0 m 32 ls []) rfl ?_
    refine lv_aload_n C.1 C.2.1 dX12_line_32 rfl (lv_at hl 2 rfl) ?_
    refine gf_44 C G dX12_line_33 ?_
    refine lv_iconst (v := (1:Int32)) C.1 C.2.1 dX12_line_36 (by decide) ?_
    refine lv_icmp_ne (tgt := 47) C.1 C.2.1 dX12_line_37 (by decide) (fun hc => ?_) (fun hc => ?_)
    · rw [if_neg hc] at h
      exact rf_vret C G h dX12_line_47
    · rw [if_pos hc] at h
      refine lv_aload_n C.1 C.2.1 dX12_line_40 rfl (lv_at hl 2 rfl) ?_
      refine gf_39 C G dX12_line_41 ?_
      refine lv_if_le (tgt := 48) C.1 C.2.1 dX12_line_44 (by decide) (fun hc => ?_) (fun hc => ?_)
      · rw [if_pos hc] at h
        refine lv_aload_n C.1 C.2.1 dX12_line_48 rfl (lv_at hl 2 rfl) ?_
        refine gf_46 C G dX12_line_49 ?_
        refine vt_l h (fun x1_7 h => ?_)
        refine lv_lstore_n (lv' := [(1, .long x1_7), (3, .int x3_2), (0, .ref h0)]) C.1 C.2.1 dX12_line_52 rfl hl (by decide) rfl (fun ls hl => ?_)
        refine lv_aload_n C.1 C.2.1 dX12_line_53 rfl (lv_at hl 2 rfl) ?_
        refine gf_45 C G dX12_line_54 ?_
        refine vt_i h (fun x3_8 h => ?_)
        refine lv_istore_n (lv' := [(3, .int x3_8), (1, .long x1_7), (0, .ref h0)]) C.1 C.2.1 dX12_line_57 rfl hl (by decide) rfl (fun ls hl => ?_)
        refine lv_aload_n C.1 C.2.1 dX12_line_58 rfl (lv_at hl 2 rfl) ?_
        obtain ⟨ρ_9, hq, h⟩ := bd1_some h
        refine rf_callV (rest := []) C G cw_next [] _ (kq_next l D h0 hq) (Nat.le_of_ble_eq_true rfl) (Nat.le_of_ble_eq_true rfl) rfl rfl hl.1 (Nat.le_of_ble_eq_true rfl) (Nat.zero_le _) (Nat.zero_le _) dX12_line_59 (fun H locs G => ?_)
        refine W.eq (g2 := F0 m 62 ls []) rfl ?_
        exact wq_line_62 C h G (lv_sub hl [2, 1, 0] rfl)
      · rw [if_neg hc] at h
        exact rf_vret C G h dX12_line_47
noncomputable def fq_line  (ρ : rf_S) : Option (rf_S) := bq_line_0 ρ
theorem kq_line (l : Launch) (D : rf_D) (h0 : Nat) {ρ ρ' : rf_S} (h : fq_line ρ = some ρ') : rf_Met l D h0 yX12_line cX12_line 4 none 8 178 [.ref h0] ρ none ρ' :=
  rf_of rfl cc_line (Nat.le_of_ble_eq_true rfl) (fun p e s m args below meth c ls C G hl => wq_line_0 C h G hl)
abbrev cX12_assemble : ByteArray := prog_14_method_37_code
def yX12_assemble : MethodName := ⟨RX12, "assemble", "()I"⟩
theorem dX12_assemble_0 : decode cX12_assemble 0 = .ok (.aload_n 0, 1) := by decide +kernel
theorem dX12_assemble_1 : decode cX12_assemble 1 = .ok (.iconst 0, 1) := by decide +kernel
theorem dX12_assemble_2 : decode cX12_assemble 2 = .ok (.putfield 345, 3) := by decide +kernel
theorem dX12_assemble_5 : decode cX12_assemble 5 = .ok (.aload_n 0, 1) := by decide +kernel
theorem dX12_assemble_6 : decode cX12_assemble 6 = .ok (.iconst 0, 1) := by decide +kernel
theorem dX12_assemble_7 : decode cX12_assemble 7 = .ok (.putfield 405, 3) := by decide +kernel
theorem dX12_assemble_10 : decode cX12_assemble 10 = .ok (.aload_n 0, 1) := by decide +kernel
theorem dX12_assemble_11 : decode cX12_assemble 11 = .ok (.iconst 0, 1) := by decide +kernel
theorem dX12_assemble_12 : decode cX12_assemble 12 = .ok (.putfield 419, 3) := by decide +kernel
theorem dX12_assemble_15 : decode cX12_assemble 15 = .ok (.aload_n 0, 1) := by decide +kernel
theorem dX12_assemble_16 : decode cX12_assemble 16 = .ok (.iconst 0, 1) := by decide +kernel
theorem dX12_assemble_17 : decode cX12_assemble 17 = .ok (.putfield 402, 3) := by decide +kernel
theorem dX12_assemble_20 : decode cX12_assemble 20 = .ok (.aload_n 0, 1) := by decide +kernel
theorem dX12_assemble_21 : decode cX12_assemble 21 = .ok (.iconst 0, 1) := by decide +kernel
theorem dX12_assemble_22 : decode cX12_assemble 22 = .ok (.putfield 383, 3) := by decide +kernel
theorem dX12_assemble_25 : decode cX12_assemble 25 = .ok (.aload_n 0, 1) := by decide +kernel
theorem dX12_assemble_26 : decode cX12_assemble 26 = .ok (.invokevirtual 392, 3) := by decide +kernel
theorem dX12_assemble_29 : decode cX12_assemble 29 = .ok (.aload_n 0, 1) := by decide +kernel
theorem dX12_assemble_30 : decode cX12_assemble 30 = .ok (.getfield 357, 3) := by decide +kernel
theorem dX12_assemble_33 : decode cX12_assemble 33 = .ok (.ifCond .eq 45, 3) := by decide +kernel
theorem dX12_assemble_36 : decode cX12_assemble 36 = .ok (.aload_n 0, 1) := by decide +kernel
theorem dX12_assemble_37 : decode cX12_assemble 37 = .ok (.getfield 383, 3) := by decide +kernel
theorem dX12_assemble_40 : decode cX12_assemble 40 = .ok (.ifCond .ne 38, 3) := by decide +kernel
theorem dX12_assemble_43 : decode cX12_assemble 43 = .ok (.aload_n 0, 1) := by decide +kernel
theorem dX12_assemble_44 : decode cX12_assemble 44 = .ok (.getfield 357, 3) := by decide +kernel
theorem dX12_assemble_47 : decode cX12_assemble 47 = .ok (.iconst 1, 1) := by decide +kernel
theorem dX12_assemble_48 : decode cX12_assemble 48 = .ok (.if_icmp .ne 7, 3) := by decide +kernel
theorem dX12_assemble_51 : decode cX12_assemble 51 = .ok (.aload_n 0, 1) := by decide +kernel
theorem dX12_assemble_52 : decode cX12_assemble 52 = .ok (.invokevirtual 453, 3) := by decide +kernel
theorem dX12_assemble_55 : decode cX12_assemble 55 = .ok (.aload_n 0, 1) := by decide +kernel
theorem dX12_assemble_56 : decode cX12_assemble 56 = .ok (.getfield 383, 3) := by decide +kernel
theorem dX12_assemble_59 : decode cX12_assemble 59 = .ok (.ifCond .ne (-30), 3) := by decide +kernel
theorem dX12_assemble_62 : decode cX12_assemble 62 = .ok (.aload_n 0, 1) := by decide +kernel
theorem dX12_assemble_63 : decode cX12_assemble 63 = .ok (.getfield 357, 3) := by decide +kernel
theorem dX12_assemble_66 : decode cX12_assemble 66 = .ok (.ifCond .eq (-37), 3) := by decide +kernel
theorem dX12_assemble_69 : decode cX12_assemble 69 = .ok (.aload_n 0, 1) := by decide +kernel
theorem dX12_assemble_70 : decode cX12_assemble 70 = .ok (.bipush 6, 2) := by decide +kernel
theorem dX12_assemble_72 : decode cX12_assemble 72 = .ok (.invokevirtual 432, 3) := by decide +kernel
theorem dX12_assemble_75 : decode cX12_assemble 75 = .ok (.goto (-46), 3) := by decide +kernel
theorem dX12_assemble_78 : decode cX12_assemble 78 = .ok (.iconst 0, 1) := by decide +kernel
theorem dX12_assemble_79 : decode cX12_assemble 79 = .ok (.istore_n 1, 1) := by decide +kernel
theorem dX12_assemble_80 : decode cX12_assemble 80 = .ok (.iload_n 1, 1) := by decide +kernel
theorem dX12_assemble_81 : decode cX12_assemble 81 = .ok (.aload_n 0, 1) := by decide +kernel
theorem dX12_assemble_82 : decode cX12_assemble 82 = .ok (.getfield 402, 3) := by decide +kernel
theorem dX12_assemble_85 : decode cX12_assemble 85 = .ok (.if_icmp .ge 133, 3) := by decide +kernel
theorem dX12_assemble_88 : decode cX12_assemble 88 = .ok (.aload_n 0, 1) := by decide +kernel
theorem dX12_assemble_89 : decode cX12_assemble 89 = .ok (.getfield 383, 3) := by decide +kernel
theorem dX12_assemble_92 : decode cX12_assemble 92 = .ok (.ifCond .ne 126, 3) := by decide +kernel
theorem dX12_assemble_95 : decode cX12_assemble 95 = .ok (.iconst 0, 1) := by decide +kernel
theorem dX12_assemble_96 : decode cX12_assemble 96 = .ok (.istore_n 2, 1) := by decide +kernel
theorem dX12_assemble_97 : decode cX12_assemble 97 = .ok (.iload_n 2, 1) := by decide +kernel
theorem dX12_assemble_98 : decode cX12_assemble 98 = .ok (.aload_n 0, 1) := by decide +kernel
theorem dX12_assemble_99 : decode cX12_assemble 99 = .ok (.getfield 419, 3) := by decide +kernel
theorem dX12_assemble_102 : decode cX12_assemble 102 = .ok (.if_icmp .ge 25, 3) := by decide +kernel
theorem dX12_assemble_105 : decode cX12_assemble 105 = .ok (.aload_n 0, 1) := by decide +kernel
theorem dX12_assemble_106 : decode cX12_assemble 106 = .ok (.getfield 77, 3) := by decide +kernel
theorem dX12_assemble_109 : decode cX12_assemble 109 = .ok (.iload_n 2, 1) := by decide +kernel
theorem dX12_assemble_110 : decode cX12_assemble 110 = .ok (.laload, 1) := by decide +kernel
theorem dX12_assemble_111 : decode cX12_assemble 111 = .ok (.aload_n 0, 1) := by decide +kernel
theorem dX12_assemble_112 : decode cX12_assemble 112 = .ok (.getfield 89, 3) := by decide +kernel
theorem dX12_assemble_115 : decode cX12_assemble 115 = .ok (.iload_n 1, 1) := by decide +kernel
theorem dX12_assemble_116 : decode cX12_assemble 116 = .ok (.laload, 1) := by decide +kernel
theorem dX12_assemble_117 : decode cX12_assemble 117 = .ok (.lcmp, 1) := by decide +kernel
theorem dX12_assemble_118 : decode cX12_assemble 118 = .ok (.ifCond .eq 9, 3) := by decide +kernel
theorem dX12_assemble_121 : decode cX12_assemble 121 = .ok (.iinc 2 1, 3) := by decide +kernel
theorem dX12_assemble_124 : decode cX12_assemble 124 = .ok (.goto (-27), 3) := by decide +kernel
theorem dX12_assemble_127 : decode cX12_assemble 127 = .ok (.iload_n 2, 1) := by decide +kernel
theorem dX12_assemble_128 : decode cX12_assemble 128 = .ok (.aload_n 0, 1) := by decide +kernel
theorem dX12_assemble_129 : decode cX12_assemble 129 = .ok (.getfield 419, 3) := by decide +kernel
theorem dX12_assemble_132 : decode cX12_assemble 132 = .ok (.if_icmp .ne 18, 3) := by decide +kernel
theorem dX12_assemble_135 : decode cX12_assemble 135 = .ok (.aload_n 0, 1) := by decide +kernel
theorem dX12_assemble_136 : decode cX12_assemble 136 = .ok (.bipush 7, 2) := by decide +kernel
theorem dX12_assemble_138 : decode cX12_assemble 138 = .ok (.aload_n 0, 1) := by decide +kernel
theorem dX12_assemble_139 : decode cX12_assemble 139 = .ok (.getfield 86, 3) := by decide +kernel
theorem dX12_assemble_142 : decode cX12_assemble 142 = .ok (.iload_n 1, 1) := by decide +kernel
theorem dX12_assemble_143 : decode cX12_assemble 143 = .ok (.iaload, 1) := by decide +kernel
theorem dX12_assemble_144 : decode cX12_assemble 144 = .ok (.invokevirtual 389, 3) := by decide +kernel
theorem dX12_assemble_147 : decode cX12_assemble 147 = .ok (.goto 65, 3) := by decide +kernel
theorem dX12_assemble_150 : decode cX12_assemble 150 = .ok (.aload_n 0, 1) := by decide +kernel
theorem dX12_assemble_151 : decode cX12_assemble 151 = .ok (.getfield 92, 3) := by decide +kernel
theorem dX12_assemble_154 : decode cX12_assemble 154 = .ok (.iload_n 1, 1) := by decide +kernel
theorem dX12_assemble_155 : decode cX12_assemble 155 = .ok (.baload, 1) := by decide +kernel
theorem dX12_assemble_156 : decode cX12_assemble 156 = .ok (.ifCond .eq 25, 3) := by decide +kernel
theorem dX12_assemble_159 : decode cX12_assemble 159 = .ok (.aload_n 0, 1) := by decide +kernel
theorem dX12_assemble_160 : decode cX12_assemble 160 = .ok (.getfield 74, 3) := by decide +kernel
theorem dX12_assemble_163 : decode cX12_assemble 163 = .ok (.aload_n 0, 1) := by decide +kernel
theorem dX12_assemble_164 : decode cX12_assemble 164 = .ok (.getfield 83, 3) := by decide +kernel
theorem dX12_assemble_167 : decode cX12_assemble 167 = .ok (.iload_n 1, 1) := by decide +kernel
theorem dX12_assemble_168 : decode cX12_assemble 168 = .ok (.iaload, 1) := by decide +kernel
theorem dX12_assemble_169 : decode cX12_assemble 169 = .ok (.iconst 4, 1) := by decide +kernel
theorem dX12_assemble_170 : decode cX12_assemble 170 = .ok (.aload_n 0, 1) := by decide +kernel
theorem dX12_assemble_171 : decode cX12_assemble 171 = .ok (.getfield 80, 3) := by decide +kernel
theorem dX12_assemble_174 : decode cX12_assemble 174 = .ok (.iload_n 2, 1) := by decide +kernel
theorem dX12_assemble_175 : decode cX12_assemble 175 = .ok (.iaload, 1) := by decide +kernel
theorem dX12_assemble_176 : decode cX12_assemble 176 = .ok (.imul, 1) := by decide +kernel
theorem dX12_assemble_177 : decode cX12_assemble 177 = .ok (.iastore, 1) := by decide +kernel
theorem dX12_assemble_178 : decode cX12_assemble 178 = .ok (.goto 34, 3) := by decide +kernel
theorem dX12_assemble_181 : decode cX12_assemble 181 = .ok (.aload_n 0, 1) := by decide +kernel
theorem dX12_assemble_182 : decode cX12_assemble 182 = .ok (.getfield 74, 3) := by decide +kernel
theorem dX12_assemble_185 : decode cX12_assemble 185 = .ok (.aload_n 0, 1) := by decide +kernel
theorem dX12_assemble_186 : decode cX12_assemble 186 = .ok (.getfield 83, 3) := by decide +kernel
theorem dX12_assemble_189 : decode cX12_assemble 189 = .ok (.iload_n 1, 1) := by decide +kernel
theorem dX12_assemble_190 : decode cX12_assemble 190 = .ok (.iaload, 1) := by decide +kernel
theorem dX12_assemble_191 : decode cX12_assemble 191 = .ok (.dup2, 1) := by decide +kernel
theorem dX12_assemble_192 : decode cX12_assemble 192 = .ok (.iaload, 1) := by decide +kernel
theorem dX12_assemble_193 : decode cX12_assemble 193 = .ok (.aload_n 0, 1) := by decide +kernel
theorem dX12_assemble_194 : decode cX12_assemble 194 = .ok (.getfield 80, 3) := by decide +kernel
theorem dX12_assemble_197 : decode cX12_assemble 197 = .ok (.iload_n 2, 1) := by decide +kernel
theorem dX12_assemble_198 : decode cX12_assemble 198 = .ok (.iaload, 1) := by decide +kernel
theorem dX12_assemble_199 : decode cX12_assemble 199 = .ok (.aload_n 0, 1) := by decide +kernel
theorem dX12_assemble_200 : decode cX12_assemble 200 = .ok (.getfield 83, 3) := by decide +kernel
theorem dX12_assemble_203 : decode cX12_assemble 203 = .ok (.iload_n 1, 1) := by decide +kernel
theorem dX12_assemble_204 : decode cX12_assemble 204 = .ok (.iaload, 1) := by decide +kernel
theorem dX12_assemble_205 : decode cX12_assemble 205 = .ok (.isub, 1) := by decide +kernel
theorem dX12_assemble_206 : decode cX12_assemble 206 = .ok (.ldc_w 445, 3) := by decide +kernel
theorem dX12_assemble_209 : decode cX12_assemble 209 = .ok (.iand, 1) := by decide +kernel
theorem dX12_assemble_210 : decode cX12_assemble 210 = .ok (.ior, 1) := by decide +kernel
theorem dX12_assemble_211 : decode cX12_assemble 211 = .ok (.iastore, 1) := by decide +kernel
theorem dX12_assemble_212 : decode cX12_assemble 212 = .ok (.iinc 1 1, 3) := by decide +kernel
theorem dX12_assemble_215 : decode cX12_assemble 215 = .ok (.goto (-135), 3) := by decide +kernel
theorem dX12_assemble_218 : decode cX12_assemble 218 = .ok (.aload_n 0, 1) := by decide +kernel
theorem dX12_assemble_219 : decode cX12_assemble 219 = .ok (.iconst 0, 1) := by decide +kernel
theorem dX12_assemble_220 : decode cX12_assemble 220 = .ok (.putfield 338, 3) := by decide +kernel
theorem dX12_assemble_223 : decode cX12_assemble 223 = .ok (.aload_n 0, 1) := by decide +kernel
theorem dX12_assemble_224 : decode cX12_assemble 224 = .ok (.aload_n 0, 1) := by decide +kernel
theorem dX12_assemble_225 : decode cX12_assemble 225 = .ok (.getfield 383, 3) := by decide +kernel
theorem dX12_assemble_228 : decode cX12_assemble 228 = .ok (.ifCond .le 10, 3) := by decide +kernel
theorem dX12_assemble_231 : decode cX12_assemble 231 = .ok (.aload_n 0, 1) := by decide +kernel
theorem dX12_assemble_232 : decode cX12_assemble 232 = .ok (.getfield 386, 3) := by decide +kernel
theorem dX12_assemble_235 : decode cX12_assemble 235 = .ok (.goto 4, 3) := by decide +kernel
theorem dX12_assemble_238 : decode cX12_assemble 238 = .ok (.iconst (-1), 1) := by decide +kernel
theorem dX12_assemble_239 : decode cX12_assemble 239 = .ok (.putfield 95, 3) := by decide +kernel
theorem dX12_assemble_242 : decode cX12_assemble 242 = .ok (.aload_n 0, 1) := by decide +kernel
theorem dX12_assemble_243 : decode cX12_assemble 243 = .ok (.getfield 383, 3) := by decide +kernel
theorem dX12_assemble_246 : decode cX12_assemble 246 = .ok (.ifCond .le 11, 3) := by decide +kernel
theorem dX12_assemble_249 : decode cX12_assemble 249 = .ok (.bipush (-10), 2) := by decide +kernel
theorem dX12_assemble_251 : decode cX12_assemble 251 = .ok (.aload_n 0, 1) := by decide +kernel
theorem dX12_assemble_252 : decode cX12_assemble 252 = .ok (.getfield 383, 3) := by decide +kernel
theorem dX12_assemble_255 : decode cX12_assemble 255 = .ok (.isub, 1) := by decide +kernel
theorem dX12_assemble_256 : decode cX12_assemble 256 = .ok (.ireturn, 1) := by decide +kernel
theorem dX12_assemble_257 : decode cX12_assemble 257 = .ok (.aload_n 0, 1) := by decide +kernel
theorem dX12_assemble_258 : decode cX12_assemble 258 = .ok (.aload_n 0, 1) := by decide +kernel
theorem dX12_assemble_259 : decode cX12_assemble 259 = .ok (.getfield 405, 3) := by decide +kernel
theorem dX12_assemble_262 : decode cX12_assemble 262 = .ok (.putfield 456, 3) := by decide +kernel
theorem dX12_assemble_265 : decode cX12_assemble 265 = .ok (.iconst 0, 1) := by decide +kernel
theorem dX12_assemble_266 : decode cX12_assemble 266 = .ok (.istore_n 1, 1) := by decide +kernel
theorem dX12_assemble_267 : decode cX12_assemble 267 = .ok (.iload_n 1, 1) := by decide +kernel
theorem dX12_assemble_268 : decode cX12_assemble 268 = .ok (.aload_n 0, 1) := by decide +kernel
theorem dX12_assemble_269 : decode cX12_assemble 269 = .ok (.getfield 456, 3) := by decide +kernel
theorem dX12_assemble_272 : decode cX12_assemble 272 = .ok (.if_icmp .ge 21, 3) := by decide +kernel
theorem dX12_assemble_275 : decode cX12_assemble 275 = .ok (.aload_n 0, 1) := by decide +kernel
theorem dX12_assemble_276 : decode cX12_assemble 276 = .ok (.getfield 71, 3) := by decide +kernel
theorem dX12_assemble_279 : decode cX12_assemble 279 = .ok (.iload_n 1, 1) := by decide +kernel
theorem dX12_assemble_280 : decode cX12_assemble 280 = .ok (.aload_n 0, 1) := by decide +kernel
theorem dX12_assemble_281 : decode cX12_assemble 281 = .ok (.getfield 74, 3) := by decide +kernel
theorem dX12_assemble_284 : decode cX12_assemble 284 = .ok (.iload_n 1, 1) := by decide +kernel
theorem dX12_assemble_285 : decode cX12_assemble 285 = .ok (.iaload, 1) := by decide +kernel
theorem dX12_assemble_286 : decode cX12_assemble 286 = .ok (.iastore, 1) := by decide +kernel
theorem dX12_assemble_287 : decode cX12_assemble 287 = .ok (.iinc 1 1, 3) := by decide +kernel
theorem dX12_assemble_290 : decode cX12_assemble 290 = .ok (.goto (-23), 3) := by decide +kernel
theorem dX12_assemble_293 : decode cX12_assemble 293 = .ok (.aload_n 0, 1) := by decide +kernel
theorem dX12_assemble_294 : decode cX12_assemble 294 = .ok (.getfield 456, 3) := by decide +kernel
theorem dX12_assemble_297 : decode cX12_assemble 297 = .ok (.ireturn, 1) := by decide +kernel
theorem cc_assemble : Cond.code yX12_assemble cX12_assemble 3 (some .int) ∈ rf_tb := rf_at 1909 (by decide +kernel) (by decide +kernel)
noncomputable def bq_assemble_55i29  (ρ : rf_S) : Option ((rf_S) ⊕ (rf_S)) := (if (ρ.1 0 39) = 0 then (if (ρ.1 0 44) = 0 then some (.inl ρ) else bd1 (fq_wants (6:Int32) ρ) (fun ρ_7 => some (.inl ρ_7))) else some (.inl ρ))
set_option maxHeartbeats 4000000 in
theorem wq_assemble_55i29 (C : rf_C D p s m args meth c cX12_assemble 3 (some .int)) {r : Int32} {ρ ρ' : rf_S} {H : Heap} {locs : List Loc} {ls : Array Slot} {o : (rf_S) ⊕ (rf_S)} (h : bq_assemble_55i29 ρ = some o) (hP : Sum.elim (fun z : (rf_S) => ∀ (H : Heap) (locs : List Loc) (ls : Array Slot), rf_G D h0 s z H locs → lv_has ls 3 [(0, .ref h0)] → W p l e ({ frames := 9, cells := 0, slots := 0, locals := 201 }) s m args below meth c H locs 0 0 (MQ below (rf_Q D h0 (some (.int r)) ρ') args s 0 0 (rf_A h0)) (F0 m 29 ls [])) (fun z : (rf_S) => ∀ (H : Heap) (locs : List Loc) (ls : Array Slot), rf_G D h0 s z H locs → lv_has ls 3 [(0, .ref h0)] → W p l e ({ frames := 9, cells := 0, slots := 0, locals := 201 }) s m args below meth c H locs 0 0 (MQ below (rf_Q D h0 (some (.int r)) ρ') args s 0 0 (rf_A h0)) (F0 m 78 ls [])) o) (G : rf_G D h0 s ρ H locs) (hl : lv_has ls 3 [(0, .ref h0)]) : W p l e ({ frames := 9, cells := 0, slots := 0, locals := 201 }) s m args below meth c H locs 0 0 (MQ below (rf_Q D h0 (some (.int r)) ρ') args s 0 0 (rf_A h0)) (F0 m 55 ls []) := by
  unfold bq_assemble_55i29 at h
  refine lv_aload_n C.1 C.2.1 dX12_assemble_55 rfl (lv_at hl 0 rfl) ?_
  refine gf_39 C G dX12_assemble_56 ?_
  refine lv_if_ne (tgt := 29) C.1 C.2.1 dX12_assemble_59 (by decide) (fun hc => ?_) (fun hc => ?_)
  · rw [if_neg hc] at h
    cases h
    exact hP _ _ _ G (lv_sub hl [0] rfl)
  · rw [if_pos hc] at h
    refine lv_aload_n C.1 C.2.1 dX12_assemble_62 rfl (lv_at hl 0 rfl) ?_
    refine gf_44 C G dX12_assemble_63 ?_
    refine lv_if_eq (tgt := 29) C.1 C.2.1 dX12_assemble_66 (by decide) (fun hc => ?_) (fun hc => ?_)
    · rw [if_pos hc] at h
      cases h
      exact hP _ _ _ G (lv_sub hl [0] rfl)
    · rw [if_neg hc] at h
      refine lv_aload_n C.1 C.2.1 dX12_assemble_69 rfl (lv_at hl 0 rfl) ?_
      refine lv_bipush (v := (6:Int32)) C.1 C.2.1 dX12_assemble_70 (by decide) ?_
      obtain ⟨ρ_7, hq, h⟩ := bd1_some h
      refine rf_callV (rest := []) C G cw_wants [.int (6:Int32)] _ (kq_wants l D h0 hq) (Nat.le_of_ble_eq_true rfl) (Nat.le_of_ble_eq_true rfl) rfl rfl hl.1 (Nat.le_of_ble_eq_true rfl) (Nat.zero_le _) (Nat.zero_le _) dX12_assemble_72 (fun H locs G => ?_)
      refine W.eq (g2 := F0 m 75 ls []) rfl ?_
      refine lv_goto (tgt := 29) C.1 C.2.1 dX12_assemble_75 (by decide) ?_
      cases h
      exact hP _ _ _ G (lv_sub hl [0] rfl)
noncomputable def lq_assemble_29 (ρ : rf_S) : Option ((rf_S) ⊕ (rf_S)) := (if (ρ.1 0 44) = 0 then some (.inr ρ) else (if (ρ.1 0 39) = 0 then (if (ρ.1 0 44) = (1:Int32) then bd1 (fq_line ρ) (fun ρ_8 => bq_assemble_55i29 ρ_8) else bq_assemble_55i29 ρ) else some (.inr ρ)))
noncomputable def lq_assemble_97i80 (x1 : Int32) (x2 : Int32) (ρ : rf_S) : Option ((Int32 × rf_S) ⊕ (Int32 × rf_S)) := (if (ρ.1 0 33) ≤ x2 then some (.inr (x2, ρ)) else ix x2 200 (ix x1 2048 ((if (lg_cmp (ρ.2 19 x2.toNatClampNeg) (ρ.2 23 x1.toNatClampNeg)) = 0 then some (.inr (x2, ρ)) else vl (x2 + (1:Int32)) (fun x2_9 => some (.inl (x2_9, ρ)))))))
noncomputable def bq_assemble_212i80 (x1 : Int32) (ρ : rf_S) : Option ((Int32 × rf_S) ⊕ (Int32 × rf_S)) := vl (x1 + (1:Int32)) (fun x1_11 => some (.inl (x1_11, ρ)))
set_option maxHeartbeats 4000000 in
theorem wq_assemble_212i80 (C : rf_C D p s m args meth c cX12_assemble 3 (some .int)) {r : Int32} {x1 : Int32} {ρ ρ' : rf_S} {H : Heap} {locs : List Loc} {ls : Array Slot} {o : (Int32 × rf_S) ⊕ (Int32 × rf_S)} (h : bq_assemble_212i80 x1 ρ = some o) (hP : Sum.elim (fun z : (Int32 × rf_S) => ∀ (H : Heap) (locs : List Loc) (ls : Array Slot), rf_G D h0 s z.2 H locs → lv_has ls 3 [(0, .ref h0), (1, .int z.1)] → W p l e ({ frames := 9, cells := 0, slots := 0, locals := 201 }) s m args below meth c H locs 0 0 (MQ below (rf_Q D h0 (some (.int r)) ρ') args s 0 0 (rf_A h0)) (F0 m 80 ls [])) (fun z : (Int32 × rf_S) => ∀ (H : Heap) (locs : List Loc) (ls : Array Slot), rf_G D h0 s z.2 H locs → lv_has ls 3 [(0, .ref h0), (1, .int z.1)] → W p l e ({ frames := 9, cells := 0, slots := 0, locals := 201 }) s m args below meth c H locs 0 0 (MQ below (rf_Q D h0 (some (.int r)) ρ') args s 0 0 (rf_A h0)) (F0 m 218 ls [])) o) (G : rf_G D h0 s ρ H locs) (hl : lv_has ls 3 [(0, .ref h0), (1, .int x1)]) : W p l e ({ frames := 9, cells := 0, slots := 0, locals := 201 }) s m args below meth c H locs 0 0 (MQ below (rf_Q D h0 (some (.int r)) ρ') args s 0 0 (rf_A h0)) (F0 m 212 ls []) := by
  unfold bq_assemble_212i80 at h
  refine vl_ex h (fun x1_11 ey h => ?_)
  refine lv_iinc (v := x1_11) (lv' := [(1, .int x1_11), (0, .ref h0)]) C.1 C.2.1 dX12_assemble_212 hl (k := 1) rfl (by rw [ey]; rfl) (by decide) rfl (fun ls hl => ?_)
  refine lv_goto (tgt := 80) C.1 C.2.1 dX12_assemble_215 (by decide) ?_
  cases h
  exact hP _ _ _ G (lv_sub hl [1, 0] rfl)
noncomputable def bq_assemble_127i80 (x1 : Int32) (x2 : Int32) (ρ : rf_S) : Option ((Int32 × rf_S) ⊕ (Int32 × rf_S)) := (if x2 = (ρ.1 0 33) then ix x1 2048 (bd1 (fq_fault (7:Int32) (ρ.1 22 x1.toNatClampNeg) ρ) (fun ρ_13 => bq_assemble_212i80 x1 ρ_13)) else ix x1 2048 ((if (ρ.1 24 x1.toNatClampNeg) = 0 then ix x1 2048 (ix (ρ.1 21 x1.toNatClampNeg) 2048 (ix x2 200 (ix x1 2048 (ix (ρ.1 21 x1.toNatClampNeg) 2048 (vl (rf_w ρ 18 (ρ.1 21 x1.toNatClampNeg).toNatClampNeg ((ρ.1 18 (ρ.1 21 x1.toNatClampNeg).toNatClampNeg) ||| (((ρ.1 20 x2.toNatClampNeg) - (ρ.1 21 x1.toNatClampNeg)) &&& (262143:Int32)))) (fun ρ_10 => bq_assemble_212i80 x1 ρ_10)))))) else ix x1 2048 (ix x2 200 (ix (ρ.1 21 x1.toNatClampNeg) 2048 (vl (rf_w ρ 18 (ρ.1 21 x1.toNatClampNeg).toNatClampNeg ((4:Int32) * (ρ.1 20 x2.toNatClampNeg))) (fun ρ_12 => bq_assemble_212i80 x1 ρ_12)))))))
set_option maxHeartbeats 4000000 in
theorem wq_assemble_127i80 (C : rf_C D p s m args meth c cX12_assemble 3 (some .int)) {r : Int32} {x1 : Int32} {x2 : Int32} {ρ ρ' : rf_S} {H : Heap} {locs : List Loc} {ls : Array Slot} {o : (Int32 × rf_S) ⊕ (Int32 × rf_S)} (h : bq_assemble_127i80 x1 x2 ρ = some o) (hP : Sum.elim (fun z : (Int32 × rf_S) => ∀ (H : Heap) (locs : List Loc) (ls : Array Slot), rf_G D h0 s z.2 H locs → lv_has ls 3 [(0, .ref h0), (1, .int z.1)] → W p l e ({ frames := 9, cells := 0, slots := 0, locals := 201 }) s m args below meth c H locs 0 0 (MQ below (rf_Q D h0 (some (.int r)) ρ') args s 0 0 (rf_A h0)) (F0 m 80 ls [])) (fun z : (Int32 × rf_S) => ∀ (H : Heap) (locs : List Loc) (ls : Array Slot), rf_G D h0 s z.2 H locs → lv_has ls 3 [(0, .ref h0), (1, .int z.1)] → W p l e ({ frames := 9, cells := 0, slots := 0, locals := 201 }) s m args below meth c H locs 0 0 (MQ below (rf_Q D h0 (some (.int r)) ρ') args s 0 0 (rf_A h0)) (F0 m 218 ls [])) o) (G : rf_G D h0 s ρ H locs) (hl : lv_has ls 3 [(0, .ref h0), (1, .int x1), (2, .int x2)]) : W p l e ({ frames := 9, cells := 0, slots := 0, locals := 201 }) s m args below meth c H locs 0 0 (MQ below (rf_Q D h0 (some (.int r)) ρ') args s 0 0 (rf_A h0)) (F0 m 127 ls []) := by
  unfold bq_assemble_127i80 at h
  refine lv_iload_n C.1 C.2.1 dX12_assemble_127 rfl (lv_at hl 2 rfl) ?_
  refine lv_aload_n C.1 C.2.1 dX12_assemble_128 rfl (lv_at hl 0 rfl) ?_
  refine gf_33 C G dX12_assemble_129 ?_
  refine lv_icmp_ne (tgt := 150) C.1 C.2.1 dX12_assemble_132 (by decide) (fun hc => ?_) (fun hc => ?_)
  · rw [if_neg hc] at h
    refine lv_aload_n C.1 C.2.1 dX12_assemble_150 rfl (lv_at hl 0 rfl) ?_
    refine gf_37 C G dX12_assemble_151 ?_
    refine lv_iload_n C.1 C.2.1 dX12_assemble_154 rfl (lv_at hl 1 rfl) ?_
    obtain ⟨hi, h⟩ := ix_some h
    refine rf_zald C G 24 rfl (by decide) rfl rfl hi dX12_assemble_155 ?_
    refine lv_if_eq (tgt := 181) C.1 C.2.1 dX12_assemble_156 (by decide) (fun hc => ?_) (fun hc => ?_)
    · rw [if_pos hc] at h
      refine lv_aload_n C.1 C.2.1 dX12_assemble_181 rfl (lv_at hl 0 rfl) ?_
      refine gf_29 C G dX12_assemble_182 ?_
      refine lv_aload_n C.1 C.2.1 dX12_assemble_185 rfl (lv_at hl 0 rfl) ?_
      refine gf_34 C G dX12_assemble_186 ?_
      refine lv_iload_n C.1 C.2.1 dX12_assemble_189 rfl (lv_at hl 1 rfl) ?_
      obtain ⟨hi, h⟩ := ix_some h
      refine rf_iald C G 21 rfl (by decide) rfl rfl hi dX12_assemble_190 ?_
      refine lv_dup2_11 C.1 C.2.1 dX12_assemble_191 rfl rfl ?_
      obtain ⟨hi, h⟩ := ix_some h
      refine rf_iald C G 18 rfl (by decide) rfl rfl hi dX12_assemble_192 ?_
      refine lv_aload_n C.1 C.2.1 dX12_assemble_193 rfl (lv_at hl 0 rfl) ?_
      refine gf_32 C G dX12_assemble_194 ?_
      refine lv_iload_n C.1 C.2.1 dX12_assemble_197 rfl (lv_at hl 2 rfl) ?_
      obtain ⟨hi, h⟩ := ix_some h
      refine rf_iald C G 20 rfl (by decide) rfl rfl hi dX12_assemble_198 ?_
      refine lv_aload_n C.1 C.2.1 dX12_assemble_199 rfl (lv_at hl 0 rfl) ?_
      refine gf_34 C G dX12_assemble_200 ?_
      refine lv_iload_n C.1 C.2.1 dX12_assemble_203 rfl (lv_at hl 1 rfl) ?_
      obtain ⟨hi, h⟩ := ix_some h
      refine rf_iald C G 21 rfl (by decide) rfl rfl hi dX12_assemble_204 ?_
      refine lv_isub C.1 C.2.1 dX12_assemble_205 ?_
      refine lv_ldcw (v := (262143:Int32)) C.1 C.2.1 C.2.2.2.1 (C.2.2.2.2.1 _ kc_445) dX12_assemble_206 ?_
      refine lv_iand C.1 C.2.1 dX12_assemble_209 ?_
      refine lv_ior C.1 C.2.1 dX12_assemble_210 ?_
      obtain ⟨hi, h⟩ := ix_some h
      refine rf_iast C G 18 rfl (by decide) rfl rfl hi dX12_assemble_211 (fun H locs G => ?_)
      refine rf_nm G h (fun ρ_10 G h => ?_)
      exact wq_assemble_212i80 C h hP G (lv_sub hl [0, 1] rfl)
    · rw [if_neg hc] at h
      refine lv_aload_n C.1 C.2.1 dX12_assemble_159 rfl (lv_at hl 0 rfl) ?_
      refine gf_29 C G dX12_assemble_160 ?_
      refine lv_aload_n C.1 C.2.1 dX12_assemble_163 rfl (lv_at hl 0 rfl) ?_
      refine gf_34 C G dX12_assemble_164 ?_
      refine lv_iload_n C.1 C.2.1 dX12_assemble_167 rfl (lv_at hl 1 rfl) ?_
      obtain ⟨hi, h⟩ := ix_some h
      refine rf_iald C G 21 rfl (by decide) rfl rfl hi dX12_assemble_168 ?_
      refine lv_iconst (v := (4:Int32)) C.1 C.2.1 dX12_assemble_169 (by decide) ?_
      refine lv_aload_n C.1 C.2.1 dX12_assemble_170 rfl (lv_at hl 0 rfl) ?_
      refine gf_32 C G dX12_assemble_171 ?_
      refine lv_iload_n C.1 C.2.1 dX12_assemble_174 rfl (lv_at hl 2 rfl) ?_
      obtain ⟨hi, h⟩ := ix_some h
      refine rf_iald C G 20 rfl (by decide) rfl rfl hi dX12_assemble_175 ?_
      refine lv_imul C.1 C.2.1 dX12_assemble_176 ?_
      obtain ⟨hi, h⟩ := ix_some h
      refine rf_iast C G 18 rfl (by decide) rfl rfl hi dX12_assemble_177 (fun H locs G => ?_)
      refine rf_nm G h (fun ρ_12 G h => ?_)
      refine lv_goto (tgt := 212) C.1 C.2.1 dX12_assemble_178 (by decide) ?_
      exact wq_assemble_212i80 C h hP G (lv_sub hl [0, 1] rfl)
  · rw [if_pos hc] at h
    refine lv_aload_n C.1 C.2.1 dX12_assemble_135 rfl (lv_at hl 0 rfl) ?_
    refine lv_bipush (v := (7:Int32)) C.1 C.2.1 dX12_assemble_136 (by decide) ?_
    refine lv_aload_n C.1 C.2.1 dX12_assemble_138 rfl (lv_at hl 0 rfl) ?_
    refine gf_35 C G dX12_assemble_139 ?_
    refine lv_iload_n C.1 C.2.1 dX12_assemble_142 rfl (lv_at hl 1 rfl) ?_
    obtain ⟨hi, h⟩ := ix_some h
    refine rf_iald C G 22 rfl (by decide) rfl rfl hi dX12_assemble_143 ?_
    obtain ⟨ρ_13, hq, h⟩ := bd1_some h
    refine rf_callV (rest := []) C G cw_fault [.int (7:Int32), .int (ρ.1 22 x1.toNatClampNeg)] _ (kq_fault l D h0 hq) (Nat.le_of_ble_eq_true rfl) (Nat.le_of_ble_eq_true rfl) rfl rfl hl.1 (Nat.le_of_ble_eq_true rfl) (Nat.zero_le _) (Nat.zero_le _) dX12_assemble_144 (fun H locs G => ?_)
    refine W.eq (g2 := F0 m 147 ls []) rfl ?_
    refine lv_goto (tgt := 212) C.1 C.2.1 dX12_assemble_147 (by decide) ?_
    exact wq_assemble_212i80 C h hP G (lv_sub hl [0, 1] rfl)
noncomputable def eq_assemble_97i80 (x1 : Int32) (x2 : Int32) (ρ : rf_S) : Option ((Int32 × rf_S) ⊕ (Int32 × rf_S)) := bq_assemble_127i80 x1 x2 ρ
noncomputable def bq_assemble_97i80 (x1 : Int32) (x2 : Int32) (ρ : rf_S) : Option ((Int32 × rf_S) ⊕ (Int32 × rf_S)) := (lp (fun z : (Int32 × rf_S) => lq_assemble_97i80 x1 z.1 z.2) (x2, ρ)).bind (fun z => eq_assemble_97i80 x1 z.1 z.2)
set_option maxHeartbeats 4000000 in
theorem wq_assemble_97i80 (C : rf_C D p s m args meth c cX12_assemble 3 (some .int)) {r : Int32} {x1 : Int32} {x2 : Int32} {ρ ρ' : rf_S} {H : Heap} {locs : List Loc} {ls : Array Slot} {o : (Int32 × rf_S) ⊕ (Int32 × rf_S)} (h : bq_assemble_97i80 x1 x2 ρ = some o) (hP : Sum.elim (fun z : (Int32 × rf_S) => ∀ (H : Heap) (locs : List Loc) (ls : Array Slot), rf_G D h0 s z.2 H locs → lv_has ls 3 [(0, .ref h0), (1, .int z.1)] → W p l e ({ frames := 9, cells := 0, slots := 0, locals := 201 }) s m args below meth c H locs 0 0 (MQ below (rf_Q D h0 (some (.int r)) ρ') args s 0 0 (rf_A h0)) (F0 m 80 ls [])) (fun z : (Int32 × rf_S) => ∀ (H : Heap) (locs : List Loc) (ls : Array Slot), rf_G D h0 s z.2 H locs → lv_has ls 3 [(0, .ref h0), (1, .int z.1)] → W p l e ({ frames := 9, cells := 0, slots := 0, locals := 201 }) s m args below meth c H locs 0 0 (MQ below (rf_Q D h0 (some (.int r)) ρ') args s 0 0 (rf_A h0)) (F0 m 218 ls [])) o) (G : rf_G D h0 s ρ H locs) (hl : lv_has ls 3 [(0, .ref h0), (1, .int x1), (2, .int x2)]) : W p l e ({ frames := 9, cells := 0, slots := 0, locals := 201 }) s m args below meth c H locs 0 0 (MQ below (rf_Q D h0 (some (.int r)) ρ') args s 0 0 (rf_A h0)) (F0 m 97 ls []) := by
  unfold bq_assemble_97i80 at h
  obtain ⟨y, hy, h⟩ := bd_some h
  have hE : (fun z : (Int32 × rf_S) => ∀ (H : Heap) (locs : List Loc) (ls : Array Slot), rf_G D h0 s z.2 H locs → lv_has ls 3 [(0, .ref h0), (1, .int x1), (2, .int z.1)] → W p l e ({ frames := 9, cells := 0, slots := 0, locals := 201 }) s m args below meth c H locs 0 0 (MQ below (rf_Q D h0 (some (.int r)) ρ') args s 0 0 (rf_A h0)) (F0 m 127 ls [])) y := by
    intro H locs ls G hl
    obtain ⟨x2, ρ⟩ := y
    dsimp only at h G hl
    unfold eq_assemble_97i80 at h
    exact wq_assemble_127i80 C h hP G (lv_sub hl [0, 1, 2] rfl)
  refine lp_recE (fun z : (Int32 × rf_S) => ∀ (H : Heap) (locs : List Loc) (ls : Array Slot), rf_G D h0 s z.2 H locs → lv_has ls 3 [(0, .ref h0), (1, .int x1), (2, .int z.1)] → W p l e ({ frames := 9, cells := 0, slots := 0, locals := 201 }) s m args below meth c H locs 0 0 (MQ below (rf_Q D h0 (some (.int r)) ρ') args s 0 0 (rf_A h0)) (F0 m 97 ls [])) (fun z : (Int32 × rf_S) => ∀ (H : Heap) (locs : List Loc) (ls : Array Slot), rf_G D h0 s z.2 H locs → lv_has ls 3 [(0, .ref h0), (1, .int x1), (2, .int z.1)] → W p l e ({ frames := 9, cells := 0, slots := 0, locals := 201 }) s m args below meth c H locs 0 0 (MQ below (rf_Q D h0 (some (.int r)) ρ') args s 0 0 (rf_A h0)) (F0 m 127 ls [])) ?_ _ _ hy hE _ _ _ G hl
  clear hE hy G hl h hP
  intro z o h hP H locs ls G hl
  obtain ⟨x2, ρ⟩ := z
  dsimp only at h G hl
  unfold lq_assemble_97i80 at h
  refine lv_iload_n C.1 C.2.1 dX12_assemble_97 rfl (lv_at hl 2 rfl) ?_
  refine lv_aload_n C.1 C.2.1 dX12_assemble_98 rfl (lv_at hl 0 rfl) ?_
  refine gf_33 C G dX12_assemble_99 ?_
  refine lv_icmp_ge (tgt := 127) C.1 C.2.1 dX12_assemble_102 (by decide) (fun hc => ?_) (fun hc => ?_)
  · rw [if_pos hc] at h
    cases h
    exact hP _ _ _ G (lv_sub hl [0, 1, 2] rfl)
  · rw [if_neg hc] at h
    refine lv_aload_n C.1 C.2.1 dX12_assemble_105 rfl (lv_at hl 0 rfl) ?_
    refine gf_31 C G dX12_assemble_106 ?_
    refine lv_iload_n C.1 C.2.1 dX12_assemble_109 rfl (lv_at hl 2 rfl) ?_
    obtain ⟨hi, h⟩ := ix_some h
    refine rf_lald C G 19 rfl (by decide) rfl rfl hi dX12_assemble_110 ?_
    refine lv_aload_n C.1 C.2.1 dX12_assemble_111 rfl (lv_at hl 0 rfl) ?_
    refine gf_36 C G dX12_assemble_112 ?_
    refine lv_iload_n C.1 C.2.1 dX12_assemble_115 rfl (lv_at hl 1 rfl) ?_
    obtain ⟨hi, h⟩ := ix_some h
    refine rf_lald C G 23 rfl (by decide) rfl rfl hi dX12_assemble_116 ?_
    refine W.lcmp C.1 C.2.1 dX12_assemble_117 ?_
    refine lv_if_eq (tgt := 127) C.1 C.2.1 dX12_assemble_118 (by decide) (fun hc => ?_) (fun hc => ?_)
    · rw [if_pos hc] at h
      cases h
      exact hP _ _ _ G (lv_sub hl [0, 1, 2] rfl)
    · rw [if_neg hc] at h
      refine vl_ex h (fun x2_9 ey h => ?_)
      refine lv_iinc (v := x2_9) (lv' := [(2, .int x2_9), (0, .ref h0), (1, .int x1)]) C.1 C.2.1 dX12_assemble_121 hl (k := 2) rfl (by rw [ey]; rfl) (by decide) rfl (fun ls hl => ?_)
      refine lv_goto (tgt := 97) C.1 C.2.1 dX12_assemble_124 (by decide) ?_
      cases h
      exact hP _ _ _ G (lv_sub hl [1, 2, 0] rfl)
noncomputable def lq_assemble_80 (x1 : Int32) (ρ : rf_S) : Option ((Int32 × rf_S) ⊕ (Int32 × rf_S)) := (if (ρ.1 0 38) ≤ x1 then some (.inr (x1, ρ)) else (if (ρ.1 0 39) = 0 then bq_assemble_97i80 x1 (0:Int32) ρ else some (.inr (x1, ρ))))
noncomputable def lq_assemble_267 (x1 : Int32) (ρ : rf_S) : Option ((Int32 × rf_S) ⊕ (Int32 × rf_S)) := (if (ρ.1 0 28) ≤ x1 then some (.inr (x1, ρ)) else ix x1 2048 (ix x1 2048 (vl (rf_w ρ 17 x1.toNatClampNeg (ρ.1 18 x1.toNatClampNeg)) (fun ρ_17 => vl (x1 + (1:Int32)) (fun x1_18 => some (.inl (x1_18, ρ_17)))))))
noncomputable def eq_assemble_267 (x1 : Int32) (ρ : rf_S) : Option (Int32 × rf_S) := some ((ρ.1 0 28), ρ)
noncomputable def bq_assemble_267 (x1 : Int32) (ρ : rf_S) : Option (Int32 × rf_S) := (lp (fun z : (Int32 × rf_S) => lq_assemble_267  z.1 z.2) (x1, ρ)).bind (fun z => eq_assemble_267  z.1 z.2)
set_option maxHeartbeats 4000000 in
theorem wq_assemble_267 (C : rf_C D p s m args meth c cX12_assemble 3 (some .int)) {r : Int32} {x1 : Int32} {ρ ρ' : rf_S} {H : Heap} {locs : List Loc} {ls : Array Slot} (h : bq_assemble_267 x1 ρ = some (r, ρ')) (G : rf_G D h0 s ρ H locs) (hl : lv_has ls 3 [(0, .ref h0), (1, .int x1)]) : W p l e ({ frames := 9, cells := 0, slots := 0, locals := 201 }) s m args below meth c H locs 0 0 (MQ below (rf_Q D h0 (some (.int r)) ρ') args s 0 0 (rf_A h0)) (F0 m 267 ls []) := by
  unfold bq_assemble_267 at h
  obtain ⟨y, hy, h⟩ := bd_some h
  have hE : (fun z : (Int32 × rf_S) => ∀ (H : Heap) (locs : List Loc) (ls : Array Slot), rf_G D h0 s z.2 H locs → lv_has ls 3 [(0, .ref h0), (1, .int z.1)] → W p l e ({ frames := 9, cells := 0, slots := 0, locals := 201 }) s m args below meth c H locs 0 0 (MQ below (rf_Q D h0 (some (.int r)) ρ') args s 0 0 (rf_A h0)) (F0 m 293 ls [])) y := by
    intro H locs ls G hl
    obtain ⟨x1, ρ⟩ := y
    dsimp only at h G hl
    unfold eq_assemble_267 at h
    refine lv_aload_n C.1 C.2.1 dX12_assemble_293 rfl (lv_at hl 0 rfl) ?_
    refine gf_28 C G dX12_assemble_294 ?_
    exact rf_iret C G h dX12_assemble_297
  refine lp_recE (fun z : (Int32 × rf_S) => ∀ (H : Heap) (locs : List Loc) (ls : Array Slot), rf_G D h0 s z.2 H locs → lv_has ls 3 [(0, .ref h0), (1, .int z.1)] → W p l e ({ frames := 9, cells := 0, slots := 0, locals := 201 }) s m args below meth c H locs 0 0 (MQ below (rf_Q D h0 (some (.int r)) ρ') args s 0 0 (rf_A h0)) (F0 m 267 ls [])) (fun z : (Int32 × rf_S) => ∀ (H : Heap) (locs : List Loc) (ls : Array Slot), rf_G D h0 s z.2 H locs → lv_has ls 3 [(0, .ref h0), (1, .int z.1)] → W p l e ({ frames := 9, cells := 0, slots := 0, locals := 201 }) s m args below meth c H locs 0 0 (MQ below (rf_Q D h0 (some (.int r)) ρ') args s 0 0 (rf_A h0)) (F0 m 293 ls [])) ?_ _ _ hy hE _ _ _ G hl
  clear hE hy G hl h
  intro z o h hP H locs ls G hl
  obtain ⟨x1, ρ⟩ := z
  dsimp only at h G hl
  unfold lq_assemble_267 at h
  refine lv_iload_n C.1 C.2.1 dX12_assemble_267 rfl (lv_at hl 1 rfl) ?_
  refine lv_aload_n C.1 C.2.1 dX12_assemble_268 rfl (lv_at hl 0 rfl) ?_
  refine gf_28 C G dX12_assemble_269 ?_
  refine lv_icmp_ge (tgt := 293) C.1 C.2.1 dX12_assemble_272 (by decide) (fun hc => ?_) (fun hc => ?_)
  · rw [if_pos hc] at h
    cases h
    exact hP _ _ _ G (lv_sub hl [0, 1] rfl)
  · rw [if_neg hc] at h
    refine lv_aload_n C.1 C.2.1 dX12_assemble_275 rfl (lv_at hl 0 rfl) ?_
    refine gf_27 C G dX12_assemble_276 ?_
    refine lv_iload_n C.1 C.2.1 dX12_assemble_279 rfl (lv_at hl 1 rfl) ?_
    refine lv_aload_n C.1 C.2.1 dX12_assemble_280 rfl (lv_at hl 0 rfl) ?_
    refine gf_29 C G dX12_assemble_281 ?_
    refine lv_iload_n C.1 C.2.1 dX12_assemble_284 rfl (lv_at hl 1 rfl) ?_
    obtain ⟨hi, h⟩ := ix_some h
    refine rf_iald C G 18 rfl (by decide) rfl rfl hi dX12_assemble_285 ?_
    obtain ⟨hi, h⟩ := ix_some h
    refine rf_iast C G 17 rfl (by decide) rfl rfl hi dX12_assemble_286 (fun H locs G => ?_)
    refine rf_nm G h (fun ρ_17 G h => ?_)
    refine vl_ex h (fun x1_18 ey h => ?_)
    refine lv_iinc (v := x1_18) (lv' := [(1, .int x1_18), (0, .ref h0)]) C.1 C.2.1 dX12_assemble_287 hl (k := 1) rfl (by rw [ey]; rfl) (by decide) rfl (fun ls hl => ?_)
    refine lv_goto (tgt := 267) C.1 C.2.1 dX12_assemble_290 (by decide) ?_
    cases h
    exact hP _ _ _ G (lv_sub hl [1, 0] rfl)
noncomputable def bq_assemble_239 (v1 : Int32) (ρ : rf_S) : Option (Int32 × rf_S) := vl (rf_w ρ 0 41 v1) (fun ρ_15 => (if (ρ_15.1 0 39) ≤ 0 then vl (rf_w ρ_15 0 28 (ρ_15.1 0 30)) (fun ρ_16 => bq_assemble_267 (0:Int32) ρ_16) else some (((-10:Int32) - (ρ_15.1 0 39)), ρ_15)))
set_option maxHeartbeats 4000000 in
theorem wq_assemble_239 (C : rf_C D p s m args meth c cX12_assemble 3 (some .int)) {r : Int32} {v1 : Int32} {ρ ρ' : rf_S} {H : Heap} {locs : List Loc} {ls : Array Slot} (h : bq_assemble_239 v1 ρ = some (r, ρ')) (G : rf_G D h0 s ρ H locs) (hl : lv_has ls 3 [(0, .ref h0)]) : W p l e ({ frames := 9, cells := 0, slots := 0, locals := 201 }) s m args below meth c H locs 0 0 (MQ below (rf_Q D h0 (some (.int r)) ρ') args s 0 0 (rf_A h0)) (F0 m 239 ls [.int v1, .ref h0]) := by
  unfold bq_assemble_239 at h
  refine pf_41 C G dX12_assemble_239 (fun H locs G => ?_)
  refine rf_nm G h (fun ρ_15 G h => ?_)
  refine lv_aload_n C.1 C.2.1 dX12_assemble_242 rfl (lv_at hl 0 rfl) ?_
  refine gf_39 C G dX12_assemble_243 ?_
  refine lv_if_le (tgt := 257) C.1 C.2.1 dX12_assemble_246 (by decide) (fun hc => ?_) (fun hc => ?_)
  · rw [if_pos hc] at h
    refine lv_aload_n C.1 C.2.1 dX12_assemble_257 rfl (lv_at hl 0 rfl) ?_
    refine lv_aload_n C.1 C.2.1 dX12_assemble_258 rfl (lv_at hl 0 rfl) ?_
    refine gf_30 C G dX12_assemble_259 ?_
    refine pf_28 C G dX12_assemble_262 (fun H locs G => ?_)
    refine rf_nm G h (fun ρ_16 G h => ?_)
    refine lv_iconst (v := (0:Int32)) C.1 C.2.1 dX12_assemble_265 (by decide) ?_
    refine lv_istore_n (lv' := [(1, .int (0:Int32)), (0, .ref h0)]) C.1 C.2.1 dX12_assemble_266 rfl hl (by decide) rfl (fun ls hl => ?_)
    exact wq_assemble_267 C h G (lv_sub hl [1, 0] rfl)
  · rw [if_neg hc] at h
    refine lv_bipush (v := (-10:Int32)) C.1 C.2.1 dX12_assemble_249 (by decide) ?_
    refine lv_aload_n C.1 C.2.1 dX12_assemble_251 rfl (lv_at hl 0 rfl) ?_
    refine gf_39 C G dX12_assemble_252 ?_
    refine lv_isub C.1 C.2.1 dX12_assemble_255 ?_
    exact rf_iret C G h dX12_assemble_256
noncomputable def bq_assemble_218  (ρ : rf_S) : Option (Int32 × rf_S) := vl (rf_w ρ 0 26 (0:Int32)) (fun ρ_14 => (if (ρ_14.1 0 39) ≤ 0 then bq_assemble_239 (-1:Int32) ρ_14 else bq_assemble_239 (ρ_14.1 0 40) ρ_14))
set_option maxHeartbeats 4000000 in
theorem wq_assemble_218 (C : rf_C D p s m args meth c cX12_assemble 3 (some .int)) {r : Int32} {ρ ρ' : rf_S} {H : Heap} {locs : List Loc} {ls : Array Slot} (h : bq_assemble_218 ρ = some (r, ρ')) (G : rf_G D h0 s ρ H locs) (hl : lv_has ls 3 [(0, .ref h0)]) : W p l e ({ frames := 9, cells := 0, slots := 0, locals := 201 }) s m args below meth c H locs 0 0 (MQ below (rf_Q D h0 (some (.int r)) ρ') args s 0 0 (rf_A h0)) (F0 m 218 ls []) := by
  unfold bq_assemble_218 at h
  refine lv_aload_n C.1 C.2.1 dX12_assemble_218 rfl (lv_at hl 0 rfl) ?_
  refine lv_iconst (v := (0:Int32)) C.1 C.2.1 dX12_assemble_219 (by decide) ?_
  refine pf_26 C G dX12_assemble_220 (fun H locs G => ?_)
  refine rf_nm G h (fun ρ_14 G h => ?_)
  refine lv_aload_n C.1 C.2.1 dX12_assemble_223 rfl (lv_at hl 0 rfl) ?_
  refine lv_aload_n C.1 C.2.1 dX12_assemble_224 rfl (lv_at hl 0 rfl) ?_
  refine gf_39 C G dX12_assemble_225 ?_
  refine lv_if_le (tgt := 238) C.1 C.2.1 dX12_assemble_228 (by decide) (fun hc => ?_) (fun hc => ?_)
  · rw [if_pos hc] at h
    refine lv_iconst (v := (-1:Int32)) C.1 C.2.1 dX12_assemble_238 (by decide) ?_
    exact wq_assemble_239 C h G (lv_sub hl [0] rfl)
  · rw [if_neg hc] at h
    refine lv_aload_n C.1 C.2.1 dX12_assemble_231 rfl (lv_at hl 0 rfl) ?_
    refine gf_40 C G dX12_assemble_232 ?_
    refine lv_goto (tgt := 239) C.1 C.2.1 dX12_assemble_235 (by decide) ?_
    exact wq_assemble_239 C h G (lv_sub hl [0] rfl)
noncomputable def eq_assemble_80 (x1 : Int32) (ρ : rf_S) : Option (Int32 × rf_S) := bq_assemble_218 ρ
noncomputable def bq_assemble_80 (x1 : Int32) (ρ : rf_S) : Option (Int32 × rf_S) := (lp (fun z : (Int32 × rf_S) => lq_assemble_80  z.1 z.2) (x1, ρ)).bind (fun z => eq_assemble_80  z.1 z.2)
set_option maxHeartbeats 4000000 in
theorem wq_assemble_80 (C : rf_C D p s m args meth c cX12_assemble 3 (some .int)) {r : Int32} {x1 : Int32} {ρ ρ' : rf_S} {H : Heap} {locs : List Loc} {ls : Array Slot} (h : bq_assemble_80 x1 ρ = some (r, ρ')) (G : rf_G D h0 s ρ H locs) (hl : lv_has ls 3 [(0, .ref h0), (1, .int x1)]) : W p l e ({ frames := 9, cells := 0, slots := 0, locals := 201 }) s m args below meth c H locs 0 0 (MQ below (rf_Q D h0 (some (.int r)) ρ') args s 0 0 (rf_A h0)) (F0 m 80 ls []) := by
  unfold bq_assemble_80 at h
  obtain ⟨y, hy, h⟩ := bd_some h
  have hE : (fun z : (Int32 × rf_S) => ∀ (H : Heap) (locs : List Loc) (ls : Array Slot), rf_G D h0 s z.2 H locs → lv_has ls 3 [(0, .ref h0), (1, .int z.1)] → W p l e ({ frames := 9, cells := 0, slots := 0, locals := 201 }) s m args below meth c H locs 0 0 (MQ below (rf_Q D h0 (some (.int r)) ρ') args s 0 0 (rf_A h0)) (F0 m 218 ls [])) y := by
    intro H locs ls G hl
    obtain ⟨x1, ρ⟩ := y
    dsimp only at h G hl
    unfold eq_assemble_80 at h
    exact wq_assemble_218 C h G (lv_sub hl [0] rfl)
  refine lp_recE (fun z : (Int32 × rf_S) => ∀ (H : Heap) (locs : List Loc) (ls : Array Slot), rf_G D h0 s z.2 H locs → lv_has ls 3 [(0, .ref h0), (1, .int z.1)] → W p l e ({ frames := 9, cells := 0, slots := 0, locals := 201 }) s m args below meth c H locs 0 0 (MQ below (rf_Q D h0 (some (.int r)) ρ') args s 0 0 (rf_A h0)) (F0 m 80 ls [])) (fun z : (Int32 × rf_S) => ∀ (H : Heap) (locs : List Loc) (ls : Array Slot), rf_G D h0 s z.2 H locs → lv_has ls 3 [(0, .ref h0), (1, .int z.1)] → W p l e ({ frames := 9, cells := 0, slots := 0, locals := 201 }) s m args below meth c H locs 0 0 (MQ below (rf_Q D h0 (some (.int r)) ρ') args s 0 0 (rf_A h0)) (F0 m 218 ls [])) ?_ _ _ hy hE _ _ _ G hl
  clear hE hy G hl h
  intro z o h hP H locs ls G hl
  obtain ⟨x1, ρ⟩ := z
  dsimp only at h G hl
  unfold lq_assemble_80 at h
  refine lv_iload_n C.1 C.2.1 dX12_assemble_80 rfl (lv_at hl 1 rfl) ?_
  refine lv_aload_n C.1 C.2.1 dX12_assemble_81 rfl (lv_at hl 0 rfl) ?_
  refine gf_38 C G dX12_assemble_82 ?_
  refine lv_icmp_ge (tgt := 218) C.1 C.2.1 dX12_assemble_85 (by decide) (fun hc => ?_) (fun hc => ?_)
  · rw [if_pos hc] at h
    cases h
    exact hP _ _ _ G (lv_sub hl [0, 1] rfl)
  · rw [if_neg hc] at h
    refine lv_aload_n C.1 C.2.1 dX12_assemble_88 rfl (lv_at hl 0 rfl) ?_
    refine gf_39 C G dX12_assemble_89 ?_
    refine lv_if_ne (tgt := 218) C.1 C.2.1 dX12_assemble_92 (by decide) (fun hc => ?_) (fun hc => ?_)
    · rw [if_neg hc] at h
      cases h
      exact hP _ _ _ G (lv_sub hl [0, 1] rfl)
    · rw [if_pos hc] at h
      refine lv_iconst (v := (0:Int32)) C.1 C.2.1 dX12_assemble_95 (by decide) ?_
      refine lv_istore_n (lv' := [(2, .int (0:Int32)), (0, .ref h0), (1, .int x1)]) C.1 C.2.1 dX12_assemble_96 rfl hl (by decide) rfl (fun ls hl => ?_)
      exact wq_assemble_97i80 C h hP G (lv_sub hl [1, 2, 0] rfl)
noncomputable def bq_assemble_78  (ρ : rf_S) : Option (Int32 × rf_S) := bq_assemble_80 (0:Int32) ρ
set_option maxHeartbeats 4000000 in
theorem wq_assemble_78 (C : rf_C D p s m args meth c cX12_assemble 3 (some .int)) {r : Int32} {ρ ρ' : rf_S} {H : Heap} {locs : List Loc} {ls : Array Slot} (h : bq_assemble_78 ρ = some (r, ρ')) (G : rf_G D h0 s ρ H locs) (hl : lv_has ls 3 [(0, .ref h0)]) : W p l e ({ frames := 9, cells := 0, slots := 0, locals := 201 }) s m args below meth c H locs 0 0 (MQ below (rf_Q D h0 (some (.int r)) ρ') args s 0 0 (rf_A h0)) (F0 m 78 ls []) := by
  unfold bq_assemble_78 at h
  refine lv_iconst (v := (0:Int32)) C.1 C.2.1 dX12_assemble_78 (by decide) ?_
  refine lv_istore_n (lv' := [(1, .int (0:Int32)), (0, .ref h0)]) C.1 C.2.1 dX12_assemble_79 rfl hl (by decide) rfl (fun ls hl => ?_)
  exact wq_assemble_80 C h G (lv_sub hl [1, 0] rfl)
noncomputable def eq_assemble_29 (ρ : rf_S) : Option (Int32 × rf_S) := bq_assemble_78 ρ
noncomputable def bq_assemble_29  (ρ : rf_S) : Option (Int32 × rf_S) := (lp (fun z : (rf_S) => lq_assemble_29  z) ρ).bind (fun z => eq_assemble_29  z)
set_option maxHeartbeats 4000000 in
theorem wq_assemble_29 (C : rf_C D p s m args meth c cX12_assemble 3 (some .int)) {r : Int32} {ρ ρ' : rf_S} {H : Heap} {locs : List Loc} {ls : Array Slot} (h : bq_assemble_29 ρ = some (r, ρ')) (G : rf_G D h0 s ρ H locs) (hl : lv_has ls 3 [(0, .ref h0)]) : W p l e ({ frames := 9, cells := 0, slots := 0, locals := 201 }) s m args below meth c H locs 0 0 (MQ below (rf_Q D h0 (some (.int r)) ρ') args s 0 0 (rf_A h0)) (F0 m 29 ls []) := by
  unfold bq_assemble_29 at h
  obtain ⟨ρy, hy, h⟩ := bd_some h
  have hE : (fun z : (rf_S) => ∀ (H : Heap) (locs : List Loc) (ls : Array Slot), rf_G D h0 s z H locs → lv_has ls 3 [(0, .ref h0)] → W p l e ({ frames := 9, cells := 0, slots := 0, locals := 201 }) s m args below meth c H locs 0 0 (MQ below (rf_Q D h0 (some (.int r)) ρ') args s 0 0 (rf_A h0)) (F0 m 78 ls [])) ρy := by
    intro H locs ls G hl
    unfold eq_assemble_29 at h
    revert h G hl; generalize ρy = ρ; intro h G hl
    exact wq_assemble_78 C h G (lv_sub hl [0] rfl)
  refine lp_recE (fun z : (rf_S) => ∀ (H : Heap) (locs : List Loc) (ls : Array Slot), rf_G D h0 s z H locs → lv_has ls 3 [(0, .ref h0)] → W p l e ({ frames := 9, cells := 0, slots := 0, locals := 201 }) s m args below meth c H locs 0 0 (MQ below (rf_Q D h0 (some (.int r)) ρ') args s 0 0 (rf_A h0)) (F0 m 29 ls [])) (fun z : (rf_S) => ∀ (H : Heap) (locs : List Loc) (ls : Array Slot), rf_G D h0 s z H locs → lv_has ls 3 [(0, .ref h0)] → W p l e ({ frames := 9, cells := 0, slots := 0, locals := 201 }) s m args below meth c H locs 0 0 (MQ below (rf_Q D h0 (some (.int r)) ρ') args s 0 0 (rf_A h0)) (F0 m 78 ls [])) ?_ _ _ hy hE _ _ _ G hl
  clear hE hy G hl h
  intro ρ o h hP H locs ls G hl
  unfold lq_assemble_29 at h
  refine lv_aload_n C.1 C.2.1 dX12_assemble_29 rfl (lv_at hl 0 rfl) ?_
  refine gf_44 C G dX12_assemble_30 ?_
  refine lv_if_eq (tgt := 78) C.1 C.2.1 dX12_assemble_33 (by decide) (fun hc => ?_) (fun hc => ?_)
  · rw [if_pos hc] at h
    cases h
    exact hP _ _ _ G (lv_sub hl [0] rfl)
  · rw [if_neg hc] at h
    refine lv_aload_n C.1 C.2.1 dX12_assemble_36 rfl (lv_at hl 0 rfl) ?_
    refine gf_39 C G dX12_assemble_37 ?_
    refine lv_if_ne (tgt := 78) C.1 C.2.1 dX12_assemble_40 (by decide) (fun hc => ?_) (fun hc => ?_)
    · rw [if_neg hc] at h
      cases h
      exact hP _ _ _ G (lv_sub hl [0] rfl)
    · rw [if_pos hc] at h
      refine lv_aload_n C.1 C.2.1 dX12_assemble_43 rfl (lv_at hl 0 rfl) ?_
      refine gf_44 C G dX12_assemble_44 ?_
      refine lv_iconst (v := (1:Int32)) C.1 C.2.1 dX12_assemble_47 (by decide) ?_
      refine lv_icmp_ne (tgt := 55) C.1 C.2.1 dX12_assemble_48 (by decide) (fun hc => ?_) (fun hc => ?_)
      · rw [if_neg hc] at h
        exact wq_assemble_55i29 C h hP G (lv_sub hl [0] rfl)
      · rw [if_pos hc] at h
        refine lv_aload_n C.1 C.2.1 dX12_assemble_51 rfl (lv_at hl 0 rfl) ?_
        obtain ⟨ρ_8, hq, h⟩ := bd1_some h
        refine rf_callV (rest := []) C G cw_line [] _ (kq_line l D h0 hq) (Nat.le_of_ble_eq_true rfl) (Nat.le_of_ble_eq_true rfl) rfl rfl hl.1 (Nat.le_of_ble_eq_true rfl) (Nat.zero_le _) (Nat.zero_le _) dX12_assemble_52 (fun H locs G => ?_)
        refine W.eq (g2 := F0 m 55 ls []) rfl ?_
        exact wq_assemble_55i29 C h hP G (lv_sub hl [0] rfl)
noncomputable def bq_assemble_0  (ρ : rf_S) : Option (Int32 × rf_S) := vl (rf_w ρ 0 48 (0:Int32)) (fun ρ_1 => vl (rf_w ρ_1 0 30 (0:Int32)) (fun ρ_2 => vl (rf_w ρ_2 0 33 (0:Int32)) (fun ρ_3 => vl (rf_w ρ_3 0 38 (0:Int32)) (fun ρ_4 => vl (rf_w ρ_4 0 39 (0:Int32)) (fun ρ_5 => bd1 (fq_next ρ_5) (fun ρ_6 => bq_assemble_29 ρ_6))))))
set_option maxHeartbeats 4000000 in
theorem wq_assemble_0 (C : rf_C D p s m args meth c cX12_assemble 3 (some .int)) {r : Int32} {ρ ρ' : rf_S} {H : Heap} {locs : List Loc} {ls : Array Slot} (h : bq_assemble_0 ρ = some (r, ρ')) (G : rf_G D h0 s ρ H locs) (hl : lv_has ls 3 [(0, .ref h0)]) : W p l e ({ frames := 9, cells := 0, slots := 0, locals := 201 }) s m args below meth c H locs 0 0 (MQ below (rf_Q D h0 (some (.int r)) ρ') args s 0 0 (rf_A h0)) (F0 m 0 ls []) := by
  unfold bq_assemble_0 at h
  refine lv_aload_n C.1 C.2.1 dX12_assemble_0 rfl (lv_at hl 0 rfl) ?_
  refine lv_iconst (v := (0:Int32)) C.1 C.2.1 dX12_assemble_1 (by decide) ?_
  refine pf_48 C G dX12_assemble_2 (fun H locs G => ?_)
  refine rf_nm G h (fun ρ_1 G h => ?_)
  refine lv_aload_n C.1 C.2.1 dX12_assemble_5 rfl (lv_at hl 0 rfl) ?_
  refine lv_iconst (v := (0:Int32)) C.1 C.2.1 dX12_assemble_6 (by decide) ?_
  refine pf_30 C G dX12_assemble_7 (fun H locs G => ?_)
  refine rf_nm G h (fun ρ_2 G h => ?_)
  refine lv_aload_n C.1 C.2.1 dX12_assemble_10 rfl (lv_at hl 0 rfl) ?_
  refine lv_iconst (v := (0:Int32)) C.1 C.2.1 dX12_assemble_11 (by decide) ?_
  refine pf_33 C G dX12_assemble_12 (fun H locs G => ?_)
  refine rf_nm G h (fun ρ_3 G h => ?_)
  refine lv_aload_n C.1 C.2.1 dX12_assemble_15 rfl (lv_at hl 0 rfl) ?_
  refine lv_iconst (v := (0:Int32)) C.1 C.2.1 dX12_assemble_16 (by decide) ?_
  refine pf_38 C G dX12_assemble_17 (fun H locs G => ?_)
  refine rf_nm G h (fun ρ_4 G h => ?_)
  refine lv_aload_n C.1 C.2.1 dX12_assemble_20 rfl (lv_at hl 0 rfl) ?_
  refine lv_iconst (v := (0:Int32)) C.1 C.2.1 dX12_assemble_21 (by decide) ?_
  refine pf_39 C G dX12_assemble_22 (fun H locs G => ?_)
  refine rf_nm G h (fun ρ_5 G h => ?_)
  refine lv_aload_n C.1 C.2.1 dX12_assemble_25 rfl (lv_at hl 0 rfl) ?_
  obtain ⟨ρ_6, hq, h⟩ := bd1_some h
  refine rf_callV (rest := []) C G cw_next [] _ (kq_next l D h0 hq) (Nat.le_of_ble_eq_true rfl) (Nat.le_of_ble_eq_true rfl) rfl rfl hl.1 (Nat.le_of_ble_eq_true rfl) (Nat.zero_le _) (Nat.zero_le _) dX12_assemble_26 (fun H locs G => ?_)
  refine W.eq (g2 := F0 m 29 ls []) rfl ?_
  exact wq_assemble_29 C h G (lv_sub hl [0] rfl)
noncomputable def fq_assemble  (ρ : rf_S) : Option (Int32 × rf_S) := bq_assemble_0 ρ
theorem kq_assemble (l : Launch) (D : rf_D) (h0 : Nat) {r : Int32} {ρ ρ' : rf_S} (h : fq_assemble ρ = some (r, ρ')) : rf_Met l D h0 yX12_assemble cX12_assemble 3 (some .int) 9 201 [.ref h0] ρ (some (.int r)) ρ' :=
  rf_of rfl cc_assemble (Nat.le_of_ble_eq_true rfl) (fun p e s m args below meth c ls C G hl => wq_assemble_0 C h G hl)
abbrev cX12_place : ByteArray := prog_14_method_38_code
def yX12_place : MethodName := ⟨RX12, "place", "()I"⟩
theorem dX12_place_0 : decode cX12_place 0 = .ok (.aload_n 0, 1) := by decide +kernel
theorem dX12_place_1 : decode cX12_place 1 = .ok (.getfield 95, 3) := by decide +kernel
theorem dX12_place_4 : decode cX12_place 4 = .ok (.ireturn, 1) := by decide +kernel
theorem cc_place : Cond.code yX12_place cX12_place 1 (some .int) ∈ rf_tb := rf_at 1997 (by decide +kernel) (by decide +kernel)
noncomputable def bq_place_0  (ρ : rf_S) : Option (Int32 × rf_S) := some ((ρ.1 0 41), ρ)
set_option maxHeartbeats 4000000 in
theorem wq_place_0 (C : rf_C D p s m args meth c cX12_place 1 (some .int)) {r : Int32} {ρ ρ' : rf_S} {H : Heap} {locs : List Loc} {ls : Array Slot} (h : bq_place_0 ρ = some (r, ρ')) (G : rf_G D h0 s ρ H locs) (hl : lv_has ls 1 [(0, .ref h0)]) : W p l e ({ frames := 0, cells := 0, slots := 0, locals := 0 }) s m args below meth c H locs 0 0 (MQ below (rf_Q D h0 (some (.int r)) ρ') args s 0 0 (rf_A h0)) (F0 m 0 ls []) := by
  unfold bq_place_0 at h
  refine lv_aload_n C.1 C.2.1 dX12_place_0 rfl (lv_at hl 0 rfl) ?_
  refine gf_41 C G dX12_place_1 ?_
  exact rf_iret C G h dX12_place_4
noncomputable def fq_place  (ρ : rf_S) : Option (Int32 × rf_S) := bq_place_0 ρ
theorem kq_place (l : Launch) (D : rf_D) (h0 : Nat) {r : Int32} {ρ ρ' : rf_S} (h : fq_place ρ = some (r, ρ')) : rf_Met l D h0 yX12_place cX12_place 1 (some .int) 0 0 [.ref h0] ρ (some (.int r)) ρ' :=
  rf_of rfl cc_place (Nat.le_of_ble_eq_true rfl) (fun p e s m args below meth c ls C G hl => wq_place_0 C h G hl)
end RQ3
