section RQ16
variable {p : Program} {l : Launch} {e : Env} {s : State} {m : MethodId} {args : Array Value} {below : List Frame} {meth : Method} {c : Code} {D : rf_D} {h0 : Nat}
abbrev cX12_termOf : ByteArray := prog_14_method_116_code
def yX12_termOf : MethodName := ⟨RX12, "termOf", "(II)I"⟩
theorem dX12_termOf_0 : decode cX12_termOf 0 = .ok (.iload_n 1, 1) := by decide +kernel
theorem dX12_termOf_1 : decode cX12_termOf 1 = .ok (.iconst (-1), 1) := by decide +kernel
theorem dX12_termOf_2 : decode cX12_termOf 2 = .ok (.if_icmp .ne 21, 3) := by decide +kernel
theorem dX12_termOf_5 : decode cX12_termOf 5 = .ok (.aload_n 0, 1) := by decide +kernel
theorem dX12_termOf_6 : decode cX12_termOf 6 = .ok (.iload_n 2, 1) := by decide +kernel
theorem dX12_termOf_7 : decode cX12_termOf 7 = .ok (.invokevirtual 684, 3) := by decide +kernel
theorem dX12_termOf_10 : decode cX12_termOf 10 = .ok (.ifCond .eq 11, 3) := by decide +kernel
theorem dX12_termOf_13 : decode cX12_termOf 13 = .ok (.aload_n 0, 1) := by decide +kernel
theorem dX12_termOf_14 : decode cX12_termOf 14 = .ok (.iload_n 2, 1) := by decide +kernel
theorem dX12_termOf_15 : decode cX12_termOf 15 = .ok (.invokevirtual 693, 3) := by decide +kernel
theorem dX12_termOf_18 : decode cX12_termOf 18 = .ok (.goto 4, 3) := by decide +kernel
theorem dX12_termOf_21 : decode cX12_termOf 21 = .ok (.iconst (-1), 1) := by decide +kernel
theorem dX12_termOf_22 : decode cX12_termOf 22 = .ok (.ireturn, 1) := by decide +kernel
theorem dX12_termOf_23 : decode cX12_termOf 23 = .ok (.iload_n 1, 1) := by decide +kernel
theorem dX12_termOf_24 : decode cX12_termOf 24 = .ok (.ifCond .lt 42, 3) := by decide +kernel
theorem dX12_termOf_27 : decode cX12_termOf 27 = .ok (.iload_n 1, 1) := by decide +kernel
theorem dX12_termOf_28 : decode cX12_termOf 28 = .ok (.aload_n 0, 1) := by decide +kernel
theorem dX12_termOf_29 : decode cX12_termOf 29 = .ok (.getfield 513, 3) := by decide +kernel
theorem dX12_termOf_32 : decode cX12_termOf 32 = .ok (.if_icmp .ge 34, 3) := by decide +kernel
theorem dX12_termOf_35 : decode cX12_termOf 35 = .ok (.iload_n 2, 1) := by decide +kernel
theorem dX12_termOf_36 : decode cX12_termOf 36 = .ok (.iconst 1, 1) := by decide +kernel
theorem dX12_termOf_37 : decode cX12_termOf 37 = .ok (.if_icmp .lt 29, 3) := by decide +kernel
theorem dX12_termOf_40 : decode cX12_termOf 40 = .ok (.iload_n 2, 1) := by decide +kernel
theorem dX12_termOf_41 : decode cX12_termOf 41 = .ok (.aload_n 0, 1) := by decide +kernel
theorem dX12_termOf_42 : decode cX12_termOf 42 = .ok (.getfield 206, 3) := by decide +kernel
theorem dX12_termOf_45 : decode cX12_termOf 45 = .ok (.iload_n 1, 1) := by decide +kernel
theorem dX12_termOf_46 : decode cX12_termOf 46 = .ok (.iaload, 1) := by decide +kernel
theorem dX12_termOf_47 : decode cX12_termOf 47 = .ok (.if_icmp .gt 19, 3) := by decide +kernel
theorem dX12_termOf_50 : decode cX12_termOf 50 = .ok (.aload_n 0, 1) := by decide +kernel
theorem dX12_termOf_51 : decode cX12_termOf 51 = .ok (.getfield 203, 3) := by decide +kernel
theorem dX12_termOf_54 : decode cX12_termOf 54 = .ok (.bipush 100, 2) := by decide +kernel
theorem dX12_termOf_56 : decode cX12_termOf 56 = .ok (.iload_n 1, 1) := by decide +kernel
theorem dX12_termOf_57 : decode cX12_termOf 57 = .ok (.imul, 1) := by decide +kernel
theorem dX12_termOf_58 : decode cX12_termOf 58 = .ok (.iload_n 2, 1) := by decide +kernel
theorem dX12_termOf_59 : decode cX12_termOf 59 = .ok (.iadd, 1) := by decide +kernel
theorem dX12_termOf_60 : decode cX12_termOf 60 = .ok (.iconst 1, 1) := by decide +kernel
theorem dX12_termOf_61 : decode cX12_termOf 61 = .ok (.isub, 1) := by decide +kernel
theorem dX12_termOf_62 : decode cX12_termOf 62 = .ok (.iaload, 1) := by decide +kernel
theorem dX12_termOf_63 : decode cX12_termOf 63 = .ok (.goto 4, 3) := by decide +kernel
theorem dX12_termOf_66 : decode cX12_termOf 66 = .ok (.iconst (-1), 1) := by decide +kernel
theorem dX12_termOf_67 : decode cX12_termOf 67 = .ok (.ireturn, 1) := by decide +kernel
theorem cc_termOf : Cond.code yX12_termOf cX12_termOf 3 (some .int) ∈ rf_tb := rf_at 2319 (by decide +kernel) (by decide +kernel)
theorem cw_termOf : rf_wV yX12_termOf cX12_termOf 3 (some .int) 696 2 := ⟨⟨rf_at 2316 (by decide +kernel) (by decide +kernel), rf_at 2318 (by decide +kernel) (by decide +kernel), rf_sel (q := (yX12_termOf, 122)) 143 (by decide +kernel) (by decide +kernel), cc_termOf⟩, rfl, by decide +kernel⟩
noncomputable def bq_termOf_0 (x1 : Int32) (x2 : Int32) (ρ : rf_S) : Option (Int32 × rf_S) := (if x1 = (-1:Int32) then bd2 (fq_isOutside x2 ρ) (fun r_2 ρ_1 => (if r_2 = 0 then some ((-1:Int32), ρ_1) else bd2 (fq_outsideAt x2 ρ_1) (fun r_4 ρ_3 => some (r_4, ρ_3)))) else (if x1 < 0 then some ((-1:Int32), ρ) else (if (ρ.1 0 55) ≤ x1 then some ((-1:Int32), ρ) else (if x2 < (1:Int32) then some ((-1:Int32), ρ) else ix x1 16 ((if (ρ.1 61 x1.toNatClampNeg) < x2 then some ((-1:Int32), ρ) else ix ((((100:Int32) * x1) + x2) - (1:Int32)) 1600 (some ((ρ.1 60 ((((100:Int32) * x1) + x2) - (1:Int32)).toNatClampNeg), ρ))))))))
set_option maxHeartbeats 4000000 in
theorem wq_termOf_0 (C : rf_C D p s m args meth c cX12_termOf 3 (some .int)) {r : Int32} {x1 : Int32} {x2 : Int32} {ρ ρ' : rf_S} {H : Heap} {locs : List Loc} {ls : Array Slot} (h : bq_termOf_0 x1 x2 ρ = some (r, ρ')) (G : rf_G D h0 s ρ H locs) (hl : lv_has ls 3 [(0, .ref h0), (1, .int x1), (2, .int x2)]) : W p l e ({ frames := 1, cells := 0, slots := 0, locals := 21 }) s m args below meth c H locs 0 0 (MQ below (rf_Q D h0 (some (.int r)) ρ') args s 0 0 (rf_A h0)) (F0 m 0 ls []) := by
  unfold bq_termOf_0 at h
  refine lv_iload_n C.1 C.2.1 dX12_termOf_0 rfl (lv_at hl 1 rfl) ?_
  refine lv_iconst (v := (-1:Int32)) C.1 C.2.1 dX12_termOf_1 (by decide) ?_
  refine lv_icmp_ne (tgt := 23) C.1 C.2.1 dX12_termOf_2 (by decide) (fun hc => ?_) (fun hc => ?_)
  · rw [if_neg hc] at h
    refine lv_iload_n C.1 C.2.1 dX12_termOf_23 rfl (lv_at hl 1 rfl) ?_
    refine lv_if_lt (tgt := 66) C.1 C.2.1 dX12_termOf_24 (by decide) (fun hc => ?_) (fun hc => ?_)
    · rw [if_pos hc] at h
      refine lv_iconst (v := (-1:Int32)) C.1 C.2.1 dX12_termOf_66 (by decide) ?_
      exact rf_iret C G h dX12_termOf_67
    · rw [if_neg hc] at h
      refine lv_iload_n C.1 C.2.1 dX12_termOf_27 rfl (lv_at hl 1 rfl) ?_
      refine lv_aload_n C.1 C.2.1 dX12_termOf_28 rfl (lv_at hl 0 rfl) ?_
      refine gf_55 C G dX12_termOf_29 ?_
      refine lv_icmp_ge (tgt := 66) C.1 C.2.1 dX12_termOf_32 (by decide) (fun hc => ?_) (fun hc => ?_)
      · rw [if_pos hc] at h
        refine lv_iconst (v := (-1:Int32)) C.1 C.2.1 dX12_termOf_66 (by decide) ?_
        exact rf_iret C G h dX12_termOf_67
      · rw [if_neg hc] at h
        refine lv_iload_n C.1 C.2.1 dX12_termOf_35 rfl (lv_at hl 2 rfl) ?_
        refine lv_iconst (v := (1:Int32)) C.1 C.2.1 dX12_termOf_36 (by decide) ?_
        refine lv_icmp_lt (tgt := 66) C.1 C.2.1 dX12_termOf_37 (by decide) (fun hc => ?_) (fun hc => ?_)
        · rw [if_pos hc] at h
          refine lv_iconst (v := (-1:Int32)) C.1 C.2.1 dX12_termOf_66 (by decide) ?_
          exact rf_iret C G h dX12_termOf_67
        · rw [if_neg hc] at h
          refine lv_iload_n C.1 C.2.1 dX12_termOf_40 rfl (lv_at hl 2 rfl) ?_
          refine lv_aload_n C.1 C.2.1 dX12_termOf_41 rfl (lv_at hl 0 rfl) ?_
          refine gf_93 C G dX12_termOf_42 ?_
          refine lv_iload_n C.1 C.2.1 dX12_termOf_45 rfl (lv_at hl 1 rfl) ?_
          obtain ⟨hi, h⟩ := ix_some h
          refine rf_iald C G 61 rfl (by decide) rfl rfl hi dX12_termOf_46 ?_
          refine lv_icmp_gt (tgt := 66) C.1 C.2.1 dX12_termOf_47 (by decide) (fun hc => ?_) (fun hc => ?_)
          · rw [if_pos hc] at h
            refine lv_iconst (v := (-1:Int32)) C.1 C.2.1 dX12_termOf_66 (by decide) ?_
            exact rf_iret C G h dX12_termOf_67
          · rw [if_neg hc] at h
            refine lv_aload_n C.1 C.2.1 dX12_termOf_50 rfl (lv_at hl 0 rfl) ?_
            refine gf_92 C G dX12_termOf_51 ?_
            refine lv_bipush (v := (100:Int32)) C.1 C.2.1 dX12_termOf_54 (by decide) ?_
            refine lv_iload_n C.1 C.2.1 dX12_termOf_56 rfl (lv_at hl 1 rfl) ?_
            refine lv_imul C.1 C.2.1 dX12_termOf_57 ?_
            refine lv_iload_n C.1 C.2.1 dX12_termOf_58 rfl (lv_at hl 2 rfl) ?_
            refine lv_iadd C.1 C.2.1 dX12_termOf_59 ?_
            refine lv_iconst (v := (1:Int32)) C.1 C.2.1 dX12_termOf_60 (by decide) ?_
            refine lv_isub C.1 C.2.1 dX12_termOf_61 ?_
            obtain ⟨hi, h⟩ := ix_some h
            refine rf_iald C G 60 rfl (by decide) rfl rfl hi dX12_termOf_62 ?_
            refine lv_goto (tgt := 67) C.1 C.2.1 dX12_termOf_63 (by decide) ?_
            exact rf_iret C G h dX12_termOf_67
  · rw [if_pos hc] at h
    refine lv_aload_n C.1 C.2.1 dX12_termOf_5 rfl (lv_at hl 0 rfl) ?_
    refine lv_iload_n C.1 C.2.1 dX12_termOf_6 rfl (lv_at hl 2 rfl) ?_
    obtain ⟨r_2, ρ_1, hq, h⟩ := bd2_some h
    refine rf_callV (rest := []) C G cw_isOutside [.int x2] _ (kq_isOutside l D h0 hq) (Nat.le_of_ble_eq_true rfl) (Nat.le_of_ble_eq_true rfl) rfl rfl hl.1 (Nat.le_of_ble_eq_true rfl) (Nat.zero_le _) (Nat.zero_le _) dX12_termOf_7 (fun H locs G => ?_)
    refine W.eq (g2 := F0 m 10 ls [.int r_2]) rfl ?_
    refine lv_if_eq (tgt := 21) C.1 C.2.1 dX12_termOf_10 (by decide) (fun hc => ?_) (fun hc => ?_)
    · rw [if_pos hc] at h
      refine lv_iconst (v := (-1:Int32)) C.1 C.2.1 dX12_termOf_21 (by decide) ?_
      exact rf_iret C G h dX12_termOf_22
    · rw [if_neg hc] at h
      refine lv_aload_n C.1 C.2.1 dX12_termOf_13 rfl (lv_at hl 0 rfl) ?_
      refine lv_iload_n C.1 C.2.1 dX12_termOf_14 rfl (lv_at hl 2 rfl) ?_
      obtain ⟨r_4, ρ_3, hq, h⟩ := bd2_some h
      refine rf_callV (rest := []) C G cw_outsideAt [.int x2] _ (kq_outsideAt l D h0 hq) (Nat.le_of_ble_eq_true rfl) (Nat.le_of_ble_eq_true rfl) rfl rfl hl.1 (Nat.le_of_ble_eq_true rfl) (Nat.zero_le _) (Nat.zero_le _) dX12_termOf_15 (fun H locs G => ?_)
      refine W.eq (g2 := F0 m 18 ls [.int r_4]) rfl ?_
      refine lv_goto (tgt := 22) C.1 C.2.1 dX12_termOf_18 (by decide) ?_
      exact rf_iret C G h dX12_termOf_22
noncomputable def fq_termOf (x1 : Int32) (x2 : Int32) (ρ : rf_S) : Option (Int32 × rf_S) := bq_termOf_0 x1 x2 ρ
theorem kq_termOf (l : Launch) (D : rf_D) (h0 : Nat) {r : Int32} {x1 : Int32} {x2 : Int32} {ρ ρ' : rf_S} (h : fq_termOf x1 x2 ρ = some (r, ρ')) : rf_Met l D h0 yX12_termOf cX12_termOf 3 (some .int) 1 21 [.ref h0, .int x1, .int x2] ρ (some (.int r)) ρ' :=
  rf_of rfl cc_termOf (Nat.le_of_ble_eq_true rfl) (fun p e s m args below meth c ls C G hl => wq_termOf_0 C h G hl)
abbrev cX12_knows : ByteArray := prog_14_method_117_code
def yX12_knows : MethodName := ⟨RX12, "knows", "(II)I"⟩
theorem dX12_knows_0 : decode cX12_knows 0 = .ok (.aload_n 0, 1) := by decide +kernel
theorem dX12_knows_1 : decode cX12_knows 1 = .ok (.iload_n 1, 1) := by decide +kernel
theorem dX12_knows_2 : decode cX12_knows 2 = .ok (.iload_n 2, 1) := by decide +kernel
theorem dX12_knows_3 : decode cX12_knows 3 = .ok (.invokevirtual 696, 3) := by decide +kernel
theorem dX12_knows_6 : decode cX12_knows 6 = .ok (.istore_n 3, 1) := by decide +kernel
theorem dX12_knows_7 : decode cX12_knows 7 = .ok (.iload_n 3, 1) := by decide +kernel
theorem dX12_knows_8 : decode cX12_knows 8 = .ok (.ifCond .ge 5, 3) := by decide +kernel
theorem dX12_knows_11 : decode cX12_knows 11 = .ok (.iconst (-1), 1) := by decide +kernel
theorem dX12_knows_12 : decode cX12_knows 12 = .ok (.ireturn, 1) := by decide +kernel
theorem dX12_knows_13 : decode cX12_knows 13 = .ok (.aload_n 0, 1) := by decide +kernel
theorem dX12_knows_14 : decode cX12_knows 14 = .ok (.invokevirtual 699, 3) := by decide +kernel
theorem dX12_knows_17 : decode cX12_knows 17 = .ok (.aload_n 0, 1) := by decide +kernel
theorem dX12_knows_18 : decode cX12_knows 18 = .ok (.getfield 31, 3) := by decide +kernel
theorem dX12_knows_21 : decode cX12_knows 21 = .ok (.iload_n 3, 1) := by decide +kernel
theorem dX12_knows_22 : decode cX12_knows 22 = .ok (.iaload, 1) := by decide +kernel
theorem dX12_knows_23 : decode cX12_knows 23 = .ok (.ldc_w 309, 3) := by decide +kernel
theorem dX12_knows_26 : decode cX12_knows 26 = .ok (.if_icmp .ge 7, 3) := by decide +kernel
theorem dX12_knows_29 : decode cX12_knows 29 = .ok (.iconst 1, 1) := by decide +kernel
theorem dX12_knows_30 : decode cX12_knows 30 = .ok (.goto 4, 3) := by decide +kernel
theorem dX12_knows_33 : decode cX12_knows 33 = .ok (.iconst 0, 1) := by decide +kernel
theorem dX12_knows_34 : decode cX12_knows 34 = .ok (.ireturn, 1) := by decide +kernel
theorem cc_knows : Cond.code yX12_knows cX12_knows 4 (some .int) ∈ rf_tb := rf_at 2315 (by decide +kernel) (by decide +kernel)
noncomputable def bq_knows_0 (x1 : Int32) (x2 : Int32) (ρ : rf_S) : Option (Int32 × rf_S) := bd2 (fq_termOf x1 x2 ρ) (fun r_2 ρ_1 => (if 0 ≤ r_2 then bd1 (fq_know ρ_1) (fun ρ_3 => ix r_2 112000 ((if (1000000000:Int32) ≤ (ρ_3.1 7 r_2.toNatClampNeg) then some ((0:Int32), ρ_3) else some ((1:Int32), ρ_3)))) else some ((-1:Int32), ρ_1)))
set_option maxHeartbeats 4000000 in
theorem wq_knows_0 (C : rf_C D p s m args meth c cX12_knows 4 (some .int)) {r : Int32} {x1 : Int32} {x2 : Int32} {ρ ρ' : rf_S} {H : Heap} {locs : List Loc} {ls : Array Slot} (h : bq_knows_0 x1 x2 ρ = some (r, ρ')) (G : rf_G D h0 s ρ H locs) (hl : lv_has ls 4 [(0, .ref h0), (1, .int x1), (2, .int x2)]) : W p l e ({ frames := 4, cells := 0, slots := 0, locals := 92 }) s m args below meth c H locs 0 0 (MQ below (rf_Q D h0 (some (.int r)) ρ') args s 0 0 (rf_A h0)) (F0 m 0 ls []) := by
  unfold bq_knows_0 at h
  refine lv_aload_n C.1 C.2.1 dX12_knows_0 rfl (lv_at hl 0 rfl) ?_
  refine lv_iload_n C.1 C.2.1 dX12_knows_1 rfl (lv_at hl 1 rfl) ?_
  refine lv_iload_n C.1 C.2.1 dX12_knows_2 rfl (lv_at hl 2 rfl) ?_
  obtain ⟨r_2, ρ_1, hq, h⟩ := bd2_some h
  refine rf_callV (rest := []) C G cw_termOf [.int x1, .int x2] _ (kq_termOf l D h0 hq) (Nat.le_of_ble_eq_true rfl) (Nat.le_of_ble_eq_true rfl) rfl rfl hl.1 (Nat.le_of_ble_eq_true rfl) (Nat.zero_le _) (Nat.zero_le _) dX12_knows_3 (fun H locs G => ?_)
  refine W.eq (g2 := F0 m 6 ls [.int r_2]) rfl ?_
  refine lv_istore_n (lv' := [(3, .int r_2), (0, .ref h0), (1, .int x1), (2, .int x2)]) C.1 C.2.1 dX12_knows_6 rfl hl (by decide) rfl (fun ls hl => ?_)
  refine lv_iload_n C.1 C.2.1 dX12_knows_7 rfl (lv_at hl 0 rfl) ?_
  refine lv_if_ge (tgt := 13) C.1 C.2.1 dX12_knows_8 (by decide) (fun hc => ?_) (fun hc => ?_)
  · rw [if_pos hc] at h
    refine lv_aload_n C.1 C.2.1 dX12_knows_13 rfl (lv_at hl 1 rfl) ?_
    obtain ⟨ρ_3, hq, h⟩ := bd1_some h
    refine rf_callV (rest := []) C G cw_know [] _ (kq_know l D h0 hq) (Nat.le_of_ble_eq_true rfl) (Nat.le_of_ble_eq_true rfl) rfl rfl hl.1 (Nat.le_of_ble_eq_true rfl) (Nat.zero_le _) (Nat.zero_le _) dX12_knows_14 (fun H locs G => ?_)
    refine W.eq (g2 := F0 m 17 ls []) rfl ?_
    refine lv_aload_n C.1 C.2.1 dX12_knows_17 rfl (lv_at hl 1 rfl) ?_
    refine gf_6 C G dX12_knows_18 ?_
    refine lv_iload_n C.1 C.2.1 dX12_knows_21 rfl (lv_at hl 0 rfl) ?_
    obtain ⟨hi, h⟩ := ix_some h
    refine rf_iald C G 7 rfl (by decide) rfl rfl hi dX12_knows_22 ?_
    refine lv_ldcw (v := (1000000000:Int32)) C.1 C.2.1 C.2.2.2.1 (C.2.2.2.2.1 _ kc_309) dX12_knows_23 ?_
    refine lv_icmp_ge (tgt := 33) C.1 C.2.1 dX12_knows_26 (by decide) (fun hc => ?_) (fun hc => ?_)
    · rw [if_pos hc] at h
      refine lv_iconst (v := (0:Int32)) C.1 C.2.1 dX12_knows_33 (by decide) ?_
      exact rf_iret C G h dX12_knows_34
    · rw [if_neg hc] at h
      refine lv_iconst (v := (1:Int32)) C.1 C.2.1 dX12_knows_29 (by decide) ?_
      refine lv_goto (tgt := 34) C.1 C.2.1 dX12_knows_30 (by decide) ?_
      exact rf_iret C G h dX12_knows_34
  · rw [if_neg hc] at h
    refine lv_iconst (v := (-1:Int32)) C.1 C.2.1 dX12_knows_11 (by decide) ?_
    exact rf_iret C G h dX12_knows_12
noncomputable def fq_knows (x1 : Int32) (x2 : Int32) (ρ : rf_S) : Option (Int32 × rf_S) := bq_knows_0 x1 x2 ρ
theorem kq_knows (l : Launch) (D : rf_D) (h0 : Nat) {r : Int32} {x1 : Int32} {x2 : Int32} {ρ ρ' : rf_S} (h : fq_knows x1 x2 ρ = some (r, ρ')) : rf_Met l D h0 yX12_knows cX12_knows 4 (some .int) 4 92 [.ref h0, .int x1, .int x2] ρ (some (.int r)) ρ' :=
  rf_of rfl cc_knows (Nat.le_of_ble_eq_true rfl) (fun p e s m args below meth c ls C G hl => wq_knows_0 C h G hl)
abbrev cX12_far : ByteArray := prog_14_method_118_code
def yX12_far : MethodName := ⟨RX12, "far", "(II)I"⟩
theorem dX12_far_0 : decode cX12_far 0 = .ok (.aload_n 0, 1) := by decide +kernel
theorem dX12_far_1 : decode cX12_far 1 = .ok (.iload_n 1, 1) := by decide +kernel
theorem dX12_far_2 : decode cX12_far 2 = .ok (.iload_n 2, 1) := by decide +kernel
theorem dX12_far_3 : decode cX12_far 3 = .ok (.invokevirtual 696, 3) := by decide +kernel
theorem dX12_far_6 : decode cX12_far 6 = .ok (.istore_n 3, 1) := by decide +kernel
theorem dX12_far_7 : decode cX12_far 7 = .ok (.iload_n 3, 1) := by decide +kernel
theorem dX12_far_8 : decode cX12_far 8 = .ok (.ifCond .ge 5, 3) := by decide +kernel
theorem dX12_far_11 : decode cX12_far 11 = .ok (.iconst (-1), 1) := by decide +kernel
theorem dX12_far_12 : decode cX12_far 12 = .ok (.ireturn, 1) := by decide +kernel
theorem dX12_far_13 : decode cX12_far 13 = .ok (.aload_n 0, 1) := by decide +kernel
theorem dX12_far_14 : decode cX12_far 14 = .ok (.invokevirtual 699, 3) := by decide +kernel
theorem dX12_far_17 : decode cX12_far 17 = .ok (.aload_n 0, 1) := by decide +kernel
theorem dX12_far_18 : decode cX12_far 18 = .ok (.getfield 31, 3) := by decide +kernel
theorem dX12_far_21 : decode cX12_far 21 = .ok (.iload_n 3, 1) := by decide +kernel
theorem dX12_far_22 : decode cX12_far 22 = .ok (.iaload, 1) := by decide +kernel
theorem dX12_far_23 : decode cX12_far 23 = .ok (.ldc_w 309, 3) := by decide +kernel
theorem dX12_far_26 : decode cX12_far 26 = .ok (.if_icmp .ge 12, 3) := by decide +kernel
theorem dX12_far_29 : decode cX12_far 29 = .ok (.aload_n 0, 1) := by decide +kernel
theorem dX12_far_30 : decode cX12_far 30 = .ok (.getfield 31, 3) := by decide +kernel
theorem dX12_far_33 : decode cX12_far 33 = .ok (.iload_n 3, 1) := by decide +kernel
theorem dX12_far_34 : decode cX12_far 34 = .ok (.iaload, 1) := by decide +kernel
theorem dX12_far_35 : decode cX12_far 35 = .ok (.goto 5, 3) := by decide +kernel
theorem dX12_far_38 : decode cX12_far 38 = .ok (.bipush (-3), 2) := by decide +kernel
theorem dX12_far_40 : decode cX12_far 40 = .ok (.ireturn, 1) := by decide +kernel
theorem cc_far : Cond.code yX12_far cX12_far 4 (some .int) ∈ rf_tb := rf_at 2356 (by decide +kernel) (by decide +kernel)
noncomputable def bq_far_0 (x1 : Int32) (x2 : Int32) (ρ : rf_S) : Option (Int32 × rf_S) := bd2 (fq_termOf x1 x2 ρ) (fun r_2 ρ_1 => (if 0 ≤ r_2 then bd1 (fq_know ρ_1) (fun ρ_3 => ix r_2 112000 ((if (1000000000:Int32) ≤ (ρ_3.1 7 r_2.toNatClampNeg) then some ((-3:Int32), ρ_3) else ix r_2 112000 (some ((ρ_3.1 7 r_2.toNatClampNeg), ρ_3))))) else some ((-1:Int32), ρ_1)))
set_option maxHeartbeats 4000000 in
theorem wq_far_0 (C : rf_C D p s m args meth c cX12_far 4 (some .int)) {r : Int32} {x1 : Int32} {x2 : Int32} {ρ ρ' : rf_S} {H : Heap} {locs : List Loc} {ls : Array Slot} (h : bq_far_0 x1 x2 ρ = some (r, ρ')) (G : rf_G D h0 s ρ H locs) (hl : lv_has ls 4 [(0, .ref h0), (1, .int x1), (2, .int x2)]) : W p l e ({ frames := 4, cells := 0, slots := 0, locals := 92 }) s m args below meth c H locs 0 0 (MQ below (rf_Q D h0 (some (.int r)) ρ') args s 0 0 (rf_A h0)) (F0 m 0 ls []) := by
  unfold bq_far_0 at h
  refine lv_aload_n C.1 C.2.1 dX12_far_0 rfl (lv_at hl 0 rfl) ?_
  refine lv_iload_n C.1 C.2.1 dX12_far_1 rfl (lv_at hl 1 rfl) ?_
  refine lv_iload_n C.1 C.2.1 dX12_far_2 rfl (lv_at hl 2 rfl) ?_
  obtain ⟨r_2, ρ_1, hq, h⟩ := bd2_some h
  refine rf_callV (rest := []) C G cw_termOf [.int x1, .int x2] _ (kq_termOf l D h0 hq) (Nat.le_of_ble_eq_true rfl) (Nat.le_of_ble_eq_true rfl) rfl rfl hl.1 (Nat.le_of_ble_eq_true rfl) (Nat.zero_le _) (Nat.zero_le _) dX12_far_3 (fun H locs G => ?_)
  refine W.eq (g2 := F0 m 6 ls [.int r_2]) rfl ?_
  refine lv_istore_n (lv' := [(3, .int r_2), (0, .ref h0), (1, .int x1), (2, .int x2)]) C.1 C.2.1 dX12_far_6 rfl hl (by decide) rfl (fun ls hl => ?_)
  refine lv_iload_n C.1 C.2.1 dX12_far_7 rfl (lv_at hl 0 rfl) ?_
  refine lv_if_ge (tgt := 13) C.1 C.2.1 dX12_far_8 (by decide) (fun hc => ?_) (fun hc => ?_)
  · rw [if_pos hc] at h
    refine lv_aload_n C.1 C.2.1 dX12_far_13 rfl (lv_at hl 1 rfl) ?_
    obtain ⟨ρ_3, hq, h⟩ := bd1_some h
    refine rf_callV (rest := []) C G cw_know [] _ (kq_know l D h0 hq) (Nat.le_of_ble_eq_true rfl) (Nat.le_of_ble_eq_true rfl) rfl rfl hl.1 (Nat.le_of_ble_eq_true rfl) (Nat.zero_le _) (Nat.zero_le _) dX12_far_14 (fun H locs G => ?_)
    refine W.eq (g2 := F0 m 17 ls []) rfl ?_
    refine lv_aload_n C.1 C.2.1 dX12_far_17 rfl (lv_at hl 1 rfl) ?_
    refine gf_6 C G dX12_far_18 ?_
    refine lv_iload_n C.1 C.2.1 dX12_far_21 rfl (lv_at hl 0 rfl) ?_
    obtain ⟨hi, h⟩ := ix_some h
    refine rf_iald C G 7 rfl (by decide) rfl rfl hi dX12_far_22 ?_
    refine lv_ldcw (v := (1000000000:Int32)) C.1 C.2.1 C.2.2.2.1 (C.2.2.2.2.1 _ kc_309) dX12_far_23 ?_
    refine lv_icmp_ge (tgt := 38) C.1 C.2.1 dX12_far_26 (by decide) (fun hc => ?_) (fun hc => ?_)
    · rw [if_pos hc] at h
      refine lv_bipush (v := (-3:Int32)) C.1 C.2.1 dX12_far_38 (by decide) ?_
      exact rf_iret C G h dX12_far_40
    · rw [if_neg hc] at h
      refine lv_aload_n C.1 C.2.1 dX12_far_29 rfl (lv_at hl 1 rfl) ?_
      refine gf_6 C G dX12_far_30 ?_
      refine lv_iload_n C.1 C.2.1 dX12_far_33 rfl (lv_at hl 0 rfl) ?_
      obtain ⟨hi, h⟩ := ix_some h
      refine rf_iald C G 7 rfl (by decide) rfl rfl hi dX12_far_34 ?_
      refine lv_goto (tgt := 40) C.1 C.2.1 dX12_far_35 (by decide) ?_
      exact rf_iret C G h dX12_far_40
  · rw [if_neg hc] at h
    refine lv_iconst (v := (-1:Int32)) C.1 C.2.1 dX12_far_11 (by decide) ?_
    exact rf_iret C G h dX12_far_12
noncomputable def fq_far (x1 : Int32) (x2 : Int32) (ρ : rf_S) : Option (Int32 × rf_S) := bq_far_0 x1 x2 ρ
theorem kq_far (l : Launch) (D : rf_D) (h0 : Nat) {r : Int32} {x1 : Int32} {x2 : Int32} {ρ ρ' : rf_S} (h : fq_far x1 x2 ρ = some (r, ρ')) : rf_Met l D h0 yX12_far cX12_far 4 (some .int) 4 92 [.ref h0, .int x1, .int x2] ρ (some (.int r)) ρ' :=
  rf_of rfl cc_far (Nat.le_of_ble_eq_true rfl) (fun p e s m args below meth c ls C G hl => wq_far_0 C h G hl)
abbrev cX12_same : ByteArray := prog_14_method_119_code
def yX12_same : MethodName := ⟨RX12, "same", "(IIII)I"⟩
theorem dX12_same_0 : decode cX12_same 0 = .ok (.aload_n 0, 1) := by decide +kernel
theorem dX12_same_1 : decode cX12_same 1 = .ok (.iload_n 1, 1) := by decide +kernel
theorem dX12_same_2 : decode cX12_same 2 = .ok (.iload_n 2, 1) := by decide +kernel
theorem dX12_same_3 : decode cX12_same 3 = .ok (.invokevirtual 696, 3) := by decide +kernel
theorem dX12_same_6 : decode cX12_same 6 = .ok (.istore 5, 2) := by decide +kernel
theorem dX12_same_8 : decode cX12_same 8 = .ok (.aload_n 0, 1) := by decide +kernel
theorem dX12_same_9 : decode cX12_same 9 = .ok (.iload_n 3, 1) := by decide +kernel
theorem dX12_same_10 : decode cX12_same 10 = .ok (.iload 4, 2) := by decide +kernel
theorem dX12_same_12 : decode cX12_same 12 = .ok (.invokevirtual 696, 3) := by decide +kernel
theorem dX12_same_15 : decode cX12_same 15 = .ok (.istore 6, 2) := by decide +kernel
theorem dX12_same_17 : decode cX12_same 17 = .ok (.iload 5, 2) := by decide +kernel
theorem dX12_same_19 : decode cX12_same 19 = .ok (.ifCond .lt 8, 3) := by decide +kernel
theorem dX12_same_22 : decode cX12_same 22 = .ok (.iload 6, 2) := by decide +kernel
theorem dX12_same_24 : decode cX12_same 24 = .ok (.ifCond .ge 7, 3) := by decide +kernel
theorem dX12_same_27 : decode cX12_same 27 = .ok (.iconst (-1), 1) := by decide +kernel
theorem dX12_same_28 : decode cX12_same 28 = .ok (.goto 15, 3) := by decide +kernel
theorem dX12_same_31 : decode cX12_same 31 = .ok (.iload 5, 2) := by decide +kernel
theorem dX12_same_33 : decode cX12_same 33 = .ok (.iload 6, 2) := by decide +kernel
theorem dX12_same_35 : decode cX12_same 35 = .ok (.if_icmp .ne 7, 3) := by decide +kernel
theorem dX12_same_38 : decode cX12_same 38 = .ok (.iconst 1, 1) := by decide +kernel
theorem dX12_same_39 : decode cX12_same 39 = .ok (.goto 4, 3) := by decide +kernel
theorem dX12_same_42 : decode cX12_same 42 = .ok (.iconst 0, 1) := by decide +kernel
theorem dX12_same_43 : decode cX12_same 43 = .ok (.ireturn, 1) := by decide +kernel
theorem cc_same : Cond.code yX12_same cX12_same 7 (some .int) ∈ rf_tb := rf_at 2360 (by decide +kernel) (by decide +kernel)
noncomputable def bq_same_0 (x1 : Int32) (x2 : Int32) (x3 : Int32) (x4 : Int32) (ρ : rf_S) : Option (Int32 × rf_S) := bd2 (fq_termOf x1 x2 ρ) (fun r_2 ρ_1 => bd2 (fq_termOf x3 x4 ρ_1) (fun r_4 ρ_3 => (if r_2 < 0 then some ((-1:Int32), ρ_3) else (if 0 ≤ r_4 then (if r_2 = r_4 then some ((1:Int32), ρ_3) else some ((0:Int32), ρ_3)) else some ((-1:Int32), ρ_3)))))
set_option maxHeartbeats 4000000 in
theorem wq_same_0 (C : rf_C D p s m args meth c cX12_same 7 (some .int)) {r : Int32} {x1 : Int32} {x2 : Int32} {x3 : Int32} {x4 : Int32} {ρ ρ' : rf_S} {H : Heap} {locs : List Loc} {ls : Array Slot} (h : bq_same_0 x1 x2 x3 x4 ρ = some (r, ρ')) (G : rf_G D h0 s ρ H locs) (hl : lv_has ls 7 [(0, .ref h0), (1, .int x1), (2, .int x2), (3, .int x3), (4, .int x4)]) : W p l e ({ frames := 2, cells := 0, slots := 0, locals := 43 }) s m args below meth c H locs 0 0 (MQ below (rf_Q D h0 (some (.int r)) ρ') args s 0 0 (rf_A h0)) (F0 m 0 ls []) := by
  unfold bq_same_0 at h
  refine lv_aload_n C.1 C.2.1 dX12_same_0 rfl (lv_at hl 0 rfl) ?_
  refine lv_iload_n C.1 C.2.1 dX12_same_1 rfl (lv_at hl 1 rfl) ?_
  refine lv_iload_n C.1 C.2.1 dX12_same_2 rfl (lv_at hl 2 rfl) ?_
  obtain ⟨r_2, ρ_1, hq, h⟩ := bd2_some h
  refine rf_callV (rest := []) C G cw_termOf [.int x1, .int x2] _ (kq_termOf l D h0 hq) (Nat.le_of_ble_eq_true rfl) (Nat.le_of_ble_eq_true rfl) rfl rfl hl.1 (Nat.le_of_ble_eq_true rfl) (Nat.zero_le _) (Nat.zero_le _) dX12_same_3 (fun H locs G => ?_)
  refine W.eq (g2 := F0 m 6 ls [.int r_2]) rfl ?_
  refine lv_istore (lv' := [(5, .int r_2), (0, .ref h0), (1, .int x1), (2, .int x2), (3, .int x3), (4, .int x4)]) C.1 C.2.1 dX12_same_6 hl (by decide) rfl (fun ls hl => ?_)
  refine lv_aload_n C.1 C.2.1 dX12_same_8 rfl (lv_at hl 1 rfl) ?_
  refine lv_iload_n C.1 C.2.1 dX12_same_9 rfl (lv_at hl 4 rfl) ?_
  refine lv_iload C.1 C.2.1 dX12_same_10 (lv_at hl 5 rfl) ?_
  obtain ⟨r_4, ρ_3, hq, h⟩ := bd2_some h
  refine rf_callV (rest := []) C G cw_termOf [.int x3, .int x4] _ (kq_termOf l D h0 hq) (Nat.le_of_ble_eq_true rfl) (Nat.le_of_ble_eq_true rfl) rfl rfl hl.1 (Nat.le_of_ble_eq_true rfl) (Nat.zero_le _) (Nat.zero_le _) dX12_same_12 (fun H locs G => ?_)
  refine W.eq (g2 := F0 m 15 ls [.int r_4]) rfl ?_
  refine lv_istore (lv' := [(6, .int r_4), (5, .int r_2), (0, .ref h0), (1, .int x1), (2, .int x2), (3, .int x3), (4, .int x4)]) C.1 C.2.1 dX12_same_15 hl (by decide) rfl (fun ls hl => ?_)
  refine lv_iload C.1 C.2.1 dX12_same_17 (lv_at hl 1 rfl) ?_
  refine lv_if_lt (tgt := 27) C.1 C.2.1 dX12_same_19 (by decide) (fun hc => ?_) (fun hc => ?_)
  · rw [if_pos hc] at h
    refine lv_iconst (v := (-1:Int32)) C.1 C.2.1 dX12_same_27 (by decide) ?_
    refine lv_goto (tgt := 43) C.1 C.2.1 dX12_same_28 (by decide) ?_
    exact rf_iret C G h dX12_same_43
  · rw [if_neg hc] at h
    refine lv_iload C.1 C.2.1 dX12_same_22 (lv_at hl 0 rfl) ?_
    refine lv_if_ge (tgt := 31) C.1 C.2.1 dX12_same_24 (by decide) (fun hc => ?_) (fun hc => ?_)
    · rw [if_pos hc] at h
      refine lv_iload C.1 C.2.1 dX12_same_31 (lv_at hl 1 rfl) ?_
      refine lv_iload C.1 C.2.1 dX12_same_33 (lv_at hl 0 rfl) ?_
      refine lv_icmp_ne (tgt := 42) C.1 C.2.1 dX12_same_35 (by decide) (fun hc => ?_) (fun hc => ?_)
      · rw [if_neg hc] at h
        refine lv_iconst (v := (0:Int32)) C.1 C.2.1 dX12_same_42 (by decide) ?_
        exact rf_iret C G h dX12_same_43
      · rw [if_pos hc] at h
        refine lv_iconst (v := (1:Int32)) C.1 C.2.1 dX12_same_38 (by decide) ?_
        refine lv_goto (tgt := 43) C.1 C.2.1 dX12_same_39 (by decide) ?_
        exact rf_iret C G h dX12_same_43
    · rw [if_neg hc] at h
      refine lv_iconst (v := (-1:Int32)) C.1 C.2.1 dX12_same_27 (by decide) ?_
      refine lv_goto (tgt := 43) C.1 C.2.1 dX12_same_28 (by decide) ?_
      exact rf_iret C G h dX12_same_43
noncomputable def fq_same (x1 : Int32) (x2 : Int32) (x3 : Int32) (x4 : Int32) (ρ : rf_S) : Option (Int32 × rf_S) := bq_same_0 x1 x2 x3 x4 ρ
theorem kq_same (l : Launch) (D : rf_D) (h0 : Nat) {r : Int32} {x1 : Int32} {x2 : Int32} {x3 : Int32} {x4 : Int32} {ρ ρ' : rf_S} (h : fq_same x1 x2 x3 x4 ρ = some (r, ρ')) : rf_Met l D h0 yX12_same cX12_same 7 (some .int) 2 43 [.ref h0, .int x1, .int x2, .int x3, .int x4] ρ (some (.int r)) ρ' :=
  rf_of rfl cc_same (Nat.le_of_ble_eq_true rfl) (fun p e s m args below meth c ls C G hl => wq_same_0 C h G hl)
abbrev cX12_flows : ByteArray := prog_14_method_120_code
def yX12_flows : MethodName := ⟨RX12, "flows", "(II)I"⟩
theorem dX12_flows_0 : decode cX12_flows 0 = .ok (.iload_n 1, 1) := by decide +kernel
theorem dX12_flows_1 : decode cX12_flows 1 = .ok (.ifCond .lt 23, 3) := by decide +kernel
theorem dX12_flows_4 : decode cX12_flows 4 = .ok (.iload_n 1, 1) := by decide +kernel
theorem dX12_flows_5 : decode cX12_flows 5 = .ok (.aload_n 0, 1) := by decide +kernel
theorem dX12_flows_6 : decode cX12_flows 6 = .ok (.getfield 513, 3) := by decide +kernel
theorem dX12_flows_9 : decode cX12_flows 9 = .ok (.if_icmp .ge 15, 3) := by decide +kernel
theorem dX12_flows_12 : decode cX12_flows 12 = .ok (.iload_n 2, 1) := by decide +kernel
theorem dX12_flows_13 : decode cX12_flows 13 = .ok (.ifCond .lt 11, 3) := by decide +kernel
theorem dX12_flows_16 : decode cX12_flows 16 = .ok (.iload_n 2, 1) := by decide +kernel
theorem dX12_flows_17 : decode cX12_flows 17 = .ok (.aload_n 0, 1) := by decide +kernel
theorem dX12_flows_18 : decode cX12_flows 18 = .ok (.getfield 513, 3) := by decide +kernel
theorem dX12_flows_21 : decode cX12_flows 21 = .ok (.if_icmp .lt 7, 3) := by decide +kernel
theorem dX12_flows_24 : decode cX12_flows 24 = .ok (.iconst (-1), 1) := by decide +kernel
theorem dX12_flows_25 : decode cX12_flows 25 = .ok (.goto 22, 3) := by decide +kernel
theorem dX12_flows_28 : decode cX12_flows 28 = .ok (.aload_n 0, 1) := by decide +kernel
theorem dX12_flows_29 : decode cX12_flows 29 = .ok (.getfield 134, 3) := by decide +kernel
theorem dX12_flows_32 : decode cX12_flows 32 = .ok (.bipush 8, 2) := by decide +kernel
theorem dX12_flows_34 : decode cX12_flows 34 = .ok (.iload_n 1, 1) := by decide +kernel
theorem dX12_flows_35 : decode cX12_flows 35 = .ok (.imul, 1) := by decide +kernel
theorem dX12_flows_36 : decode cX12_flows 36 = .ok (.iload_n 2, 1) := by decide +kernel
theorem dX12_flows_37 : decode cX12_flows 37 = .ok (.iadd, 1) := by decide +kernel
theorem dX12_flows_38 : decode cX12_flows 38 = .ok (.baload, 1) := by decide +kernel
theorem dX12_flows_39 : decode cX12_flows 39 = .ok (.ifCond .eq 7, 3) := by decide +kernel
theorem dX12_flows_42 : decode cX12_flows 42 = .ok (.iconst 1, 1) := by decide +kernel
theorem dX12_flows_43 : decode cX12_flows 43 = .ok (.goto 4, 3) := by decide +kernel
theorem dX12_flows_46 : decode cX12_flows 46 = .ok (.iconst 0, 1) := by decide +kernel
theorem dX12_flows_47 : decode cX12_flows 47 = .ok (.ireturn, 1) := by decide +kernel
theorem cc_flows : Cond.code yX12_flows cX12_flows 3 (some .int) ∈ rf_tb := rf_at 2364 (by decide +kernel) (by decide +kernel)
noncomputable def bq_flows_0 (x1 : Int32) (x2 : Int32) (ρ : rf_S) : Option (Int32 × rf_S) := (if x1 < 0 then some ((-1:Int32), ρ) else (if (ρ.1 0 55) ≤ x1 then some ((-1:Int32), ρ) else (if x2 < 0 then some ((-1:Int32), ρ) else (if x2 < (ρ.1 0 55) then ix (((8:Int32) * x1) + x2) 64 ((if (ρ.1 37 (((8:Int32) * x1) + x2).toNatClampNeg) = 0 then some ((0:Int32), ρ) else some ((1:Int32), ρ))) else some ((-1:Int32), ρ)))))
set_option maxHeartbeats 4000000 in
theorem wq_flows_0 (C : rf_C D p s m args meth c cX12_flows 3 (some .int)) {r : Int32} {x1 : Int32} {x2 : Int32} {ρ ρ' : rf_S} {H : Heap} {locs : List Loc} {ls : Array Slot} (h : bq_flows_0 x1 x2 ρ = some (r, ρ')) (G : rf_G D h0 s ρ H locs) (hl : lv_has ls 3 [(0, .ref h0), (1, .int x1), (2, .int x2)]) : W p l e ({ frames := 0, cells := 0, slots := 0, locals := 0 }) s m args below meth c H locs 0 0 (MQ below (rf_Q D h0 (some (.int r)) ρ') args s 0 0 (rf_A h0)) (F0 m 0 ls []) := by
  unfold bq_flows_0 at h
  refine lv_iload_n C.1 C.2.1 dX12_flows_0 rfl (lv_at hl 1 rfl) ?_
  refine lv_if_lt (tgt := 24) C.1 C.2.1 dX12_flows_1 (by decide) (fun hc => ?_) (fun hc => ?_)
  · rw [if_pos hc] at h
    refine lv_iconst (v := (-1:Int32)) C.1 C.2.1 dX12_flows_24 (by decide) ?_
    refine lv_goto (tgt := 47) C.1 C.2.1 dX12_flows_25 (by decide) ?_
    exact rf_iret C G h dX12_flows_47
  · rw [if_neg hc] at h
    refine lv_iload_n C.1 C.2.1 dX12_flows_4 rfl (lv_at hl 1 rfl) ?_
    refine lv_aload_n C.1 C.2.1 dX12_flows_5 rfl (lv_at hl 0 rfl) ?_
    refine gf_55 C G dX12_flows_6 ?_
    refine lv_icmp_ge (tgt := 24) C.1 C.2.1 dX12_flows_9 (by decide) (fun hc => ?_) (fun hc => ?_)
    · rw [if_pos hc] at h
      refine lv_iconst (v := (-1:Int32)) C.1 C.2.1 dX12_flows_24 (by decide) ?_
      refine lv_goto (tgt := 47) C.1 C.2.1 dX12_flows_25 (by decide) ?_
      exact rf_iret C G h dX12_flows_47
    · rw [if_neg hc] at h
      refine lv_iload_n C.1 C.2.1 dX12_flows_12 rfl (lv_at hl 2 rfl) ?_
      refine lv_if_lt (tgt := 24) C.1 C.2.1 dX12_flows_13 (by decide) (fun hc => ?_) (fun hc => ?_)
      · rw [if_pos hc] at h
        refine lv_iconst (v := (-1:Int32)) C.1 C.2.1 dX12_flows_24 (by decide) ?_
        refine lv_goto (tgt := 47) C.1 C.2.1 dX12_flows_25 (by decide) ?_
        exact rf_iret C G h dX12_flows_47
      · rw [if_neg hc] at h
        refine lv_iload_n C.1 C.2.1 dX12_flows_16 rfl (lv_at hl 2 rfl) ?_
        refine lv_aload_n C.1 C.2.1 dX12_flows_17 rfl (lv_at hl 0 rfl) ?_
        refine gf_55 C G dX12_flows_18 ?_
        refine lv_icmp_lt (tgt := 28) C.1 C.2.1 dX12_flows_21 (by decide) (fun hc => ?_) (fun hc => ?_)
        · rw [if_pos hc] at h
          refine lv_aload_n C.1 C.2.1 dX12_flows_28 rfl (lv_at hl 0 rfl) ?_
          refine gf_67 C G dX12_flows_29 ?_
          refine lv_bipush (v := (8:Int32)) C.1 C.2.1 dX12_flows_32 (by decide) ?_
          refine lv_iload_n C.1 C.2.1 dX12_flows_34 rfl (lv_at hl 1 rfl) ?_
          refine lv_imul C.1 C.2.1 dX12_flows_35 ?_
          refine lv_iload_n C.1 C.2.1 dX12_flows_36 rfl (lv_at hl 2 rfl) ?_
          refine lv_iadd C.1 C.2.1 dX12_flows_37 ?_
          obtain ⟨hi, h⟩ := ix_some h
          refine rf_zald C G 37 rfl (by decide) rfl rfl hi dX12_flows_38 ?_
          refine lv_if_eq (tgt := 46) C.1 C.2.1 dX12_flows_39 (by decide) (fun hc => ?_) (fun hc => ?_)
          · rw [if_pos hc] at h
            refine lv_iconst (v := (0:Int32)) C.1 C.2.1 dX12_flows_46 (by decide) ?_
            exact rf_iret C G h dX12_flows_47
          · rw [if_neg hc] at h
            refine lv_iconst (v := (1:Int32)) C.1 C.2.1 dX12_flows_42 (by decide) ?_
            refine lv_goto (tgt := 47) C.1 C.2.1 dX12_flows_43 (by decide) ?_
            exact rf_iret C G h dX12_flows_47
        · rw [if_neg hc] at h
          refine lv_iconst (v := (-1:Int32)) C.1 C.2.1 dX12_flows_24 (by decide) ?_
          refine lv_goto (tgt := 47) C.1 C.2.1 dX12_flows_25 (by decide) ?_
          exact rf_iret C G h dX12_flows_47
noncomputable def fq_flows (x1 : Int32) (x2 : Int32) (ρ : rf_S) : Option (Int32 × rf_S) := bq_flows_0 x1 x2 ρ
theorem kq_flows (l : Launch) (D : rf_D) (h0 : Nat) {r : Int32} {x1 : Int32} {x2 : Int32} {ρ ρ' : rf_S} (h : fq_flows x1 x2 ρ = some (r, ρ')) : rf_Met l D h0 yX12_flows cX12_flows 3 (some .int) 0 0 [.ref h0, .int x1, .int x2] ρ (some (.int r)) ρ' :=
  rf_of rfl cc_flows (Nat.le_of_ble_eq_true rfl) (fun p e s m args below meth c ls C G hl => wq_flows_0 C h G hl)
abbrev cX12_prepare : ByteArray := prog_14_method_121_code
def yX12_prepare : MethodName := ⟨RX12, "prepare", "(I)V"⟩
theorem dX12_prepare_0 : decode cX12_prepare 0 = .ok (.aload_n 0, 1) := by decide +kernel
theorem dX12_prepare_1 : decode cX12_prepare 1 = .ok (.invokevirtual 550, 3) := by decide +kernel
theorem dX12_prepare_4 : decode cX12_prepare 4 = .ok (.iconst 0, 1) := by decide +kernel
theorem dX12_prepare_5 : decode cX12_prepare 5 = .ok (.istore_n 2, 1) := by decide +kernel
theorem dX12_prepare_6 : decode cX12_prepare 6 = .ok (.iload_n 2, 1) := by decide +kernel
theorem dX12_prepare_7 : decode cX12_prepare 7 = .ok (.bipush 64, 2) := by decide +kernel
theorem dX12_prepare_9 : decode cX12_prepare 9 = .ok (.if_icmp .ge 39, 3) := by decide +kernel
theorem dX12_prepare_12 : decode cX12_prepare 12 = .ok (.aload_n 0, 1) := by decide +kernel
theorem dX12_prepare_13 : decode cX12_prepare 13 = .ok (.getfield 245, 3) := by decide +kernel
theorem dX12_prepare_16 : decode cX12_prepare 16 = .ok (.bipush 64, 2) := by decide +kernel
theorem dX12_prepare_18 : decode cX12_prepare 18 = .ok (.iload_n 2, 1) := by decide +kernel
theorem dX12_prepare_19 : decode cX12_prepare 19 = .ok (.iadd, 1) := by decide +kernel
theorem dX12_prepare_20 : decode cX12_prepare 20 = .ok (.aload_n 0, 1) := by decide +kernel
theorem dX12_prepare_21 : decode cX12_prepare 21 = .ok (.getfield 143, 3) := by decide +kernel
theorem dX12_prepare_24 : decode cX12_prepare 24 = .ok (.iload_n 2, 1) := by decide +kernel
theorem dX12_prepare_25 : decode cX12_prepare 25 = .ok (.iaload, 1) := by decide +kernel
theorem dX12_prepare_26 : decode cX12_prepare 26 = .ok (.iastore, 1) := by decide +kernel
theorem dX12_prepare_27 : decode cX12_prepare 27 = .ok (.aload_n 0, 1) := by decide +kernel
theorem dX12_prepare_28 : decode cX12_prepare 28 = .ok (.getfield 248, 3) := by decide +kernel
theorem dX12_prepare_31 : decode cX12_prepare 31 = .ok (.bipush 64, 2) := by decide +kernel
theorem dX12_prepare_33 : decode cX12_prepare 33 = .ok (.iload_n 2, 1) := by decide +kernel
theorem dX12_prepare_34 : decode cX12_prepare 34 = .ok (.iadd, 1) := by decide +kernel
theorem dX12_prepare_35 : decode cX12_prepare 35 = .ok (.aload_n 0, 1) := by decide +kernel
theorem dX12_prepare_36 : decode cX12_prepare 36 = .ok (.getfield 146, 3) := by decide +kernel
theorem dX12_prepare_39 : decode cX12_prepare 39 = .ok (.iload_n 2, 1) := by decide +kernel
theorem dX12_prepare_40 : decode cX12_prepare 40 = .ok (.iaload, 1) := by decide +kernel
theorem dX12_prepare_41 : decode cX12_prepare 41 = .ok (.iastore, 1) := by decide +kernel
theorem dX12_prepare_42 : decode cX12_prepare 42 = .ok (.iinc 2 1, 3) := by decide +kernel
theorem dX12_prepare_45 : decode cX12_prepare 45 = .ok (.goto (-39), 3) := by decide +kernel
theorem dX12_prepare_48 : decode cX12_prepare 48 = .ok (.iconst 0, 1) := by decide +kernel
theorem dX12_prepare_49 : decode cX12_prepare 49 = .ok (.istore_n 2, 1) := by decide +kernel
theorem dX12_prepare_50 : decode cX12_prepare 50 = .ok (.iload_n 2, 1) := by decide +kernel
theorem dX12_prepare_51 : decode cX12_prepare 51 = .ok (.aload_n 0, 1) := by decide +kernel
theorem dX12_prepare_52 : decode cX12_prepare 52 = .ok (.getfield 513, 3) := by decide +kernel
theorem dX12_prepare_55 : decode cX12_prepare 55 = .ok (.if_icmp .ge 90, 3) := by decide +kernel
theorem dX12_prepare_58 : decode cX12_prepare 58 = .ok (.aload_n 0, 1) := by decide +kernel
theorem dX12_prepare_59 : decode cX12_prepare 59 = .ok (.getfield 134, 3) := by decide +kernel
theorem dX12_prepare_62 : decode cX12_prepare 62 = .ok (.bipush 8, 2) := by decide +kernel
theorem dX12_prepare_64 : decode cX12_prepare 64 = .ok (.iload_n 2, 1) := by decide +kernel
theorem dX12_prepare_65 : decode cX12_prepare 65 = .ok (.imul, 1) := by decide +kernel
theorem dX12_prepare_66 : decode cX12_prepare 66 = .ok (.iload_n 1, 1) := by decide +kernel
theorem dX12_prepare_67 : decode cX12_prepare 67 = .ok (.iadd, 1) := by decide +kernel
theorem dX12_prepare_68 : decode cX12_prepare 68 = .ok (.baload, 1) := by decide +kernel
theorem dX12_prepare_69 : decode cX12_prepare 69 = .ok (.ifCond .eq 6, 3) := by decide +kernel
theorem dX12_prepare_72 : decode cX12_prepare 72 = .ok (.goto 67, 3) := by decide +kernel
theorem dX12_prepare_75 : decode cX12_prepare 75 = .ok (.aload_n 0, 1) := by decide +kernel
theorem dX12_prepare_76 : decode cX12_prepare 76 = .ok (.getfield 188, 3) := by decide +kernel
theorem dX12_prepare_79 : decode cX12_prepare 79 = .ok (.bipush 8, 2) := by decide +kernel
theorem dX12_prepare_81 : decode cX12_prepare 81 = .ok (.iload_n 2, 1) := by decide +kernel
theorem dX12_prepare_82 : decode cX12_prepare 82 = .ok (.iadd, 1) := by decide +kernel
theorem dX12_prepare_83 : decode cX12_prepare 83 = .ok (.iconst 1, 1) := by decide +kernel
theorem dX12_prepare_84 : decode cX12_prepare 84 = .ok (.bastore, 1) := by decide +kernel
theorem dX12_prepare_85 : decode cX12_prepare 85 = .ok (.iconst 2, 1) := by decide +kernel
theorem dX12_prepare_86 : decode cX12_prepare 86 = .ok (.aload_n 0, 1) := by decide +kernel
theorem dX12_prepare_87 : decode cX12_prepare 87 = .ok (.getfield 116, 3) := by decide +kernel
theorem dX12_prepare_90 : decode cX12_prepare 90 = .ok (.iload_n 2, 1) := by decide +kernel
theorem dX12_prepare_91 : decode cX12_prepare 91 = .ok (.iaload, 1) := by decide +kernel
theorem dX12_prepare_92 : decode cX12_prepare 92 = .ok (.imul, 1) := by decide +kernel
theorem dX12_prepare_93 : decode cX12_prepare 93 = .ok (.istore_n 3, 1) := by decide +kernel
theorem dX12_prepare_94 : decode cX12_prepare 94 = .ok (.iload_n 3, 1) := by decide +kernel
theorem dX12_prepare_95 : decode cX12_prepare 95 = .ok (.iconst 2, 1) := by decide +kernel
theorem dX12_prepare_96 : decode cX12_prepare 96 = .ok (.aload_n 0, 1) := by decide +kernel
theorem dX12_prepare_97 : decode cX12_prepare 97 = .ok (.getfield 116, 3) := by decide +kernel
theorem dX12_prepare_100 : decode cX12_prepare 100 = .ok (.iload_n 2, 1) := by decide +kernel
theorem dX12_prepare_101 : decode cX12_prepare 101 = .ok (.iaload, 1) := by decide +kernel
theorem dX12_prepare_102 : decode cX12_prepare 102 = .ok (.aload_n 0, 1) := by decide +kernel
theorem dX12_prepare_103 : decode cX12_prepare 103 = .ok (.getfield 113, 3) := by decide +kernel
theorem dX12_prepare_106 : decode cX12_prepare 106 = .ok (.iload_n 2, 1) := by decide +kernel
theorem dX12_prepare_107 : decode cX12_prepare 107 = .ok (.iaload, 1) := by decide +kernel
theorem dX12_prepare_108 : decode cX12_prepare 108 = .ok (.iadd, 1) := by decide +kernel
theorem dX12_prepare_109 : decode cX12_prepare 109 = .ok (.imul, 1) := by decide +kernel
theorem dX12_prepare_110 : decode cX12_prepare 110 = .ok (.if_icmp .ge 29, 3) := by decide +kernel
theorem dX12_prepare_113 : decode cX12_prepare 113 = .ok (.aload_n 0, 1) := by decide +kernel
theorem dX12_prepare_114 : decode cX12_prepare 114 = .ok (.getfield 245, 3) := by decide +kernel
theorem dX12_prepare_117 : decode cX12_prepare 117 = .ok (.bipush 64, 2) := by decide +kernel
theorem dX12_prepare_119 : decode cX12_prepare 119 = .ok (.iload_n 3, 1) := by decide +kernel
theorem dX12_prepare_120 : decode cX12_prepare 120 = .ok (.iadd, 1) := by decide +kernel
theorem dX12_prepare_121 : decode cX12_prepare 121 = .ok (.iconst 0, 1) := by decide +kernel
theorem dX12_prepare_122 : decode cX12_prepare 122 = .ok (.iastore, 1) := by decide +kernel
theorem dX12_prepare_123 : decode cX12_prepare 123 = .ok (.aload_n 0, 1) := by decide +kernel
theorem dX12_prepare_124 : decode cX12_prepare 124 = .ok (.getfield 248, 3) := by decide +kernel
theorem dX12_prepare_127 : decode cX12_prepare 127 = .ok (.bipush 64, 2) := by decide +kernel
theorem dX12_prepare_129 : decode cX12_prepare 129 = .ok (.iload_n 3, 1) := by decide +kernel
theorem dX12_prepare_130 : decode cX12_prepare 130 = .ok (.iadd, 1) := by decide +kernel
theorem dX12_prepare_131 : decode cX12_prepare 131 = .ok (.iconst (-1), 1) := by decide +kernel
theorem dX12_prepare_132 : decode cX12_prepare 132 = .ok (.iastore, 1) := by decide +kernel
theorem dX12_prepare_133 : decode cX12_prepare 133 = .ok (.iinc 3 1, 3) := by decide +kernel
theorem dX12_prepare_136 : decode cX12_prepare 136 = .ok (.goto (-42), 3) := by decide +kernel
theorem dX12_prepare_139 : decode cX12_prepare 139 = .ok (.iinc 2 1, 3) := by decide +kernel
theorem dX12_prepare_142 : decode cX12_prepare 142 = .ok (.goto (-92), 3) := by decide +kernel
theorem dX12_prepare_145 : decode cX12_prepare 145 = .ok (.return_, 1) := by decide +kernel
theorem cc_prepare : Cond.code yX12_prepare cX12_prepare 4 none ∈ rf_tb := rf_at 2372 (by decide +kernel) (by decide +kernel)
theorem cw_prepare : rf_wV yX12_prepare cX12_prepare 4 none 702 1 := ⟨⟨rf_at 2369 (by decide +kernel) (by decide +kernel), rf_at 2371 (by decide +kernel) (by decide +kernel), rf_sel (q := (yX12_prepare, 122)) 152 (by decide +kernel) (by decide +kernel), cc_prepare⟩, rfl, by decide +kernel⟩
noncomputable def lq_prepare_6 (x1 : Int32) (x2 : Int32) (ρ : rf_S) : Option ((Int32 × rf_S) ⊕ (Int32 × rf_S)) := (if (64:Int32) ≤ x2 then some (.inr (x2, ρ)) else ix x2 64 (ix ((64:Int32) + x2) 128 (vl (rf_w ρ 74 ((64:Int32) + x2).toNatClampNeg (ρ.1 40 x2.toNatClampNeg)) (fun ρ_2 => ix x2 64 (ix ((64:Int32) + x2) 128 (vl (rf_w ρ_2 75 ((64:Int32) + x2).toNatClampNeg (ρ_2.1 41 x2.toNatClampNeg)) (fun ρ_3 => vl (x2 + (1:Int32)) (fun x2_4 => some (.inl (x2_4, ρ_3))))))))))
noncomputable def lq_prepare_94i50 (x1 : Int32) (x2 : Int32) (x3 : Int32) (ρ : rf_S) : Option ((Int32 × rf_S) ⊕ (Int32 × rf_S)) := ix x2 8 (ix x2 8 ((if ((2:Int32) * ((ρ.1 31 x2.toNatClampNeg) + (ρ.1 30 x2.toNatClampNeg))) ≤ x3 then some (.inr (x3, ρ)) else ix ((64:Int32) + x3) 128 (vl (rf_w ρ 74 ((64:Int32) + x3).toNatClampNeg (0:Int32)) (fun ρ_7 => ix ((64:Int32) + x3) 128 (vl (rf_w ρ_7 75 ((64:Int32) + x3).toNatClampNeg (-1:Int32)) (fun ρ_8 => vl (x3 + (1:Int32)) (fun x3_9 => some (.inl (x3_9, ρ_8))))))))))
noncomputable def bq_prepare_139i50 (x1 : Int32) (x2 : Int32) (ρ : rf_S) : Option ((Int32 × rf_S) ⊕ (Int32 × rf_S)) := vl (x2 + (1:Int32)) (fun x2_10 => some (.inl (x2_10, ρ)))
set_option maxHeartbeats 4000000 in
theorem wq_prepare_139i50 (C : rf_C D p s m args meth c cX12_prepare 4 none) {x1 : Int32} {x2 : Int32} {ρ ρ' : rf_S} {H : Heap} {locs : List Loc} {ls : Array Slot} {o : (Int32 × rf_S) ⊕ (Int32 × rf_S)} (h : bq_prepare_139i50 x1 x2 ρ = some o) (hP : Sum.elim (fun z : (Int32 × rf_S) => ∀ (H : Heap) (locs : List Loc) (ls : Array Slot), rf_G D h0 s z.2 H locs → lv_has ls 4 [(0, .ref h0), (1, .int x1), (2, .int z.1)] → W p l e ({ frames := 1, cells := 0, slots := 0, locals := 23 }) s m args below meth c H locs 0 0 (MQ below (rf_Q D h0 none ρ') args s 0 0 (rf_A h0)) (F0 m 50 ls [])) (fun z : (Int32 × rf_S) => ∀ (H : Heap) (locs : List Loc) (ls : Array Slot), rf_G D h0 s z.2 H locs → lv_has ls 4 [(0, .ref h0), (1, .int x1), (2, .int z.1)] → W p l e ({ frames := 1, cells := 0, slots := 0, locals := 23 }) s m args below meth c H locs 0 0 (MQ below (rf_Q D h0 none ρ') args s 0 0 (rf_A h0)) (F0 m 145 ls [])) o) (G : rf_G D h0 s ρ H locs) (hl : lv_has ls 4 [(0, .ref h0), (1, .int x1), (2, .int x2)]) : W p l e ({ frames := 1, cells := 0, slots := 0, locals := 23 }) s m args below meth c H locs 0 0 (MQ below (rf_Q D h0 none ρ') args s 0 0 (rf_A h0)) (F0 m 139 ls []) := by
  unfold bq_prepare_139i50 at h
  refine vl_ex h (fun x2_10 ey h => ?_)
  refine lv_iinc (v := x2_10) (lv' := [(2, .int x2_10), (0, .ref h0), (1, .int x1)]) C.1 C.2.1 dX12_prepare_139 hl (k := 2) rfl (by rw [ey]; rfl) (by decide) rfl (fun ls hl => ?_)
  refine lv_goto (tgt := 50) C.1 C.2.1 dX12_prepare_142 (by decide) ?_
  cases h
  exact hP _ _ _ G (lv_sub hl [1, 2, 0] rfl)
noncomputable def eq_prepare_94i50 (x1 : Int32) (x2 : Int32) (x3 : Int32) (ρ : rf_S) : Option ((Int32 × rf_S) ⊕ (Int32 × rf_S)) := bq_prepare_139i50 x1 x2 ρ
noncomputable def bq_prepare_94i50 (x1 : Int32) (x2 : Int32) (x3 : Int32) (ρ : rf_S) : Option ((Int32 × rf_S) ⊕ (Int32 × rf_S)) := (lp (fun z : (Int32 × rf_S) => lq_prepare_94i50 x1 x2 z.1 z.2) (x3, ρ)).bind (fun z => eq_prepare_94i50 x1 x2 z.1 z.2)
set_option maxHeartbeats 4000000 in
theorem wq_prepare_94i50 (C : rf_C D p s m args meth c cX12_prepare 4 none) {x1 : Int32} {x2 : Int32} {x3 : Int32} {ρ ρ' : rf_S} {H : Heap} {locs : List Loc} {ls : Array Slot} {o : (Int32 × rf_S) ⊕ (Int32 × rf_S)} (h : bq_prepare_94i50 x1 x2 x3 ρ = some o) (hP : Sum.elim (fun z : (Int32 × rf_S) => ∀ (H : Heap) (locs : List Loc) (ls : Array Slot), rf_G D h0 s z.2 H locs → lv_has ls 4 [(0, .ref h0), (1, .int x1), (2, .int z.1)] → W p l e ({ frames := 1, cells := 0, slots := 0, locals := 23 }) s m args below meth c H locs 0 0 (MQ below (rf_Q D h0 none ρ') args s 0 0 (rf_A h0)) (F0 m 50 ls [])) (fun z : (Int32 × rf_S) => ∀ (H : Heap) (locs : List Loc) (ls : Array Slot), rf_G D h0 s z.2 H locs → lv_has ls 4 [(0, .ref h0), (1, .int x1), (2, .int z.1)] → W p l e ({ frames := 1, cells := 0, slots := 0, locals := 23 }) s m args below meth c H locs 0 0 (MQ below (rf_Q D h0 none ρ') args s 0 0 (rf_A h0)) (F0 m 145 ls [])) o) (G : rf_G D h0 s ρ H locs) (hl : lv_has ls 4 [(0, .ref h0), (1, .int x1), (2, .int x2), (3, .int x3)]) : W p l e ({ frames := 1, cells := 0, slots := 0, locals := 23 }) s m args below meth c H locs 0 0 (MQ below (rf_Q D h0 none ρ') args s 0 0 (rf_A h0)) (F0 m 94 ls []) := by
  unfold bq_prepare_94i50 at h
  obtain ⟨y, hy, h⟩ := bd_some h
  have hE : (fun z : (Int32 × rf_S) => ∀ (H : Heap) (locs : List Loc) (ls : Array Slot), rf_G D h0 s z.2 H locs → lv_has ls 4 [(0, .ref h0), (1, .int x1), (2, .int x2), (3, .int z.1)] → W p l e ({ frames := 1, cells := 0, slots := 0, locals := 23 }) s m args below meth c H locs 0 0 (MQ below (rf_Q D h0 none ρ') args s 0 0 (rf_A h0)) (F0 m 139 ls [])) y := by
    intro H locs ls G hl
    obtain ⟨x3, ρ⟩ := y
    dsimp only at h G hl
    unfold eq_prepare_94i50 at h
    exact wq_prepare_139i50 C h hP G (lv_sub hl [0, 1, 2] rfl)
  refine lp_recE (fun z : (Int32 × rf_S) => ∀ (H : Heap) (locs : List Loc) (ls : Array Slot), rf_G D h0 s z.2 H locs → lv_has ls 4 [(0, .ref h0), (1, .int x1), (2, .int x2), (3, .int z.1)] → W p l e ({ frames := 1, cells := 0, slots := 0, locals := 23 }) s m args below meth c H locs 0 0 (MQ below (rf_Q D h0 none ρ') args s 0 0 (rf_A h0)) (F0 m 94 ls [])) (fun z : (Int32 × rf_S) => ∀ (H : Heap) (locs : List Loc) (ls : Array Slot), rf_G D h0 s z.2 H locs → lv_has ls 4 [(0, .ref h0), (1, .int x1), (2, .int x2), (3, .int z.1)] → W p l e ({ frames := 1, cells := 0, slots := 0, locals := 23 }) s m args below meth c H locs 0 0 (MQ below (rf_Q D h0 none ρ') args s 0 0 (rf_A h0)) (F0 m 139 ls [])) ?_ _ _ hy hE _ _ _ G hl
  clear hE hy G hl h hP
  intro z o h hP H locs ls G hl
  obtain ⟨x3, ρ⟩ := z
  dsimp only at h G hl
  unfold lq_prepare_94i50 at h
  refine lv_iload_n C.1 C.2.1 dX12_prepare_94 rfl (lv_at hl 3 rfl) ?_
  refine lv_iconst (v := (2:Int32)) C.1 C.2.1 dX12_prepare_95 (by decide) ?_
  refine lv_aload_n C.1 C.2.1 dX12_prepare_96 rfl (lv_at hl 0 rfl) ?_
  refine gf_59 C G dX12_prepare_97 ?_
  refine lv_iload_n C.1 C.2.1 dX12_prepare_100 rfl (lv_at hl 2 rfl) ?_
  obtain ⟨hi, h⟩ := ix_some h
  refine rf_iald C G 31 rfl (by decide) rfl rfl hi dX12_prepare_101 ?_
  refine lv_aload_n C.1 C.2.1 dX12_prepare_102 rfl (lv_at hl 0 rfl) ?_
  refine gf_58 C G dX12_prepare_103 ?_
  refine lv_iload_n C.1 C.2.1 dX12_prepare_106 rfl (lv_at hl 2 rfl) ?_
  obtain ⟨hi, h⟩ := ix_some h
  refine rf_iald C G 30 rfl (by decide) rfl rfl hi dX12_prepare_107 ?_
  refine lv_iadd C.1 C.2.1 dX12_prepare_108 ?_
  refine lv_imul C.1 C.2.1 dX12_prepare_109 ?_
  refine lv_icmp_ge (tgt := 139) C.1 C.2.1 dX12_prepare_110 (by decide) (fun hc => ?_) (fun hc => ?_)
  · rw [if_pos hc] at h
    cases h
    exact hP _ _ _ G (lv_sub hl [0, 1, 2, 3] rfl)
  · rw [if_neg hc] at h
    refine lv_aload_n C.1 C.2.1 dX12_prepare_113 rfl (lv_at hl 0 rfl) ?_
    refine gf_106 C G dX12_prepare_114 ?_
    refine lv_bipush (v := (64:Int32)) C.1 C.2.1 dX12_prepare_117 (by decide) ?_
    refine lv_iload_n C.1 C.2.1 dX12_prepare_119 rfl (lv_at hl 3 rfl) ?_
    refine lv_iadd C.1 C.2.1 dX12_prepare_120 ?_
    refine lv_iconst (v := (0:Int32)) C.1 C.2.1 dX12_prepare_121 (by decide) ?_
    obtain ⟨hi, h⟩ := ix_some h
    refine rf_iast C G 74 rfl (by decide) rfl rfl hi dX12_prepare_122 (fun H locs G => ?_)
    refine rf_nm G h (fun ρ_7 G h => ?_)
    refine lv_aload_n C.1 C.2.1 dX12_prepare_123 rfl (lv_at hl 0 rfl) ?_
    refine gf_107 C G dX12_prepare_124 ?_
    refine lv_bipush (v := (64:Int32)) C.1 C.2.1 dX12_prepare_127 (by decide) ?_
    refine lv_iload_n C.1 C.2.1 dX12_prepare_129 rfl (lv_at hl 3 rfl) ?_
    refine lv_iadd C.1 C.2.1 dX12_prepare_130 ?_
    refine lv_iconst (v := (-1:Int32)) C.1 C.2.1 dX12_prepare_131 (by decide) ?_
    obtain ⟨hi, h⟩ := ix_some h
    refine rf_iast C G 75 rfl (by decide) rfl rfl hi dX12_prepare_132 (fun H locs G => ?_)
    refine rf_nm G h (fun ρ_8 G h => ?_)
    refine vl_ex h (fun x3_9 ey h => ?_)
    refine lv_iinc (v := x3_9) (lv' := [(3, .int x3_9), (0, .ref h0), (1, .int x1), (2, .int x2)]) C.1 C.2.1 dX12_prepare_133 hl (k := 3) rfl (by rw [ey]; rfl) (by decide) rfl (fun ls hl => ?_)
    refine lv_goto (tgt := 94) C.1 C.2.1 dX12_prepare_136 (by decide) ?_
    cases h
    exact hP _ _ _ G (lv_sub hl [1, 2, 3, 0] rfl)
noncomputable def lq_prepare_50 (x1 : Int32) (x2 : Int32) (ρ : rf_S) : Option ((Int32 × rf_S) ⊕ (Int32 × rf_S)) := (if (ρ.1 0 55) ≤ x2 then some (.inr (x2, ρ)) else ix (((8:Int32) * x2) + x1) 64 ((if (ρ.1 37 (((8:Int32) * x2) + x1).toNatClampNeg) = 0 then ix ((8:Int32) + x2) 16 (vl (rf_w ρ 55 ((8:Int32) + x2).toNatClampNeg (vp_nar .boolean (1:Int32))) (fun ρ_5 => ix x2 8 (vl ((2:Int32) * (ρ_5.1 31 x2.toNatClampNeg)) (fun x3_6 => bq_prepare_94i50 x1 x2 x3_6 ρ_5)))) else bq_prepare_139i50 x1 x2 ρ)))
noncomputable def eq_prepare_50 (x1 : Int32) (x2 : Int32) (ρ : rf_S) : Option (rf_S) := some ρ
noncomputable def bq_prepare_50 (x1 : Int32) (x2 : Int32) (ρ : rf_S) : Option (rf_S) := (lp (fun z : (Int32 × rf_S) => lq_prepare_50 x1 z.1 z.2) (x2, ρ)).bind (fun z => eq_prepare_50 x1 z.1 z.2)
set_option maxHeartbeats 4000000 in
theorem wq_prepare_50 (C : rf_C D p s m args meth c cX12_prepare 4 none) {x1 : Int32} {x2 : Int32} {ρ ρ' : rf_S} {H : Heap} {locs : List Loc} {ls : Array Slot} (h : bq_prepare_50 x1 x2 ρ = some ρ') (G : rf_G D h0 s ρ H locs) (hl : lv_has ls 4 [(0, .ref h0), (1, .int x1), (2, .int x2)]) : W p l e ({ frames := 1, cells := 0, slots := 0, locals := 23 }) s m args below meth c H locs 0 0 (MQ below (rf_Q D h0 none ρ') args s 0 0 (rf_A h0)) (F0 m 50 ls []) := by
  unfold bq_prepare_50 at h
  obtain ⟨y, hy, h⟩ := bd_some h
  have hE : (fun z : (Int32 × rf_S) => ∀ (H : Heap) (locs : List Loc) (ls : Array Slot), rf_G D h0 s z.2 H locs → lv_has ls 4 [(0, .ref h0), (1, .int x1), (2, .int z.1)] → W p l e ({ frames := 1, cells := 0, slots := 0, locals := 23 }) s m args below meth c H locs 0 0 (MQ below (rf_Q D h0 none ρ') args s 0 0 (rf_A h0)) (F0 m 145 ls [])) y := by
    intro H locs ls G hl
    obtain ⟨x2, ρ⟩ := y
    dsimp only at h G hl
    unfold eq_prepare_50 at h
    exact rf_vret C G h dX12_prepare_145
  refine lp_recE (fun z : (Int32 × rf_S) => ∀ (H : Heap) (locs : List Loc) (ls : Array Slot), rf_G D h0 s z.2 H locs → lv_has ls 4 [(0, .ref h0), (1, .int x1), (2, .int z.1)] → W p l e ({ frames := 1, cells := 0, slots := 0, locals := 23 }) s m args below meth c H locs 0 0 (MQ below (rf_Q D h0 none ρ') args s 0 0 (rf_A h0)) (F0 m 50 ls [])) (fun z : (Int32 × rf_S) => ∀ (H : Heap) (locs : List Loc) (ls : Array Slot), rf_G D h0 s z.2 H locs → lv_has ls 4 [(0, .ref h0), (1, .int x1), (2, .int z.1)] → W p l e ({ frames := 1, cells := 0, slots := 0, locals := 23 }) s m args below meth c H locs 0 0 (MQ below (rf_Q D h0 none ρ') args s 0 0 (rf_A h0)) (F0 m 145 ls [])) ?_ _ _ hy hE _ _ _ G hl
  clear hE hy G hl h
  intro z o h hP H locs ls G hl
  obtain ⟨x2, ρ⟩ := z
  dsimp only at h G hl
  unfold lq_prepare_50 at h
  refine lv_iload_n C.1 C.2.1 dX12_prepare_50 rfl (lv_at hl 2 rfl) ?_
  refine lv_aload_n C.1 C.2.1 dX12_prepare_51 rfl (lv_at hl 0 rfl) ?_
  refine gf_55 C G dX12_prepare_52 ?_
  refine lv_icmp_ge (tgt := 145) C.1 C.2.1 dX12_prepare_55 (by decide) (fun hc => ?_) (fun hc => ?_)
  · rw [if_pos hc] at h
    cases h
    exact hP _ _ _ G (lv_sub hl [0, 1, 2] rfl)
  · rw [if_neg hc] at h
    refine lv_aload_n C.1 C.2.1 dX12_prepare_58 rfl (lv_at hl 0 rfl) ?_
    refine gf_67 C G dX12_prepare_59 ?_
    refine lv_bipush (v := (8:Int32)) C.1 C.2.1 dX12_prepare_62 (by decide) ?_
    refine lv_iload_n C.1 C.2.1 dX12_prepare_64 rfl (lv_at hl 2 rfl) ?_
    refine lv_imul C.1 C.2.1 dX12_prepare_65 ?_
    refine lv_iload_n C.1 C.2.1 dX12_prepare_66 rfl (lv_at hl 1 rfl) ?_
    refine lv_iadd C.1 C.2.1 dX12_prepare_67 ?_
    obtain ⟨hi, h⟩ := ix_some h
    refine rf_zald C G 37 rfl (by decide) rfl rfl hi dX12_prepare_68 ?_
    refine lv_if_eq (tgt := 75) C.1 C.2.1 dX12_prepare_69 (by decide) (fun hc => ?_) (fun hc => ?_)
    · rw [if_pos hc] at h
      refine lv_aload_n C.1 C.2.1 dX12_prepare_75 rfl (lv_at hl 0 rfl) ?_
      refine gf_87 C G dX12_prepare_76 ?_
      refine lv_bipush (v := (8:Int32)) C.1 C.2.1 dX12_prepare_79 (by decide) ?_
      refine lv_iload_n C.1 C.2.1 dX12_prepare_81 rfl (lv_at hl 2 rfl) ?_
      refine lv_iadd C.1 C.2.1 dX12_prepare_82 ?_
      refine lv_iconst (v := (1:Int32)) C.1 C.2.1 dX12_prepare_83 (by decide) ?_
      obtain ⟨hi, h⟩ := ix_some h
      refine rf_zast C G 55 rfl (by decide) rfl rfl hi dX12_prepare_84 (fun H locs G => ?_)
      refine rf_nm G h (fun ρ_5 G h => ?_)
      refine lv_iconst (v := (2:Int32)) C.1 C.2.1 dX12_prepare_85 (by decide) ?_
      refine lv_aload_n C.1 C.2.1 dX12_prepare_86 rfl (lv_at hl 0 rfl) ?_
      refine gf_59 C G dX12_prepare_87 ?_
      refine lv_iload_n C.1 C.2.1 dX12_prepare_90 rfl (lv_at hl 2 rfl) ?_
      obtain ⟨hi, h⟩ := ix_some h
      refine rf_iald C G 31 rfl (by decide) rfl rfl hi dX12_prepare_91 ?_
      refine lv_imul C.1 C.2.1 dX12_prepare_92 ?_
      refine vt_i h (fun x3_6 h => ?_)
      refine lv_istore_n (lv' := [(3, .int x3_6), (0, .ref h0), (1, .int x1), (2, .int x2)]) C.1 C.2.1 dX12_prepare_93 rfl hl (by decide) rfl (fun ls hl => ?_)
      exact wq_prepare_94i50 C h hP G (lv_sub hl [1, 2, 3, 0] rfl)
    · rw [if_neg hc] at h
      refine lv_goto (tgt := 139) C.1 C.2.1 dX12_prepare_72 (by decide) ?_
      exact wq_prepare_139i50 C h hP G (lv_sub hl [0, 1, 2] rfl)
noncomputable def eq_prepare_6 (x1 : Int32) (x2 : Int32) (ρ : rf_S) : Option (rf_S) := bq_prepare_50 x1 (0:Int32) ρ
noncomputable def bq_prepare_6 (x1 : Int32) (x2 : Int32) (ρ : rf_S) : Option (rf_S) := (lp (fun z : (Int32 × rf_S) => lq_prepare_6 x1 z.1 z.2) (x2, ρ)).bind (fun z => eq_prepare_6 x1 z.1 z.2)
set_option maxHeartbeats 4000000 in
theorem wq_prepare_6 (C : rf_C D p s m args meth c cX12_prepare 4 none) {x1 : Int32} {x2 : Int32} {ρ ρ' : rf_S} {H : Heap} {locs : List Loc} {ls : Array Slot} (h : bq_prepare_6 x1 x2 ρ = some ρ') (G : rf_G D h0 s ρ H locs) (hl : lv_has ls 4 [(0, .ref h0), (1, .int x1), (2, .int x2)]) : W p l e ({ frames := 1, cells := 0, slots := 0, locals := 23 }) s m args below meth c H locs 0 0 (MQ below (rf_Q D h0 none ρ') args s 0 0 (rf_A h0)) (F0 m 6 ls []) := by
  unfold bq_prepare_6 at h
  obtain ⟨y, hy, h⟩ := bd_some h
  have hE : (fun z : (Int32 × rf_S) => ∀ (H : Heap) (locs : List Loc) (ls : Array Slot), rf_G D h0 s z.2 H locs → lv_has ls 4 [(0, .ref h0), (1, .int x1), (2, .int z.1)] → W p l e ({ frames := 1, cells := 0, slots := 0, locals := 23 }) s m args below meth c H locs 0 0 (MQ below (rf_Q D h0 none ρ') args s 0 0 (rf_A h0)) (F0 m 48 ls [])) y := by
    intro H locs ls G hl
    obtain ⟨x2, ρ⟩ := y
    dsimp only at h G hl
    unfold eq_prepare_6 at h
    refine lv_iconst (v := (0:Int32)) C.1 C.2.1 dX12_prepare_48 (by decide) ?_
    refine lv_istore_n (lv' := [(2, .int (0:Int32)), (0, .ref h0), (1, .int x1)]) C.1 C.2.1 dX12_prepare_49 rfl hl (by decide) rfl (fun ls hl => ?_)
    exact wq_prepare_50 C h G (lv_sub hl [1, 2, 0] rfl)
  refine lp_recE (fun z : (Int32 × rf_S) => ∀ (H : Heap) (locs : List Loc) (ls : Array Slot), rf_G D h0 s z.2 H locs → lv_has ls 4 [(0, .ref h0), (1, .int x1), (2, .int z.1)] → W p l e ({ frames := 1, cells := 0, slots := 0, locals := 23 }) s m args below meth c H locs 0 0 (MQ below (rf_Q D h0 none ρ') args s 0 0 (rf_A h0)) (F0 m 6 ls [])) (fun z : (Int32 × rf_S) => ∀ (H : Heap) (locs : List Loc) (ls : Array Slot), rf_G D h0 s z.2 H locs → lv_has ls 4 [(0, .ref h0), (1, .int x1), (2, .int z.1)] → W p l e ({ frames := 1, cells := 0, slots := 0, locals := 23 }) s m args below meth c H locs 0 0 (MQ below (rf_Q D h0 none ρ') args s 0 0 (rf_A h0)) (F0 m 48 ls [])) ?_ _ _ hy hE _ _ _ G hl
  clear hE hy G hl h
  intro z o h hP H locs ls G hl
  obtain ⟨x2, ρ⟩ := z
  dsimp only at h G hl
  unfold lq_prepare_6 at h
  refine lv_iload_n C.1 C.2.1 dX12_prepare_6 rfl (lv_at hl 2 rfl) ?_
  refine lv_bipush (v := (64:Int32)) C.1 C.2.1 dX12_prepare_7 (by decide) ?_
  refine lv_icmp_ge (tgt := 48) C.1 C.2.1 dX12_prepare_9 (by decide) (fun hc => ?_) (fun hc => ?_)
  · rw [if_pos hc] at h
    cases h
    exact hP _ _ _ G (lv_sub hl [0, 1, 2] rfl)
  · rw [if_neg hc] at h
    refine lv_aload_n C.1 C.2.1 dX12_prepare_12 rfl (lv_at hl 0 rfl) ?_
    refine gf_106 C G dX12_prepare_13 ?_
    refine lv_bipush (v := (64:Int32)) C.1 C.2.1 dX12_prepare_16 (by decide) ?_
    refine lv_iload_n C.1 C.2.1 dX12_prepare_18 rfl (lv_at hl 2 rfl) ?_
    refine lv_iadd C.1 C.2.1 dX12_prepare_19 ?_
    refine lv_aload_n C.1 C.2.1 dX12_prepare_20 rfl (lv_at hl 0 rfl) ?_
    refine gf_70 C G dX12_prepare_21 ?_
    refine lv_iload_n C.1 C.2.1 dX12_prepare_24 rfl (lv_at hl 2 rfl) ?_
    obtain ⟨hi, h⟩ := ix_some h
    refine rf_iald C G 40 rfl (by decide) rfl rfl hi dX12_prepare_25 ?_
    obtain ⟨hi, h⟩ := ix_some h
    refine rf_iast C G 74 rfl (by decide) rfl rfl hi dX12_prepare_26 (fun H locs G => ?_)
    refine rf_nm G h (fun ρ_2 G h => ?_)
    refine lv_aload_n C.1 C.2.1 dX12_prepare_27 rfl (lv_at hl 0 rfl) ?_
    refine gf_107 C G dX12_prepare_28 ?_
    refine lv_bipush (v := (64:Int32)) C.1 C.2.1 dX12_prepare_31 (by decide) ?_
    refine lv_iload_n C.1 C.2.1 dX12_prepare_33 rfl (lv_at hl 2 rfl) ?_
    refine lv_iadd C.1 C.2.1 dX12_prepare_34 ?_
    refine lv_aload_n C.1 C.2.1 dX12_prepare_35 rfl (lv_at hl 0 rfl) ?_
    refine gf_71 C G dX12_prepare_36 ?_
    refine lv_iload_n C.1 C.2.1 dX12_prepare_39 rfl (lv_at hl 2 rfl) ?_
    obtain ⟨hi, h⟩ := ix_some h
    refine rf_iald C G 41 rfl (by decide) rfl rfl hi dX12_prepare_40 ?_
    obtain ⟨hi, h⟩ := ix_some h
    refine rf_iast C G 75 rfl (by decide) rfl rfl hi dX12_prepare_41 (fun H locs G => ?_)
    refine rf_nm G h (fun ρ_3 G h => ?_)
    refine vl_ex h (fun x2_4 ey h => ?_)
    refine lv_iinc (v := x2_4) (lv' := [(2, .int x2_4), (0, .ref h0), (1, .int x1)]) C.1 C.2.1 dX12_prepare_42 hl (k := 2) rfl (by rw [ey]; rfl) (by decide) rfl (fun ls hl => ?_)
    refine lv_goto (tgt := 6) C.1 C.2.1 dX12_prepare_45 (by decide) ?_
    cases h
    exact hP _ _ _ G (lv_sub hl [1, 2, 0] rfl)
noncomputable def bq_prepare_0 (x1 : Int32) (ρ : rf_S) : Option (rf_S) := bd1 (fq_begin ρ) (fun ρ_1 => bq_prepare_6 x1 (0:Int32) ρ_1)
set_option maxHeartbeats 4000000 in
theorem wq_prepare_0 (C : rf_C D p s m args meth c cX12_prepare 4 none) {x1 : Int32} {ρ ρ' : rf_S} {H : Heap} {locs : List Loc} {ls : Array Slot} (h : bq_prepare_0 x1 ρ = some ρ') (G : rf_G D h0 s ρ H locs) (hl : lv_has ls 4 [(0, .ref h0), (1, .int x1)]) : W p l e ({ frames := 1, cells := 0, slots := 0, locals := 23 }) s m args below meth c H locs 0 0 (MQ below (rf_Q D h0 none ρ') args s 0 0 (rf_A h0)) (F0 m 0 ls []) := by
  unfold bq_prepare_0 at h
  refine lv_aload_n C.1 C.2.1 dX12_prepare_0 rfl (lv_at hl 0 rfl) ?_
  obtain ⟨ρ_1, hq, h⟩ := bd1_some h
  refine rf_callV (rest := []) C G cw_begin [] _ (kq_begin l D h0 hq) (Nat.le_of_ble_eq_true rfl) (Nat.le_of_ble_eq_true rfl) rfl rfl hl.1 (Nat.le_of_ble_eq_true rfl) (Nat.zero_le _) (Nat.zero_le _) dX12_prepare_1 (fun H locs G => ?_)
  refine W.eq (g2 := F0 m 4 ls []) rfl ?_
  refine lv_iconst (v := (0:Int32)) C.1 C.2.1 dX12_prepare_4 (by decide) ?_
  refine lv_istore_n (lv' := [(2, .int (0:Int32)), (0, .ref h0), (1, .int x1)]) C.1 C.2.1 dX12_prepare_5 rfl hl (by decide) rfl (fun ls hl => ?_)
  exact wq_prepare_6 C h G (lv_sub hl [1, 2, 0] rfl)
noncomputable def fq_prepare (x1 : Int32) (ρ : rf_S) : Option (rf_S) := bq_prepare_0 x1 ρ
theorem kq_prepare (l : Launch) (D : rf_D) (h0 : Nat) {x1 : Int32} {ρ ρ' : rf_S} (h : fq_prepare x1 ρ = some ρ') : rf_Met l D h0 yX12_prepare cX12_prepare 4 none 1 23 [.ref h0, .int x1] ρ none ρ' :=
  rf_of rfl cc_prepare (Nat.le_of_ble_eq_true rfl) (fun p e s m args below meth c ls C G hl => wq_prepare_0 C h G hl)
abbrev cX12_deliver : ByteArray := prog_14_method_122_code
def yX12_deliver : MethodName := ⟨RX12, "deliver", "(I)V"⟩
theorem dX12_deliver_0 : decode cX12_deliver 0 = .ok (.bipush 8, 2) := by decide +kernel
theorem dX12_deliver_2 : decode cX12_deliver 2 = .ok (.aload_n 0, 1) := by decide +kernel
theorem dX12_deliver_3 : decode cX12_deliver 3 = .ok (.getfield 158, 3) := by decide +kernel
theorem dX12_deliver_6 : decode cX12_deliver 6 = .ok (.iload_n 1, 1) := by decide +kernel
theorem dX12_deliver_7 : decode cX12_deliver 7 = .ok (.iaload, 1) := by decide +kernel
theorem dX12_deliver_8 : decode cX12_deliver 8 = .ok (.iadd, 1) := by decide +kernel
theorem dX12_deliver_9 : decode cX12_deliver 9 = .ok (.istore_n 2, 1) := by decide +kernel
theorem dX12_deliver_10 : decode cX12_deliver 10 = .ok (.aload_n 0, 1) := by decide +kernel
theorem dX12_deliver_11 : decode cX12_deliver 11 = .ok (.getfield 161, 3) := by decide +kernel
theorem dX12_deliver_14 : decode cX12_deliver 14 = .ok (.iload_n 1, 1) := by decide +kernel
theorem dX12_deliver_15 : decode cX12_deliver 15 = .ok (.baload, 1) := by decide +kernel
theorem dX12_deliver_16 : decode cX12_deliver 16 = .ok (.ifCond .eq 49, 3) := by decide +kernel
theorem dX12_deliver_19 : decode cX12_deliver 19 = .ok (.aload_n 0, 1) := by decide +kernel
theorem dX12_deliver_20 : decode cX12_deliver 20 = .ok (.getfield 227, 3) := by decide +kernel
theorem dX12_deliver_23 : decode cX12_deliver 23 = .ok (.iload_n 2, 1) := by decide +kernel
theorem dX12_deliver_24 : decode cX12_deliver 24 = .ok (.iaload, 1) := by decide +kernel
theorem dX12_deliver_25 : decode cX12_deliver 25 = .ok (.bipush 64, 2) := by decide +kernel
theorem dX12_deliver_27 : decode cX12_deliver 27 = .ok (.if_icmp .ge 38, 3) := by decide +kernel
theorem dX12_deliver_30 : decode cX12_deliver 30 = .ok (.aload_n 0, 1) := by decide +kernel
theorem dX12_deliver_31 : decode cX12_deliver 31 = .ok (.getfield 224, 3) := by decide +kernel
theorem dX12_deliver_34 : decode cX12_deliver 34 = .ok (.bipush 64, 2) := by decide +kernel
theorem dX12_deliver_36 : decode cX12_deliver 36 = .ok (.iload_n 2, 1) := by decide +kernel
theorem dX12_deliver_37 : decode cX12_deliver 37 = .ok (.imul, 1) := by decide +kernel
theorem dX12_deliver_38 : decode cX12_deliver 38 = .ok (.aload_n 0, 1) := by decide +kernel
theorem dX12_deliver_39 : decode cX12_deliver 39 = .ok (.getfield 227, 3) := by decide +kernel
theorem dX12_deliver_42 : decode cX12_deliver 42 = .ok (.iload_n 2, 1) := by decide +kernel
theorem dX12_deliver_43 : decode cX12_deliver 43 = .ok (.iaload, 1) := by decide +kernel
theorem dX12_deliver_44 : decode cX12_deliver 44 = .ok (.iadd, 1) := by decide +kernel
theorem dX12_deliver_45 : decode cX12_deliver 45 = .ok (.aload_n 0, 1) := by decide +kernel
theorem dX12_deliver_46 : decode cX12_deliver 46 = .ok (.getfield 164, 3) := by decide +kernel
theorem dX12_deliver_49 : decode cX12_deliver 49 = .ok (.iload_n 1, 1) := by decide +kernel
theorem dX12_deliver_50 : decode cX12_deliver 50 = .ok (.iaload, 1) := by decide +kernel
theorem dX12_deliver_51 : decode cX12_deliver 51 = .ok (.iastore, 1) := by decide +kernel
theorem dX12_deliver_52 : decode cX12_deliver 52 = .ok (.aload_n 0, 1) := by decide +kernel
theorem dX12_deliver_53 : decode cX12_deliver 53 = .ok (.getfield 227, 3) := by decide +kernel
theorem dX12_deliver_56 : decode cX12_deliver 56 = .ok (.iload_n 2, 1) := by decide +kernel
theorem dX12_deliver_57 : decode cX12_deliver 57 = .ok (.dup2, 1) := by decide +kernel
theorem dX12_deliver_58 : decode cX12_deliver 58 = .ok (.iaload, 1) := by decide +kernel
theorem dX12_deliver_59 : decode cX12_deliver 59 = .ok (.iconst 1, 1) := by decide +kernel
theorem dX12_deliver_60 : decode cX12_deliver 60 = .ok (.iadd, 1) := by decide +kernel
theorem dX12_deliver_61 : decode cX12_deliver 61 = .ok (.iastore, 1) := by decide +kernel
theorem dX12_deliver_62 : decode cX12_deliver 62 = .ok (.goto 55, 3) := by decide +kernel
theorem dX12_deliver_65 : decode cX12_deliver 65 = .ok (.aload_n 0, 1) := by decide +kernel
theorem dX12_deliver_66 : decode cX12_deliver 66 = .ok (.getfield 161, 3) := by decide +kernel
theorem dX12_deliver_69 : decode cX12_deliver 69 = .ok (.iload_n 1, 1) := by decide +kernel
theorem dX12_deliver_70 : decode cX12_deliver 70 = .ok (.baload, 1) := by decide +kernel
theorem dX12_deliver_71 : decode cX12_deliver 71 = .ok (.ifCond .ne 46, 3) := by decide +kernel
theorem dX12_deliver_74 : decode cX12_deliver 74 = .ok (.aload_n 0, 1) := by decide +kernel
theorem dX12_deliver_75 : decode cX12_deliver 75 = .ok (.getfield 221, 3) := by decide +kernel
theorem dX12_deliver_78 : decode cX12_deliver 78 = .ok (.iload_n 2, 1) := by decide +kernel
theorem dX12_deliver_79 : decode cX12_deliver 79 = .ok (.iaload, 1) := by decide +kernel
theorem dX12_deliver_80 : decode cX12_deliver 80 = .ok (.bipush 64, 2) := by decide +kernel
theorem dX12_deliver_82 : decode cX12_deliver 82 = .ok (.if_icmp .ge 35, 3) := by decide +kernel
theorem dX12_deliver_85 : decode cX12_deliver 85 = .ok (.aload_n 0, 1) := by decide +kernel
theorem dX12_deliver_86 : decode cX12_deliver 86 = .ok (.getfield 218, 3) := by decide +kernel
theorem dX12_deliver_89 : decode cX12_deliver 89 = .ok (.bipush 64, 2) := by decide +kernel
theorem dX12_deliver_91 : decode cX12_deliver 91 = .ok (.iload_n 2, 1) := by decide +kernel
theorem dX12_deliver_92 : decode cX12_deliver 92 = .ok (.imul, 1) := by decide +kernel
theorem dX12_deliver_93 : decode cX12_deliver 93 = .ok (.aload_n 0, 1) := by decide +kernel
theorem dX12_deliver_94 : decode cX12_deliver 94 = .ok (.getfield 221, 3) := by decide +kernel
theorem dX12_deliver_97 : decode cX12_deliver 97 = .ok (.iload_n 2, 1) := by decide +kernel
theorem dX12_deliver_98 : decode cX12_deliver 98 = .ok (.iaload, 1) := by decide +kernel
theorem dX12_deliver_99 : decode cX12_deliver 99 = .ok (.iadd, 1) := by decide +kernel
theorem dX12_deliver_100 : decode cX12_deliver 100 = .ok (.aload_n 0, 1) := by decide +kernel
theorem dX12_deliver_101 : decode cX12_deliver 101 = .ok (.getfield 164, 3) := by decide +kernel
theorem dX12_deliver_104 : decode cX12_deliver 104 = .ok (.iload_n 1, 1) := by decide +kernel
theorem dX12_deliver_105 : decode cX12_deliver 105 = .ok (.iaload, 1) := by decide +kernel
theorem dX12_deliver_106 : decode cX12_deliver 106 = .ok (.iastore, 1) := by decide +kernel
theorem dX12_deliver_107 : decode cX12_deliver 107 = .ok (.aload_n 0, 1) := by decide +kernel
theorem dX12_deliver_108 : decode cX12_deliver 108 = .ok (.getfield 221, 3) := by decide +kernel
theorem dX12_deliver_111 : decode cX12_deliver 111 = .ok (.iload_n 2, 1) := by decide +kernel
theorem dX12_deliver_112 : decode cX12_deliver 112 = .ok (.dup2, 1) := by decide +kernel
theorem dX12_deliver_113 : decode cX12_deliver 113 = .ok (.iaload, 1) := by decide +kernel
theorem dX12_deliver_114 : decode cX12_deliver 114 = .ok (.iconst 1, 1) := by decide +kernel
theorem dX12_deliver_115 : decode cX12_deliver 115 = .ok (.iadd, 1) := by decide +kernel
theorem dX12_deliver_116 : decode cX12_deliver 116 = .ok (.iastore, 1) := by decide +kernel
theorem dX12_deliver_117 : decode cX12_deliver 117 = .ok (.return_, 1) := by decide +kernel
theorem cc_deliver : Cond.code yX12_deliver cX12_deliver 3 none ∈ rf_tb := rf_at 2376 (by decide +kernel) (by decide +kernel)
theorem cw_deliver : rf_wV yX12_deliver cX12_deliver 3 none 705 1 := ⟨⟨rf_at 2373 (by decide +kernel) (by decide +kernel), rf_at 2375 (by decide +kernel) (by decide +kernel), rf_sel (q := (yX12_deliver, 122)) 153 (by decide +kernel) (by decide +kernel), cc_deliver⟩, rfl, by decide +kernel⟩
noncomputable def bq_deliver_65 (x1 : Int32) (x2 : Int32) (ρ : rf_S) : Option (rf_S) := ix x1 500 ((if (ρ.1 46 x1.toNatClampNeg) = 0 then ix x2 16 ((if (64:Int32) ≤ (ρ.1 66 x2.toNatClampNeg) then some ρ else ix x2 16 (ix x1 500 (ix (((64:Int32) * x2) + (ρ.1 66 x2.toNatClampNeg)) 1024 (vl (rf_w ρ 65 (((64:Int32) * x2) + (ρ.1 66 x2.toNatClampNeg)).toNatClampNeg (ρ.1 47 x1.toNatClampNeg)) (fun ρ_2 => ix x2 16 (ix x2 16 (vl (rf_w ρ_2 66 x2.toNatClampNeg ((ρ_2.1 66 x2.toNatClampNeg) + (1:Int32))) (fun ρ_3 => some ρ_3))))))))) else some ρ))
set_option maxHeartbeats 4000000 in
theorem wq_deliver_65 (C : rf_C D p s m args meth c cX12_deliver 3 none) {x1 : Int32} {x2 : Int32} {ρ ρ' : rf_S} {H : Heap} {locs : List Loc} {ls : Array Slot} (h : bq_deliver_65 x1 x2 ρ = some ρ') (G : rf_G D h0 s ρ H locs) (hl : lv_has ls 3 [(0, .ref h0), (1, .int x1), (2, .int x2)]) : W p l e ({ frames := 0, cells := 0, slots := 0, locals := 0 }) s m args below meth c H locs 0 0 (MQ below (rf_Q D h0 none ρ') args s 0 0 (rf_A h0)) (F0 m 65 ls []) := by
  unfold bq_deliver_65 at h
  refine lv_aload_n C.1 C.2.1 dX12_deliver_65 rfl (lv_at hl 0 rfl) ?_
  refine gf_76 C G dX12_deliver_66 ?_
  refine lv_iload_n C.1 C.2.1 dX12_deliver_69 rfl (lv_at hl 1 rfl) ?_
  obtain ⟨hi, h⟩ := ix_some h
  refine rf_zald C G 46 rfl (by decide) rfl rfl hi dX12_deliver_70 ?_
  refine lv_if_ne (tgt := 117) C.1 C.2.1 dX12_deliver_71 (by decide) (fun hc => ?_) (fun hc => ?_)
  · rw [if_neg hc] at h
    exact rf_vret C G h dX12_deliver_117
  · rw [if_pos hc] at h
    refine lv_aload_n C.1 C.2.1 dX12_deliver_74 rfl (lv_at hl 0 rfl) ?_
    refine gf_98 C G dX12_deliver_75 ?_
    refine lv_iload_n C.1 C.2.1 dX12_deliver_78 rfl (lv_at hl 2 rfl) ?_
    obtain ⟨hi, h⟩ := ix_some h
    refine rf_iald C G 66 rfl (by decide) rfl rfl hi dX12_deliver_79 ?_
    refine lv_bipush (v := (64:Int32)) C.1 C.2.1 dX12_deliver_80 (by decide) ?_
    refine lv_icmp_ge (tgt := 117) C.1 C.2.1 dX12_deliver_82 (by decide) (fun hc => ?_) (fun hc => ?_)
    · rw [if_pos hc] at h
      exact rf_vret C G h dX12_deliver_117
    · rw [if_neg hc] at h
      refine lv_aload_n C.1 C.2.1 dX12_deliver_85 rfl (lv_at hl 0 rfl) ?_
      refine gf_97 C G dX12_deliver_86 ?_
      refine lv_bipush (v := (64:Int32)) C.1 C.2.1 dX12_deliver_89 (by decide) ?_
      refine lv_iload_n C.1 C.2.1 dX12_deliver_91 rfl (lv_at hl 2 rfl) ?_
      refine lv_imul C.1 C.2.1 dX12_deliver_92 ?_
      refine lv_aload_n C.1 C.2.1 dX12_deliver_93 rfl (lv_at hl 0 rfl) ?_
      refine gf_98 C G dX12_deliver_94 ?_
      refine lv_iload_n C.1 C.2.1 dX12_deliver_97 rfl (lv_at hl 2 rfl) ?_
      obtain ⟨hi, h⟩ := ix_some h
      refine rf_iald C G 66 rfl (by decide) rfl rfl hi dX12_deliver_98 ?_
      refine lv_iadd C.1 C.2.1 dX12_deliver_99 ?_
      refine lv_aload_n C.1 C.2.1 dX12_deliver_100 rfl (lv_at hl 0 rfl) ?_
      refine gf_77 C G dX12_deliver_101 ?_
      refine lv_iload_n C.1 C.2.1 dX12_deliver_104 rfl (lv_at hl 1 rfl) ?_
      obtain ⟨hi, h⟩ := ix_some h
      refine rf_iald C G 47 rfl (by decide) rfl rfl hi dX12_deliver_105 ?_
      obtain ⟨hi, h⟩ := ix_some h
      refine rf_iast C G 65 rfl (by decide) rfl rfl hi dX12_deliver_106 (fun H locs G => ?_)
      refine rf_nm G h (fun ρ_2 G h => ?_)
      refine lv_aload_n C.1 C.2.1 dX12_deliver_107 rfl (lv_at hl 0 rfl) ?_
      refine gf_98 C G dX12_deliver_108 ?_
      refine lv_iload_n C.1 C.2.1 dX12_deliver_111 rfl (lv_at hl 2 rfl) ?_
      refine lv_dup2_11 C.1 C.2.1 dX12_deliver_112 rfl rfl ?_
      obtain ⟨hi, h⟩ := ix_some h
      refine rf_iald C G 66 rfl (by decide) rfl rfl hi dX12_deliver_113 ?_
      refine lv_iconst (v := (1:Int32)) C.1 C.2.1 dX12_deliver_114 (by decide) ?_
      refine lv_iadd C.1 C.2.1 dX12_deliver_115 ?_
      obtain ⟨hi, h⟩ := ix_some h
      refine rf_iast C G 66 rfl (by decide) rfl rfl hi dX12_deliver_116 (fun H locs G => ?_)
      refine rf_nm G h (fun ρ_3 G h => ?_)
      exact rf_vret C G h dX12_deliver_117
noncomputable def bq_deliver_0 (x1 : Int32) (ρ : rf_S) : Option (rf_S) := ix x1 500 (vl ((8:Int32) + (ρ.1 45 x1.toNatClampNeg)) (fun x2_1 => ix x1 500 ((if (ρ.1 46 x1.toNatClampNeg) = 0 then bq_deliver_65 x1 x2_1 ρ else ix x2_1 16 ((if (64:Int32) ≤ (ρ.1 68 x2_1.toNatClampNeg) then bq_deliver_65 x1 x2_1 ρ else ix x2_1 16 (ix x1 500 (ix (((64:Int32) * x2_1) + (ρ.1 68 x2_1.toNatClampNeg)) 1024 (vl (rf_w ρ 67 (((64:Int32) * x2_1) + (ρ.1 68 x2_1.toNatClampNeg)).toNatClampNeg (ρ.1 47 x1.toNatClampNeg)) (fun ρ_4 => ix x2_1 16 (ix x2_1 16 (vl (rf_w ρ_4 68 x2_1.toNatClampNeg ((ρ_4.1 68 x2_1.toNatClampNeg) + (1:Int32))) (fun ρ_5 => some ρ_5)))))))))))))
set_option maxHeartbeats 4000000 in
theorem wq_deliver_0 (C : rf_C D p s m args meth c cX12_deliver 3 none) {x1 : Int32} {ρ ρ' : rf_S} {H : Heap} {locs : List Loc} {ls : Array Slot} (h : bq_deliver_0 x1 ρ = some ρ') (G : rf_G D h0 s ρ H locs) (hl : lv_has ls 3 [(0, .ref h0), (1, .int x1)]) : W p l e ({ frames := 0, cells := 0, slots := 0, locals := 0 }) s m args below meth c H locs 0 0 (MQ below (rf_Q D h0 none ρ') args s 0 0 (rf_A h0)) (F0 m 0 ls []) := by
  unfold bq_deliver_0 at h
  refine lv_bipush (v := (8:Int32)) C.1 C.2.1 dX12_deliver_0 (by decide) ?_
  refine lv_aload_n C.1 C.2.1 dX12_deliver_2 rfl (lv_at hl 0 rfl) ?_
  refine gf_75 C G dX12_deliver_3 ?_
  refine lv_iload_n C.1 C.2.1 dX12_deliver_6 rfl (lv_at hl 1 rfl) ?_
  obtain ⟨hi, h⟩ := ix_some h
  refine rf_iald C G 45 rfl (by decide) rfl rfl hi dX12_deliver_7 ?_
  refine lv_iadd C.1 C.2.1 dX12_deliver_8 ?_
  refine vt_i h (fun x2_1 h => ?_)
  refine lv_istore_n (lv' := [(2, .int x2_1), (0, .ref h0), (1, .int x1)]) C.1 C.2.1 dX12_deliver_9 rfl hl (by decide) rfl (fun ls hl => ?_)
  refine lv_aload_n C.1 C.2.1 dX12_deliver_10 rfl (lv_at hl 1 rfl) ?_
  refine gf_76 C G dX12_deliver_11 ?_
  refine lv_iload_n C.1 C.2.1 dX12_deliver_14 rfl (lv_at hl 2 rfl) ?_
  obtain ⟨hi, h⟩ := ix_some h
  refine rf_zald C G 46 rfl (by decide) rfl rfl hi dX12_deliver_15 ?_
  refine lv_if_eq (tgt := 65) C.1 C.2.1 dX12_deliver_16 (by decide) (fun hc => ?_) (fun hc => ?_)
  · rw [if_pos hc] at h
    exact wq_deliver_65 C h G (lv_sub hl [1, 2, 0] rfl)
  · rw [if_neg hc] at h
    refine lv_aload_n C.1 C.2.1 dX12_deliver_19 rfl (lv_at hl 1 rfl) ?_
    refine gf_100 C G dX12_deliver_20 ?_
    refine lv_iload_n C.1 C.2.1 dX12_deliver_23 rfl (lv_at hl 0 rfl) ?_
    obtain ⟨hi, h⟩ := ix_some h
    refine rf_iald C G 68 rfl (by decide) rfl rfl hi dX12_deliver_24 ?_
    refine lv_bipush (v := (64:Int32)) C.1 C.2.1 dX12_deliver_25 (by decide) ?_
    refine lv_icmp_ge (tgt := 65) C.1 C.2.1 dX12_deliver_27 (by decide) (fun hc => ?_) (fun hc => ?_)
    · rw [if_pos hc] at h
      exact wq_deliver_65 C h G (lv_sub hl [1, 2, 0] rfl)
    · rw [if_neg hc] at h
      refine lv_aload_n C.1 C.2.1 dX12_deliver_30 rfl (lv_at hl 1 rfl) ?_
      refine gf_99 C G dX12_deliver_31 ?_
      refine lv_bipush (v := (64:Int32)) C.1 C.2.1 dX12_deliver_34 (by decide) ?_
      refine lv_iload_n C.1 C.2.1 dX12_deliver_36 rfl (lv_at hl 0 rfl) ?_
      refine lv_imul C.1 C.2.1 dX12_deliver_37 ?_
      refine lv_aload_n C.1 C.2.1 dX12_deliver_38 rfl (lv_at hl 1 rfl) ?_
      refine gf_100 C G dX12_deliver_39 ?_
      refine lv_iload_n C.1 C.2.1 dX12_deliver_42 rfl (lv_at hl 0 rfl) ?_
      obtain ⟨hi, h⟩ := ix_some h
      refine rf_iald C G 68 rfl (by decide) rfl rfl hi dX12_deliver_43 ?_
      refine lv_iadd C.1 C.2.1 dX12_deliver_44 ?_
      refine lv_aload_n C.1 C.2.1 dX12_deliver_45 rfl (lv_at hl 1 rfl) ?_
      refine gf_77 C G dX12_deliver_46 ?_
      refine lv_iload_n C.1 C.2.1 dX12_deliver_49 rfl (lv_at hl 2 rfl) ?_
      obtain ⟨hi, h⟩ := ix_some h
      refine rf_iald C G 47 rfl (by decide) rfl rfl hi dX12_deliver_50 ?_
      obtain ⟨hi, h⟩ := ix_some h
      refine rf_iast C G 67 rfl (by decide) rfl rfl hi dX12_deliver_51 (fun H locs G => ?_)
      refine rf_nm G h (fun ρ_4 G h => ?_)
      refine lv_aload_n C.1 C.2.1 dX12_deliver_52 rfl (lv_at hl 1 rfl) ?_
      refine gf_100 C G dX12_deliver_53 ?_
      refine lv_iload_n C.1 C.2.1 dX12_deliver_56 rfl (lv_at hl 0 rfl) ?_
      refine lv_dup2_11 C.1 C.2.1 dX12_deliver_57 rfl rfl ?_
      obtain ⟨hi, h⟩ := ix_some h
      refine rf_iald C G 68 rfl (by decide) rfl rfl hi dX12_deliver_58 ?_
      refine lv_iconst (v := (1:Int32)) C.1 C.2.1 dX12_deliver_59 (by decide) ?_
      refine lv_iadd C.1 C.2.1 dX12_deliver_60 ?_
      obtain ⟨hi, h⟩ := ix_some h
      refine rf_iast C G 68 rfl (by decide) rfl rfl hi dX12_deliver_61 (fun H locs G => ?_)
      refine rf_nm G h (fun ρ_5 G h => ?_)
      refine lv_goto (tgt := 117) C.1 C.2.1 dX12_deliver_62 (by decide) ?_
      exact rf_vret C G h dX12_deliver_117
noncomputable def fq_deliver (x1 : Int32) (ρ : rf_S) : Option (rf_S) := bq_deliver_0 x1 ρ
theorem kq_deliver (l : Launch) (D : rf_D) (h0 : Nat) {x1 : Int32} {ρ ρ' : rf_S} (h : fq_deliver x1 ρ = some ρ') : rf_Met l D h0 yX12_deliver cX12_deliver 3 none 0 0 [.ref h0, .int x1] ρ none ρ' :=
  rf_of rfl cc_deliver (Nat.le_of_ble_eq_true rfl) (fun p e s m args below meth c ls C G hl => wq_deliver_0 C h G hl)
abbrev cX12_isAlike : ByteArray := prog_14_method_123_code
def yX12_isAlike : MethodName := ⟨RX12, "isAlike", "(I)Z"⟩
theorem dX12_isAlike_0 : decode cX12_isAlike 0 = .ok (.bipush 8, 2) := by decide +kernel
theorem dX12_isAlike_2 : decode cX12_isAlike 2 = .ok (.iload_n 1, 1) := by decide +kernel
theorem dX12_isAlike_3 : decode cX12_isAlike 3 = .ok (.iadd, 1) := by decide +kernel
theorem dX12_isAlike_4 : decode cX12_isAlike 4 = .ok (.istore_n 2, 1) := by decide +kernel
theorem dX12_isAlike_5 : decode cX12_isAlike 5 = .ok (.aload_n 0, 1) := by decide +kernel
theorem dX12_isAlike_6 : decode cX12_isAlike 6 = .ok (.getfield 215, 3) := by decide +kernel
theorem dX12_isAlike_9 : decode cX12_isAlike 9 = .ok (.iload_n 1, 1) := by decide +kernel
theorem dX12_isAlike_10 : decode cX12_isAlike 10 = .ok (.iaload, 1) := by decide +kernel
theorem dX12_isAlike_11 : decode cX12_isAlike 11 = .ok (.aload_n 0, 1) := by decide +kernel
theorem dX12_isAlike_12 : decode cX12_isAlike 12 = .ok (.getfield 215, 3) := by decide +kernel
theorem dX12_isAlike_15 : decode cX12_isAlike 15 = .ok (.iload_n 2, 1) := by decide +kernel
theorem dX12_isAlike_16 : decode cX12_isAlike 16 = .ok (.iaload, 1) := by decide +kernel
theorem dX12_isAlike_17 : decode cX12_isAlike 17 = .ok (.if_icmp .ne 22, 3) := by decide +kernel
theorem dX12_isAlike_20 : decode cX12_isAlike 20 = .ok (.aload_n 0, 1) := by decide +kernel
theorem dX12_isAlike_21 : decode cX12_isAlike 21 = .ok (.getfield 185, 3) := by decide +kernel
theorem dX12_isAlike_24 : decode cX12_isAlike 24 = .ok (.iload_n 1, 1) := by decide +kernel
theorem dX12_isAlike_25 : decode cX12_isAlike 25 = .ok (.iaload, 1) := by decide +kernel
theorem dX12_isAlike_26 : decode cX12_isAlike 26 = .ok (.aload_n 0, 1) := by decide +kernel
theorem dX12_isAlike_27 : decode cX12_isAlike 27 = .ok (.getfield 185, 3) := by decide +kernel
theorem dX12_isAlike_30 : decode cX12_isAlike 30 = .ok (.iload_n 2, 1) := by decide +kernel
theorem dX12_isAlike_31 : decode cX12_isAlike 31 = .ok (.iaload, 1) := by decide +kernel
theorem dX12_isAlike_32 : decode cX12_isAlike 32 = .ok (.if_icmp .ne 7, 3) := by decide +kernel
theorem dX12_isAlike_35 : decode cX12_isAlike 35 = .ok (.iconst 1, 1) := by decide +kernel
theorem dX12_isAlike_36 : decode cX12_isAlike 36 = .ok (.goto 4, 3) := by decide +kernel
theorem dX12_isAlike_39 : decode cX12_isAlike 39 = .ok (.iconst 0, 1) := by decide +kernel
theorem dX12_isAlike_40 : decode cX12_isAlike 40 = .ok (.istore_n 3, 1) := by decide +kernel
theorem dX12_isAlike_41 : decode cX12_isAlike 41 = .ok (.iconst 0, 1) := by decide +kernel
theorem dX12_isAlike_42 : decode cX12_isAlike 42 = .ok (.istore 4, 2) := by decide +kernel
theorem dX12_isAlike_44 : decode cX12_isAlike 44 = .ok (.iload 4, 2) := by decide +kernel
theorem dX12_isAlike_46 : decode cX12_isAlike 46 = .ok (.aload_n 0, 1) := by decide +kernel
theorem dX12_isAlike_47 : decode cX12_isAlike 47 = .ok (.getfield 215, 3) := by decide +kernel
theorem dX12_isAlike_50 : decode cX12_isAlike 50 = .ok (.iload_n 1, 1) := by decide +kernel
theorem dX12_isAlike_51 : decode cX12_isAlike 51 = .ok (.iaload, 1) := by decide +kernel
theorem dX12_isAlike_52 : decode cX12_isAlike 52 = .ok (.if_icmp .ge 77, 3) := by decide +kernel
theorem dX12_isAlike_55 : decode cX12_isAlike 55 = .ok (.iload_n 3, 1) := by decide +kernel
theorem dX12_isAlike_56 : decode cX12_isAlike 56 = .ok (.ifCond .eq 73, 3) := by decide +kernel
theorem dX12_isAlike_59 : decode cX12_isAlike 59 = .ok (.aload_n 0, 1) := by decide +kernel
theorem dX12_isAlike_60 : decode cX12_isAlike 60 = .ok (.getfield 209, 3) := by decide +kernel
theorem dX12_isAlike_63 : decode cX12_isAlike 63 = .ok (.sipush 200, 3) := by decide +kernel
theorem dX12_isAlike_66 : decode cX12_isAlike 66 = .ok (.iload_n 1, 1) := by decide +kernel
theorem dX12_isAlike_67 : decode cX12_isAlike 67 = .ok (.imul, 1) := by decide +kernel
theorem dX12_isAlike_68 : decode cX12_isAlike 68 = .ok (.iload 4, 2) := by decide +kernel
theorem dX12_isAlike_70 : decode cX12_isAlike 70 = .ok (.iadd, 1) := by decide +kernel
theorem dX12_isAlike_71 : decode cX12_isAlike 71 = .ok (.iaload, 1) := by decide +kernel
theorem dX12_isAlike_72 : decode cX12_isAlike 72 = .ok (.aload_n 0, 1) := by decide +kernel
theorem dX12_isAlike_73 : decode cX12_isAlike 73 = .ok (.getfield 209, 3) := by decide +kernel
theorem dX12_isAlike_76 : decode cX12_isAlike 76 = .ok (.sipush 200, 3) := by decide +kernel
theorem dX12_isAlike_79 : decode cX12_isAlike 79 = .ok (.iload_n 2, 1) := by decide +kernel
theorem dX12_isAlike_80 : decode cX12_isAlike 80 = .ok (.imul, 1) := by decide +kernel
theorem dX12_isAlike_81 : decode cX12_isAlike 81 = .ok (.iload 4, 2) := by decide +kernel
theorem dX12_isAlike_83 : decode cX12_isAlike 83 = .ok (.iadd, 1) := by decide +kernel
theorem dX12_isAlike_84 : decode cX12_isAlike 84 = .ok (.iaload, 1) := by decide +kernel
theorem dX12_isAlike_85 : decode cX12_isAlike 85 = .ok (.if_icmp .ne 36, 3) := by decide +kernel
theorem dX12_isAlike_88 : decode cX12_isAlike 88 = .ok (.aload_n 0, 1) := by decide +kernel
theorem dX12_isAlike_89 : decode cX12_isAlike 89 = .ok (.getfield 212, 3) := by decide +kernel
theorem dX12_isAlike_92 : decode cX12_isAlike 92 = .ok (.sipush 200, 3) := by decide +kernel
theorem dX12_isAlike_95 : decode cX12_isAlike 95 = .ok (.iload_n 1, 1) := by decide +kernel
theorem dX12_isAlike_96 : decode cX12_isAlike 96 = .ok (.imul, 1) := by decide +kernel
theorem dX12_isAlike_97 : decode cX12_isAlike 97 = .ok (.iload 4, 2) := by decide +kernel
theorem dX12_isAlike_99 : decode cX12_isAlike 99 = .ok (.iadd, 1) := by decide +kernel
theorem dX12_isAlike_100 : decode cX12_isAlike 100 = .ok (.baload, 1) := by decide +kernel
theorem dX12_isAlike_101 : decode cX12_isAlike 101 = .ok (.aload_n 0, 1) := by decide +kernel
theorem dX12_isAlike_102 : decode cX12_isAlike 102 = .ok (.getfield 212, 3) := by decide +kernel
theorem dX12_isAlike_105 : decode cX12_isAlike 105 = .ok (.sipush 200, 3) := by decide +kernel
theorem dX12_isAlike_108 : decode cX12_isAlike 108 = .ok (.iload_n 2, 1) := by decide +kernel
theorem dX12_isAlike_109 : decode cX12_isAlike 109 = .ok (.imul, 1) := by decide +kernel
theorem dX12_isAlike_110 : decode cX12_isAlike 110 = .ok (.iload 4, 2) := by decide +kernel
theorem dX12_isAlike_112 : decode cX12_isAlike 112 = .ok (.iadd, 1) := by decide +kernel
theorem dX12_isAlike_113 : decode cX12_isAlike 113 = .ok (.baload, 1) := by decide +kernel
theorem dX12_isAlike_114 : decode cX12_isAlike 114 = .ok (.if_icmp .ne 7, 3) := by decide +kernel
theorem dX12_isAlike_117 : decode cX12_isAlike 117 = .ok (.iconst 1, 1) := by decide +kernel
theorem dX12_isAlike_118 : decode cX12_isAlike 118 = .ok (.goto 4, 3) := by decide +kernel
theorem dX12_isAlike_121 : decode cX12_isAlike 121 = .ok (.iconst 0, 1) := by decide +kernel
theorem dX12_isAlike_122 : decode cX12_isAlike 122 = .ok (.istore_n 3, 1) := by decide +kernel
theorem dX12_isAlike_123 : decode cX12_isAlike 123 = .ok (.iinc 4 1, 3) := by decide +kernel
theorem dX12_isAlike_126 : decode cX12_isAlike 126 = .ok (.goto (-82), 3) := by decide +kernel
theorem dX12_isAlike_129 : decode cX12_isAlike 129 = .ok (.iconst 0, 1) := by decide +kernel
theorem dX12_isAlike_130 : decode cX12_isAlike 130 = .ok (.istore 4, 2) := by decide +kernel
theorem dX12_isAlike_132 : decode cX12_isAlike 132 = .ok (.iload 4, 2) := by decide +kernel
theorem dX12_isAlike_134 : decode cX12_isAlike 134 = .ok (.bipush 16, 2) := by decide +kernel
theorem dX12_isAlike_136 : decode cX12_isAlike 136 = .ok (.if_icmp .ge 46, 3) := by decide +kernel
theorem dX12_isAlike_139 : decode cX12_isAlike 139 = .ok (.iload_n 3, 1) := by decide +kernel
theorem dX12_isAlike_140 : decode cX12_isAlike 140 = .ok (.ifCond .eq 42, 3) := by decide +kernel
theorem dX12_isAlike_143 : decode cX12_isAlike 143 = .ok (.aload_n 0, 1) := by decide +kernel
theorem dX12_isAlike_144 : decode cX12_isAlike 144 = .ok (.getfield 182, 3) := by decide +kernel
theorem dX12_isAlike_147 : decode cX12_isAlike 147 = .ok (.bipush 16, 2) := by decide +kernel
theorem dX12_isAlike_149 : decode cX12_isAlike 149 = .ok (.iload_n 1, 1) := by decide +kernel
theorem dX12_isAlike_150 : decode cX12_isAlike 150 = .ok (.imul, 1) := by decide +kernel
theorem dX12_isAlike_151 : decode cX12_isAlike 151 = .ok (.iload 4, 2) := by decide +kernel
theorem dX12_isAlike_153 : decode cX12_isAlike 153 = .ok (.iadd, 1) := by decide +kernel
theorem dX12_isAlike_154 : decode cX12_isAlike 154 = .ok (.iaload, 1) := by decide +kernel
theorem dX12_isAlike_155 : decode cX12_isAlike 155 = .ok (.aload_n 0, 1) := by decide +kernel
theorem dX12_isAlike_156 : decode cX12_isAlike 156 = .ok (.getfield 182, 3) := by decide +kernel
theorem dX12_isAlike_159 : decode cX12_isAlike 159 = .ok (.bipush 16, 2) := by decide +kernel
theorem dX12_isAlike_161 : decode cX12_isAlike 161 = .ok (.iload_n 2, 1) := by decide +kernel
theorem dX12_isAlike_162 : decode cX12_isAlike 162 = .ok (.imul, 1) := by decide +kernel
theorem dX12_isAlike_163 : decode cX12_isAlike 163 = .ok (.iload 4, 2) := by decide +kernel
theorem dX12_isAlike_165 : decode cX12_isAlike 165 = .ok (.iadd, 1) := by decide +kernel
theorem dX12_isAlike_166 : decode cX12_isAlike 166 = .ok (.iaload, 1) := by decide +kernel
theorem dX12_isAlike_167 : decode cX12_isAlike 167 = .ok (.if_icmp .ne 7, 3) := by decide +kernel
theorem dX12_isAlike_170 : decode cX12_isAlike 170 = .ok (.iconst 1, 1) := by decide +kernel
theorem dX12_isAlike_171 : decode cX12_isAlike 171 = .ok (.goto 4, 3) := by decide +kernel
theorem dX12_isAlike_174 : decode cX12_isAlike 174 = .ok (.iconst 0, 1) := by decide +kernel
theorem dX12_isAlike_175 : decode cX12_isAlike 175 = .ok (.istore_n 3, 1) := by decide +kernel
theorem dX12_isAlike_176 : decode cX12_isAlike 176 = .ok (.iinc 4 1, 3) := by decide +kernel
theorem dX12_isAlike_179 : decode cX12_isAlike 179 = .ok (.goto (-47), 3) := by decide +kernel
theorem dX12_isAlike_182 : decode cX12_isAlike 182 = .ok (.iload_n 3, 1) := by decide +kernel
theorem dX12_isAlike_183 : decode cX12_isAlike 183 = .ok (.ireturn, 1) := by decide +kernel
theorem cc_isAlike : Cond.code yX12_isAlike cX12_isAlike 5 (some .boolean) ∈ rf_tb := rf_at 2380 (by decide +kernel) (by decide +kernel)
theorem cw_isAlike : rf_wV yX12_isAlike cX12_isAlike 5 (some .boolean) 708 1 := ⟨⟨rf_at 2377 (by decide +kernel) (by decide +kernel), rf_at 2379 (by decide +kernel) (by decide +kernel), rf_sel (q := (yX12_isAlike, 122)) 154 (by decide +kernel) (by decide +kernel), cc_isAlike⟩, rfl, by decide +kernel⟩
noncomputable def bq_isAlike_122i44 (x1 : Int32) (x2 : Int32) (x4 : Int32) (v0 : Int32) (ρ : rf_S) : Option ((Int32 × Int32 × rf_S) ⊕ (Int32 × Int32 × rf_S)) := vl (x4 + (1:Int32)) (fun x4_2 => some (.inl (v0, x4_2, ρ)))
set_option maxHeartbeats 4000000 in
theorem wq_isAlike_122i44 (C : rf_C D p s m args meth c cX12_isAlike 5 (some .boolean)) {r : Int32} {x1 : Int32} {x2 : Int32} {x4 : Int32} {v0 : Int32} {ρ ρ' : rf_S} {H : Heap} {locs : List Loc} {ls : Array Slot} {o : (Int32 × Int32 × rf_S) ⊕ (Int32 × Int32 × rf_S)} (h : bq_isAlike_122i44 x1 x2 x4 v0 ρ = some o) (hP : Sum.elim (fun z : (Int32 × Int32 × rf_S) => ∀ (H : Heap) (locs : List Loc) (ls : Array Slot), rf_G D h0 s z.2.2 H locs → lv_has ls 5 [(0, .ref h0), (1, .int x1), (2, .int x2), (3, .int z.1), (4, .int z.2.1)] → W p l e ({ frames := 0, cells := 0, slots := 0, locals := 0 }) s m args below meth c H locs 0 0 (MQ below (rf_Q D h0 (some (.int r)) ρ') args s 0 0 (rf_A h0)) (F0 m 44 ls [])) (fun z : (Int32 × Int32 × rf_S) => ∀ (H : Heap) (locs : List Loc) (ls : Array Slot), rf_G D h0 s z.2.2 H locs → lv_has ls 5 [(0, .ref h0), (1, .int x1), (2, .int x2), (3, .int z.1), (4, .int z.2.1)] → W p l e ({ frames := 0, cells := 0, slots := 0, locals := 0 }) s m args below meth c H locs 0 0 (MQ below (rf_Q D h0 (some (.int r)) ρ') args s 0 0 (rf_A h0)) (F0 m 129 ls [])) o) (G : rf_G D h0 s ρ H locs) (hl : lv_has ls 5 [(0, .ref h0), (1, .int x1), (2, .int x2), (4, .int x4)]) : W p l e ({ frames := 0, cells := 0, slots := 0, locals := 0 }) s m args below meth c H locs 0 0 (MQ below (rf_Q D h0 (some (.int r)) ρ') args s 0 0 (rf_A h0)) (F0 m 122 ls [.int v0]) := by
  unfold bq_isAlike_122i44 at h
  refine lv_istore_n (lv' := [(3, .int v0), (0, .ref h0), (1, .int x1), (2, .int x2), (4, .int x4)]) C.1 C.2.1 dX12_isAlike_122 rfl hl (by decide) rfl (fun ls hl => ?_)
  refine vl_ex h (fun x4_2 ey h => ?_)
  refine lv_iinc (v := x4_2) (lv' := [(4, .int x4_2), (3, .int v0), (0, .ref h0), (1, .int x1), (2, .int x2)]) C.1 C.2.1 dX12_isAlike_123 hl (k := 4) rfl (by rw [ey]; rfl) (by decide) rfl (fun ls hl => ?_)
  refine lv_goto (tgt := 44) C.1 C.2.1 dX12_isAlike_126 (by decide) ?_
  cases h
  exact hP _ _ _ G (lv_sub hl [2, 3, 4, 1, 0] rfl)
noncomputable def bq_isAlike_121i44 (x1 : Int32) (x2 : Int32) (x4 : Int32) (ρ : rf_S) : Option ((Int32 × Int32 × rf_S) ⊕ (Int32 × Int32 × rf_S)) := bq_isAlike_122i44 x1 x2 x4 (0:Int32) ρ
set_option maxHeartbeats 4000000 in
theorem wq_isAlike_121i44 (C : rf_C D p s m args meth c cX12_isAlike 5 (some .boolean)) {r : Int32} {x1 : Int32} {x2 : Int32} {x4 : Int32} {ρ ρ' : rf_S} {H : Heap} {locs : List Loc} {ls : Array Slot} {o : (Int32 × Int32 × rf_S) ⊕ (Int32 × Int32 × rf_S)} (h : bq_isAlike_121i44 x1 x2 x4 ρ = some o) (hP : Sum.elim (fun z : (Int32 × Int32 × rf_S) => ∀ (H : Heap) (locs : List Loc) (ls : Array Slot), rf_G D h0 s z.2.2 H locs → lv_has ls 5 [(0, .ref h0), (1, .int x1), (2, .int x2), (3, .int z.1), (4, .int z.2.1)] → W p l e ({ frames := 0, cells := 0, slots := 0, locals := 0 }) s m args below meth c H locs 0 0 (MQ below (rf_Q D h0 (some (.int r)) ρ') args s 0 0 (rf_A h0)) (F0 m 44 ls [])) (fun z : (Int32 × Int32 × rf_S) => ∀ (H : Heap) (locs : List Loc) (ls : Array Slot), rf_G D h0 s z.2.2 H locs → lv_has ls 5 [(0, .ref h0), (1, .int x1), (2, .int x2), (3, .int z.1), (4, .int z.2.1)] → W p l e ({ frames := 0, cells := 0, slots := 0, locals := 0 }) s m args below meth c H locs 0 0 (MQ below (rf_Q D h0 (some (.int r)) ρ') args s 0 0 (rf_A h0)) (F0 m 129 ls [])) o) (G : rf_G D h0 s ρ H locs) (hl : lv_has ls 5 [(0, .ref h0), (1, .int x1), (2, .int x2), (4, .int x4)]) : W p l e ({ frames := 0, cells := 0, slots := 0, locals := 0 }) s m args below meth c H locs 0 0 (MQ below (rf_Q D h0 (some (.int r)) ρ') args s 0 0 (rf_A h0)) (F0 m 121 ls []) := by
  unfold bq_isAlike_121i44 at h
  refine lv_iconst (v := (0:Int32)) C.1 C.2.1 dX12_isAlike_121 (by decide) ?_
  exact wq_isAlike_122i44 C h hP G (lv_sub hl [0, 1, 2, 3] rfl)
noncomputable def lq_isAlike_44 (x1 : Int32) (x2 : Int32) (x3 : Int32) (x4 : Int32) (ρ : rf_S) : Option ((Int32 × Int32 × rf_S) ⊕ (Int32 × Int32 × rf_S)) := ix x1 16 ((if (ρ.1 64 x1.toNatClampNeg) ≤ x4 then some (.inr (x3, x4, ρ)) else (if x3 = 0 then some (.inr (x3, x4, ρ)) else ix (((200:Int32) * x1) + x4) 3200 (ix (((200:Int32) * x2) + x4) 3200 ((if (ρ.1 62 (((200:Int32) * x1) + x4).toNatClampNeg) = (ρ.1 62 (((200:Int32) * x2) + x4).toNatClampNeg) then ix (((200:Int32) * x1) + x4) 3200 (ix (((200:Int32) * x2) + x4) 3200 ((if (ρ.1 63 (((200:Int32) * x1) + x4).toNatClampNeg) = (ρ.1 63 (((200:Int32) * x2) + x4).toNatClampNeg) then bq_isAlike_122i44 x1 x2 x4 (1:Int32) ρ else bq_isAlike_121i44 x1 x2 x4 ρ))) else bq_isAlike_121i44 x1 x2 x4 ρ))))))
noncomputable def bq_isAlike_175i132 (x1 : Int32) (x2 : Int32) (x4 : Int32) (v0 : Int32) (ρ : rf_S) : Option ((Int32 × Int32 × rf_S) ⊕ (Int32 × Int32 × rf_S)) := vl (x4 + (1:Int32)) (fun x4_3 => some (.inl (v0, x4_3, ρ)))
set_option maxHeartbeats 4000000 in
theorem wq_isAlike_175i132 (C : rf_C D p s m args meth c cX12_isAlike 5 (some .boolean)) {r : Int32} {x1 : Int32} {x2 : Int32} {x4 : Int32} {v0 : Int32} {ρ ρ' : rf_S} {H : Heap} {locs : List Loc} {ls : Array Slot} {o : (Int32 × Int32 × rf_S) ⊕ (Int32 × Int32 × rf_S)} (h : bq_isAlike_175i132 x1 x2 x4 v0 ρ = some o) (hP : Sum.elim (fun z : (Int32 × Int32 × rf_S) => ∀ (H : Heap) (locs : List Loc) (ls : Array Slot), rf_G D h0 s z.2.2 H locs → lv_has ls 5 [(0, .ref h0), (1, .int x1), (2, .int x2), (3, .int z.1), (4, .int z.2.1)] → W p l e ({ frames := 0, cells := 0, slots := 0, locals := 0 }) s m args below meth c H locs 0 0 (MQ below (rf_Q D h0 (some (.int r)) ρ') args s 0 0 (rf_A h0)) (F0 m 132 ls [])) (fun z : (Int32 × Int32 × rf_S) => ∀ (H : Heap) (locs : List Loc) (ls : Array Slot), rf_G D h0 s z.2.2 H locs → lv_has ls 5 [(0, .ref h0), (1, .int x1), (2, .int x2), (3, .int z.1), (4, .int z.2.1)] → W p l e ({ frames := 0, cells := 0, slots := 0, locals := 0 }) s m args below meth c H locs 0 0 (MQ below (rf_Q D h0 (some (.int r)) ρ') args s 0 0 (rf_A h0)) (F0 m 182 ls [])) o) (G : rf_G D h0 s ρ H locs) (hl : lv_has ls 5 [(0, .ref h0), (1, .int x1), (2, .int x2), (4, .int x4)]) : W p l e ({ frames := 0, cells := 0, slots := 0, locals := 0 }) s m args below meth c H locs 0 0 (MQ below (rf_Q D h0 (some (.int r)) ρ') args s 0 0 (rf_A h0)) (F0 m 175 ls [.int v0]) := by
  unfold bq_isAlike_175i132 at h
  refine lv_istore_n (lv' := [(3, .int v0), (0, .ref h0), (1, .int x1), (2, .int x2), (4, .int x4)]) C.1 C.2.1 dX12_isAlike_175 rfl hl (by decide) rfl (fun ls hl => ?_)
  refine vl_ex h (fun x4_3 ey h => ?_)
  refine lv_iinc (v := x4_3) (lv' := [(4, .int x4_3), (3, .int v0), (0, .ref h0), (1, .int x1), (2, .int x2)]) C.1 C.2.1 dX12_isAlike_176 hl (k := 4) rfl (by rw [ey]; rfl) (by decide) rfl (fun ls hl => ?_)
  refine lv_goto (tgt := 132) C.1 C.2.1 dX12_isAlike_179 (by decide) ?_
  cases h
  exact hP _ _ _ G (lv_sub hl [2, 3, 4, 1, 0] rfl)
noncomputable def lq_isAlike_132 (x1 : Int32) (x2 : Int32) (x3 : Int32) (x4 : Int32) (ρ : rf_S) : Option ((Int32 × Int32 × rf_S) ⊕ (Int32 × Int32 × rf_S)) := (if (16:Int32) ≤ x4 then some (.inr (x3, x4, ρ)) else (if x3 = 0 then some (.inr (x3, x4, ρ)) else ix (((16:Int32) * x1) + x4) 256 (ix (((16:Int32) * x2) + x4) 256 ((if (ρ.1 53 (((16:Int32) * x1) + x4).toNatClampNeg) = (ρ.1 53 (((16:Int32) * x2) + x4).toNatClampNeg) then bq_isAlike_175i132 x1 x2 x4 (1:Int32) ρ else bq_isAlike_175i132 x1 x2 x4 (0:Int32) ρ)))))
noncomputable def eq_isAlike_132 (x1 : Int32) (x2 : Int32) (x3 : Int32) (x4 : Int32) (ρ : rf_S) : Option (Int32 × rf_S) := nb x3 (some (x3, ρ))
noncomputable def bq_isAlike_132 (x1 : Int32) (x2 : Int32) (x3 : Int32) (x4 : Int32) (ρ : rf_S) : Option (Int32 × rf_S) := (lp (fun z : (Int32 × Int32 × rf_S) => lq_isAlike_132 x1 x2 z.1 z.2.1 z.2.2) (x3, x4, ρ)).bind (fun z => eq_isAlike_132 x1 x2 z.1 z.2.1 z.2.2)
set_option maxHeartbeats 4000000 in
theorem wq_isAlike_132 (C : rf_C D p s m args meth c cX12_isAlike 5 (some .boolean)) {r : Int32} {x1 : Int32} {x2 : Int32} {x3 : Int32} {x4 : Int32} {ρ ρ' : rf_S} {H : Heap} {locs : List Loc} {ls : Array Slot} (h : bq_isAlike_132 x1 x2 x3 x4 ρ = some (r, ρ')) (G : rf_G D h0 s ρ H locs) (hl : lv_has ls 5 [(0, .ref h0), (1, .int x1), (2, .int x2), (3, .int x3), (4, .int x4)]) : W p l e ({ frames := 0, cells := 0, slots := 0, locals := 0 }) s m args below meth c H locs 0 0 (MQ below (rf_Q D h0 (some (.int r)) ρ') args s 0 0 (rf_A h0)) (F0 m 132 ls []) := by
  unfold bq_isAlike_132 at h
  obtain ⟨y, hy, h⟩ := bd_some h
  have hE : (fun z : (Int32 × Int32 × rf_S) => ∀ (H : Heap) (locs : List Loc) (ls : Array Slot), rf_G D h0 s z.2.2 H locs → lv_has ls 5 [(0, .ref h0), (1, .int x1), (2, .int x2), (3, .int z.1), (4, .int z.2.1)] → W p l e ({ frames := 0, cells := 0, slots := 0, locals := 0 }) s m args below meth c H locs 0 0 (MQ below (rf_Q D h0 (some (.int r)) ρ') args s 0 0 (rf_A h0)) (F0 m 182 ls [])) y := by
    intro H locs ls G hl
    obtain ⟨x3, x4, ρ⟩ := y
    dsimp only at h G hl
    unfold eq_isAlike_132 at h
    refine lv_iload_n C.1 C.2.1 dX12_isAlike_182 rfl (lv_at hl 3 rfl) ?_
    obtain ⟨hnb, h⟩ := nb_some h
    exact rf_zret C G h hnb dX12_isAlike_183
  refine lp_recE (fun z : (Int32 × Int32 × rf_S) => ∀ (H : Heap) (locs : List Loc) (ls : Array Slot), rf_G D h0 s z.2.2 H locs → lv_has ls 5 [(0, .ref h0), (1, .int x1), (2, .int x2), (3, .int z.1), (4, .int z.2.1)] → W p l e ({ frames := 0, cells := 0, slots := 0, locals := 0 }) s m args below meth c H locs 0 0 (MQ below (rf_Q D h0 (some (.int r)) ρ') args s 0 0 (rf_A h0)) (F0 m 132 ls [])) (fun z : (Int32 × Int32 × rf_S) => ∀ (H : Heap) (locs : List Loc) (ls : Array Slot), rf_G D h0 s z.2.2 H locs → lv_has ls 5 [(0, .ref h0), (1, .int x1), (2, .int x2), (3, .int z.1), (4, .int z.2.1)] → W p l e ({ frames := 0, cells := 0, slots := 0, locals := 0 }) s m args below meth c H locs 0 0 (MQ below (rf_Q D h0 (some (.int r)) ρ') args s 0 0 (rf_A h0)) (F0 m 182 ls [])) ?_ _ _ hy hE _ _ _ G hl
  clear hE hy G hl h
  intro z o h hP H locs ls G hl
  obtain ⟨x3, x4, ρ⟩ := z
  dsimp only at h G hl
  unfold lq_isAlike_132 at h
  refine lv_iload C.1 C.2.1 dX12_isAlike_132 (lv_at hl 4 rfl) ?_
  refine lv_bipush (v := (16:Int32)) C.1 C.2.1 dX12_isAlike_134 (by decide) ?_
  refine lv_icmp_ge (tgt := 182) C.1 C.2.1 dX12_isAlike_136 (by decide) (fun hc => ?_) (fun hc => ?_)
  · rw [if_pos hc] at h
    cases h
    exact hP _ _ _ G (lv_sub hl [0, 1, 2, 3, 4] rfl)
  · rw [if_neg hc] at h
    refine lv_iload_n C.1 C.2.1 dX12_isAlike_139 rfl (lv_at hl 3 rfl) ?_
    refine lv_if_eq (tgt := 182) C.1 C.2.1 dX12_isAlike_140 (by decide) (fun hc => ?_) (fun hc => ?_)
    · rw [if_pos hc] at h
      cases h
      exact hP _ _ _ G (lv_sub hl [0, 1, 2, 3, 4] rfl)
    · rw [if_neg hc] at h
      refine lv_aload_n C.1 C.2.1 dX12_isAlike_143 rfl (lv_at hl 0 rfl) ?_
      refine gf_85 C G dX12_isAlike_144 ?_
      refine lv_bipush (v := (16:Int32)) C.1 C.2.1 dX12_isAlike_147 (by decide) ?_
      refine lv_iload_n C.1 C.2.1 dX12_isAlike_149 rfl (lv_at hl 1 rfl) ?_
      refine lv_imul C.1 C.2.1 dX12_isAlike_150 ?_
      refine lv_iload C.1 C.2.1 dX12_isAlike_151 (lv_at hl 4 rfl) ?_
      refine lv_iadd C.1 C.2.1 dX12_isAlike_153 ?_
      obtain ⟨hi, h⟩ := ix_some h
      refine rf_iald C G 53 rfl (by decide) rfl rfl hi dX12_isAlike_154 ?_
      refine lv_aload_n C.1 C.2.1 dX12_isAlike_155 rfl (lv_at hl 0 rfl) ?_
      refine gf_85 C G dX12_isAlike_156 ?_
      refine lv_bipush (v := (16:Int32)) C.1 C.2.1 dX12_isAlike_159 (by decide) ?_
      refine lv_iload_n C.1 C.2.1 dX12_isAlike_161 rfl (lv_at hl 2 rfl) ?_
      refine lv_imul C.1 C.2.1 dX12_isAlike_162 ?_
      refine lv_iload C.1 C.2.1 dX12_isAlike_163 (lv_at hl 4 rfl) ?_
      refine lv_iadd C.1 C.2.1 dX12_isAlike_165 ?_
      obtain ⟨hi, h⟩ := ix_some h
      refine rf_iald C G 53 rfl (by decide) rfl rfl hi dX12_isAlike_166 ?_
      refine lv_icmp_ne (tgt := 174) C.1 C.2.1 dX12_isAlike_167 (by decide) (fun hc => ?_) (fun hc => ?_)
      · rw [if_neg hc] at h
        refine lv_iconst (v := (0:Int32)) C.1 C.2.1 dX12_isAlike_174 (by decide) ?_
        exact wq_isAlike_175i132 C h hP G (lv_sub hl [0, 1, 2, 4] rfl)
      · rw [if_pos hc] at h
        refine lv_iconst (v := (1:Int32)) C.1 C.2.1 dX12_isAlike_170 (by decide) ?_
        refine lv_goto (tgt := 175) C.1 C.2.1 dX12_isAlike_171 (by decide) ?_
        exact wq_isAlike_175i132 C h hP G (lv_sub hl [0, 1, 2, 4] rfl)
noncomputable def bq_isAlike_129 (x1 : Int32) (x2 : Int32) (x3 : Int32) (ρ : rf_S) : Option (Int32 × rf_S) := bq_isAlike_132 x1 x2 x3 (0:Int32) ρ
set_option maxHeartbeats 4000000 in
theorem wq_isAlike_129 (C : rf_C D p s m args meth c cX12_isAlike 5 (some .boolean)) {r : Int32} {x1 : Int32} {x2 : Int32} {x3 : Int32} {ρ ρ' : rf_S} {H : Heap} {locs : List Loc} {ls : Array Slot} (h : bq_isAlike_129 x1 x2 x3 ρ = some (r, ρ')) (G : rf_G D h0 s ρ H locs) (hl : lv_has ls 5 [(0, .ref h0), (1, .int x1), (2, .int x2), (3, .int x3)]) : W p l e ({ frames := 0, cells := 0, slots := 0, locals := 0 }) s m args below meth c H locs 0 0 (MQ below (rf_Q D h0 (some (.int r)) ρ') args s 0 0 (rf_A h0)) (F0 m 129 ls []) := by
  unfold bq_isAlike_129 at h
  refine lv_iconst (v := (0:Int32)) C.1 C.2.1 dX12_isAlike_129 (by decide) ?_
  refine lv_istore (lv' := [(4, .int (0:Int32)), (0, .ref h0), (1, .int x1), (2, .int x2), (3, .int x3)]) C.1 C.2.1 dX12_isAlike_130 hl (by decide) rfl (fun ls hl => ?_)
  exact wq_isAlike_132 C h G (lv_sub hl [1, 2, 3, 4, 0] rfl)
noncomputable def eq_isAlike_44 (x1 : Int32) (x2 : Int32) (x3 : Int32) (x4 : Int32) (ρ : rf_S) : Option (Int32 × rf_S) := bq_isAlike_129 x1 x2 x3 ρ
noncomputable def bq_isAlike_44 (x1 : Int32) (x2 : Int32) (x3 : Int32) (x4 : Int32) (ρ : rf_S) : Option (Int32 × rf_S) := (lp (fun z : (Int32 × Int32 × rf_S) => lq_isAlike_44 x1 x2 z.1 z.2.1 z.2.2) (x3, x4, ρ)).bind (fun z => eq_isAlike_44 x1 x2 z.1 z.2.1 z.2.2)
set_option maxHeartbeats 4000000 in
theorem wq_isAlike_44 (C : rf_C D p s m args meth c cX12_isAlike 5 (some .boolean)) {r : Int32} {x1 : Int32} {x2 : Int32} {x3 : Int32} {x4 : Int32} {ρ ρ' : rf_S} {H : Heap} {locs : List Loc} {ls : Array Slot} (h : bq_isAlike_44 x1 x2 x3 x4 ρ = some (r, ρ')) (G : rf_G D h0 s ρ H locs) (hl : lv_has ls 5 [(0, .ref h0), (1, .int x1), (2, .int x2), (3, .int x3), (4, .int x4)]) : W p l e ({ frames := 0, cells := 0, slots := 0, locals := 0 }) s m args below meth c H locs 0 0 (MQ below (rf_Q D h0 (some (.int r)) ρ') args s 0 0 (rf_A h0)) (F0 m 44 ls []) := by
  unfold bq_isAlike_44 at h
  obtain ⟨y, hy, h⟩ := bd_some h
  have hE : (fun z : (Int32 × Int32 × rf_S) => ∀ (H : Heap) (locs : List Loc) (ls : Array Slot), rf_G D h0 s z.2.2 H locs → lv_has ls 5 [(0, .ref h0), (1, .int x1), (2, .int x2), (3, .int z.1), (4, .int z.2.1)] → W p l e ({ frames := 0, cells := 0, slots := 0, locals := 0 }) s m args below meth c H locs 0 0 (MQ below (rf_Q D h0 (some (.int r)) ρ') args s 0 0 (rf_A h0)) (F0 m 129 ls [])) y := by
    intro H locs ls G hl
    obtain ⟨x3, x4, ρ⟩ := y
    dsimp only at h G hl
    unfold eq_isAlike_44 at h
    exact wq_isAlike_129 C h G (lv_sub hl [0, 1, 2, 3] rfl)
  refine lp_recE (fun z : (Int32 × Int32 × rf_S) => ∀ (H : Heap) (locs : List Loc) (ls : Array Slot), rf_G D h0 s z.2.2 H locs → lv_has ls 5 [(0, .ref h0), (1, .int x1), (2, .int x2), (3, .int z.1), (4, .int z.2.1)] → W p l e ({ frames := 0, cells := 0, slots := 0, locals := 0 }) s m args below meth c H locs 0 0 (MQ below (rf_Q D h0 (some (.int r)) ρ') args s 0 0 (rf_A h0)) (F0 m 44 ls [])) (fun z : (Int32 × Int32 × rf_S) => ∀ (H : Heap) (locs : List Loc) (ls : Array Slot), rf_G D h0 s z.2.2 H locs → lv_has ls 5 [(0, .ref h0), (1, .int x1), (2, .int x2), (3, .int z.1), (4, .int z.2.1)] → W p l e ({ frames := 0, cells := 0, slots := 0, locals := 0 }) s m args below meth c H locs 0 0 (MQ below (rf_Q D h0 (some (.int r)) ρ') args s 0 0 (rf_A h0)) (F0 m 129 ls [])) ?_ _ _ hy hE _ _ _ G hl
  clear hE hy G hl h
  intro z o h hP H locs ls G hl
  obtain ⟨x3, x4, ρ⟩ := z
  dsimp only at h G hl
  unfold lq_isAlike_44 at h
  refine lv_iload C.1 C.2.1 dX12_isAlike_44 (lv_at hl 4 rfl) ?_
  refine lv_aload_n C.1 C.2.1 dX12_isAlike_46 rfl (lv_at hl 0 rfl) ?_
  refine gf_96 C G dX12_isAlike_47 ?_
  refine lv_iload_n C.1 C.2.1 dX12_isAlike_50 rfl (lv_at hl 1 rfl) ?_
  obtain ⟨hi, h⟩ := ix_some h
  refine rf_iald C G 64 rfl (by decide) rfl rfl hi dX12_isAlike_51 ?_
  refine lv_icmp_ge (tgt := 129) C.1 C.2.1 dX12_isAlike_52 (by decide) (fun hc => ?_) (fun hc => ?_)
  · rw [if_pos hc] at h
    cases h
    exact hP _ _ _ G (lv_sub hl [0, 1, 2, 3, 4] rfl)
  · rw [if_neg hc] at h
    refine lv_iload_n C.1 C.2.1 dX12_isAlike_55 rfl (lv_at hl 3 rfl) ?_
    refine lv_if_eq (tgt := 129) C.1 C.2.1 dX12_isAlike_56 (by decide) (fun hc => ?_) (fun hc => ?_)
    · rw [if_pos hc] at h
      cases h
      exact hP _ _ _ G (lv_sub hl [0, 1, 2, 3, 4] rfl)
    · rw [if_neg hc] at h
      refine lv_aload_n C.1 C.2.1 dX12_isAlike_59 rfl (lv_at hl 0 rfl) ?_
      refine gf_94 C G dX12_isAlike_60 ?_
      refine lv_sipush (v := (200:Int32)) C.1 C.2.1 dX12_isAlike_63 (by decide) ?_
      refine lv_iload_n C.1 C.2.1 dX12_isAlike_66 rfl (lv_at hl 1 rfl) ?_
      refine lv_imul C.1 C.2.1 dX12_isAlike_67 ?_
      refine lv_iload C.1 C.2.1 dX12_isAlike_68 (lv_at hl 4 rfl) ?_
      refine lv_iadd C.1 C.2.1 dX12_isAlike_70 ?_
      obtain ⟨hi, h⟩ := ix_some h
      refine rf_iald C G 62 rfl (by decide) rfl rfl hi dX12_isAlike_71 ?_
      refine lv_aload_n C.1 C.2.1 dX12_isAlike_72 rfl (lv_at hl 0 rfl) ?_
      refine gf_94 C G dX12_isAlike_73 ?_
      refine lv_sipush (v := (200:Int32)) C.1 C.2.1 dX12_isAlike_76 (by decide) ?_
      refine lv_iload_n C.1 C.2.1 dX12_isAlike_79 rfl (lv_at hl 2 rfl) ?_
      refine lv_imul C.1 C.2.1 dX12_isAlike_80 ?_
      refine lv_iload C.1 C.2.1 dX12_isAlike_81 (lv_at hl 4 rfl) ?_
      refine lv_iadd C.1 C.2.1 dX12_isAlike_83 ?_
      obtain ⟨hi, h⟩ := ix_some h
      refine rf_iald C G 62 rfl (by decide) rfl rfl hi dX12_isAlike_84 ?_
      refine lv_icmp_ne (tgt := 121) C.1 C.2.1 dX12_isAlike_85 (by decide) (fun hc => ?_) (fun hc => ?_)
      · rw [if_neg hc] at h
        exact wq_isAlike_121i44 C h hP G (lv_sub hl [0, 1, 2, 4] rfl)
      · rw [if_pos hc] at h
        refine lv_aload_n C.1 C.2.1 dX12_isAlike_88 rfl (lv_at hl 0 rfl) ?_
        refine gf_95 C G dX12_isAlike_89 ?_
        refine lv_sipush (v := (200:Int32)) C.1 C.2.1 dX12_isAlike_92 (by decide) ?_
        refine lv_iload_n C.1 C.2.1 dX12_isAlike_95 rfl (lv_at hl 1 rfl) ?_
        refine lv_imul C.1 C.2.1 dX12_isAlike_96 ?_
        refine lv_iload C.1 C.2.1 dX12_isAlike_97 (lv_at hl 4 rfl) ?_
        refine lv_iadd C.1 C.2.1 dX12_isAlike_99 ?_
        obtain ⟨hi, h⟩ := ix_some h
        refine rf_zald C G 63 rfl (by decide) rfl rfl hi dX12_isAlike_100 ?_
        refine lv_aload_n C.1 C.2.1 dX12_isAlike_101 rfl (lv_at hl 0 rfl) ?_
        refine gf_95 C G dX12_isAlike_102 ?_
        refine lv_sipush (v := (200:Int32)) C.1 C.2.1 dX12_isAlike_105 (by decide) ?_
        refine lv_iload_n C.1 C.2.1 dX12_isAlike_108 rfl (lv_at hl 2 rfl) ?_
        refine lv_imul C.1 C.2.1 dX12_isAlike_109 ?_
        refine lv_iload C.1 C.2.1 dX12_isAlike_110 (lv_at hl 4 rfl) ?_
        refine lv_iadd C.1 C.2.1 dX12_isAlike_112 ?_
        obtain ⟨hi, h⟩ := ix_some h
        refine rf_zald C G 63 rfl (by decide) rfl rfl hi dX12_isAlike_113 ?_
        refine lv_icmp_ne (tgt := 121) C.1 C.2.1 dX12_isAlike_114 (by decide) (fun hc => ?_) (fun hc => ?_)
        · rw [if_neg hc] at h
          exact wq_isAlike_121i44 C h hP G (lv_sub hl [0, 1, 2, 4] rfl)
        · rw [if_pos hc] at h
          refine lv_iconst (v := (1:Int32)) C.1 C.2.1 dX12_isAlike_117 (by decide) ?_
          refine lv_goto (tgt := 122) C.1 C.2.1 dX12_isAlike_118 (by decide) ?_
          exact wq_isAlike_122i44 C h hP G (lv_sub hl [0, 1, 2, 4] rfl)
noncomputable def bq_isAlike_40 (x1 : Int32) (x2 : Int32) (v0 : Int32) (ρ : rf_S) : Option (Int32 × rf_S) := bq_isAlike_44 x1 x2 v0 (0:Int32) ρ
set_option maxHeartbeats 4000000 in
theorem wq_isAlike_40 (C : rf_C D p s m args meth c cX12_isAlike 5 (some .boolean)) {r : Int32} {x1 : Int32} {x2 : Int32} {v0 : Int32} {ρ ρ' : rf_S} {H : Heap} {locs : List Loc} {ls : Array Slot} (h : bq_isAlike_40 x1 x2 v0 ρ = some (r, ρ')) (G : rf_G D h0 s ρ H locs) (hl : lv_has ls 5 [(0, .ref h0), (1, .int x1), (2, .int x2)]) : W p l e ({ frames := 0, cells := 0, slots := 0, locals := 0 }) s m args below meth c H locs 0 0 (MQ below (rf_Q D h0 (some (.int r)) ρ') args s 0 0 (rf_A h0)) (F0 m 40 ls [.int v0]) := by
  unfold bq_isAlike_40 at h
  refine lv_istore_n (lv' := [(3, .int v0), (0, .ref h0), (1, .int x1), (2, .int x2)]) C.1 C.2.1 dX12_isAlike_40 rfl hl (by decide) rfl (fun ls hl => ?_)
  refine lv_iconst (v := (0:Int32)) C.1 C.2.1 dX12_isAlike_41 (by decide) ?_
  refine lv_istore (lv' := [(4, .int (0:Int32)), (3, .int v0), (0, .ref h0), (1, .int x1), (2, .int x2)]) C.1 C.2.1 dX12_isAlike_42 hl (by decide) rfl (fun ls hl => ?_)
  exact wq_isAlike_44 C h G (lv_sub hl [2, 3, 4, 1, 0] rfl)
noncomputable def bq_isAlike_39 (x1 : Int32) (x2 : Int32) (ρ : rf_S) : Option (Int32 × rf_S) := bq_isAlike_40 x1 x2 (0:Int32) ρ
set_option maxHeartbeats 4000000 in
theorem wq_isAlike_39 (C : rf_C D p s m args meth c cX12_isAlike 5 (some .boolean)) {r : Int32} {x1 : Int32} {x2 : Int32} {ρ ρ' : rf_S} {H : Heap} {locs : List Loc} {ls : Array Slot} (h : bq_isAlike_39 x1 x2 ρ = some (r, ρ')) (G : rf_G D h0 s ρ H locs) (hl : lv_has ls 5 [(0, .ref h0), (1, .int x1), (2, .int x2)]) : W p l e ({ frames := 0, cells := 0, slots := 0, locals := 0 }) s m args below meth c H locs 0 0 (MQ below (rf_Q D h0 (some (.int r)) ρ') args s 0 0 (rf_A h0)) (F0 m 39 ls []) := by
  unfold bq_isAlike_39 at h
  refine lv_iconst (v := (0:Int32)) C.1 C.2.1 dX12_isAlike_39 (by decide) ?_
  exact wq_isAlike_40 C h G (lv_sub hl [0, 1, 2] rfl)
noncomputable def bq_isAlike_0 (x1 : Int32) (ρ : rf_S) : Option (Int32 × rf_S) := vl ((8:Int32) + x1) (fun x2_1 => ix x1 16 (ix x2_1 16 ((if (ρ.1 64 x1.toNatClampNeg) = (ρ.1 64 x2_1.toNatClampNeg) then ix x1 16 (ix x2_1 16 ((if (ρ.1 54 x1.toNatClampNeg) = (ρ.1 54 x2_1.toNatClampNeg) then bq_isAlike_40 x1 x2_1 (1:Int32) ρ else bq_isAlike_39 x1 x2_1 ρ))) else bq_isAlike_39 x1 x2_1 ρ))))
set_option maxHeartbeats 4000000 in
theorem wq_isAlike_0 (C : rf_C D p s m args meth c cX12_isAlike 5 (some .boolean)) {r : Int32} {x1 : Int32} {ρ ρ' : rf_S} {H : Heap} {locs : List Loc} {ls : Array Slot} (h : bq_isAlike_0 x1 ρ = some (r, ρ')) (G : rf_G D h0 s ρ H locs) (hl : lv_has ls 5 [(0, .ref h0), (1, .int x1)]) : W p l e ({ frames := 0, cells := 0, slots := 0, locals := 0 }) s m args below meth c H locs 0 0 (MQ below (rf_Q D h0 (some (.int r)) ρ') args s 0 0 (rf_A h0)) (F0 m 0 ls []) := by
  unfold bq_isAlike_0 at h
  refine lv_bipush (v := (8:Int32)) C.1 C.2.1 dX12_isAlike_0 (by decide) ?_
  refine lv_iload_n C.1 C.2.1 dX12_isAlike_2 rfl (lv_at hl 1 rfl) ?_
  refine lv_iadd C.1 C.2.1 dX12_isAlike_3 ?_
  refine vt_i h (fun x2_1 h => ?_)
  refine lv_istore_n (lv' := [(2, .int x2_1), (0, .ref h0), (1, .int x1)]) C.1 C.2.1 dX12_isAlike_4 rfl hl (by decide) rfl (fun ls hl => ?_)
  refine lv_aload_n C.1 C.2.1 dX12_isAlike_5 rfl (lv_at hl 1 rfl) ?_
  refine gf_96 C G dX12_isAlike_6 ?_
  refine lv_iload_n C.1 C.2.1 dX12_isAlike_9 rfl (lv_at hl 2 rfl) ?_
  obtain ⟨hi, h⟩ := ix_some h
  refine rf_iald C G 64 rfl (by decide) rfl rfl hi dX12_isAlike_10 ?_
  refine lv_aload_n C.1 C.2.1 dX12_isAlike_11 rfl (lv_at hl 1 rfl) ?_
  refine gf_96 C G dX12_isAlike_12 ?_
  refine lv_iload_n C.1 C.2.1 dX12_isAlike_15 rfl (lv_at hl 0 rfl) ?_
  obtain ⟨hi, h⟩ := ix_some h
  refine rf_iald C G 64 rfl (by decide) rfl rfl hi dX12_isAlike_16 ?_
  refine lv_icmp_ne (tgt := 39) C.1 C.2.1 dX12_isAlike_17 (by decide) (fun hc => ?_) (fun hc => ?_)
  · rw [if_neg hc] at h
    exact wq_isAlike_39 C h G (lv_sub hl [1, 2, 0] rfl)
  · rw [if_pos hc] at h
    refine lv_aload_n C.1 C.2.1 dX12_isAlike_20 rfl (lv_at hl 1 rfl) ?_
    refine gf_86 C G dX12_isAlike_21 ?_
    refine lv_iload_n C.1 C.2.1 dX12_isAlike_24 rfl (lv_at hl 2 rfl) ?_
    obtain ⟨hi, h⟩ := ix_some h
    refine rf_iald C G 54 rfl (by decide) rfl rfl hi dX12_isAlike_25 ?_
    refine lv_aload_n C.1 C.2.1 dX12_isAlike_26 rfl (lv_at hl 1 rfl) ?_
    refine gf_86 C G dX12_isAlike_27 ?_
    refine lv_iload_n C.1 C.2.1 dX12_isAlike_30 rfl (lv_at hl 0 rfl) ?_
    obtain ⟨hi, h⟩ := ix_some h
    refine rf_iald C G 54 rfl (by decide) rfl rfl hi dX12_isAlike_31 ?_
    refine lv_icmp_ne (tgt := 39) C.1 C.2.1 dX12_isAlike_32 (by decide) (fun hc => ?_) (fun hc => ?_)
    · rw [if_neg hc] at h
      exact wq_isAlike_39 C h G (lv_sub hl [1, 2, 0] rfl)
    · rw [if_pos hc] at h
      refine lv_iconst (v := (1:Int32)) C.1 C.2.1 dX12_isAlike_35 (by decide) ?_
      refine lv_goto (tgt := 40) C.1 C.2.1 dX12_isAlike_36 (by decide) ?_
      exact wq_isAlike_40 C h G (lv_sub hl [1, 2, 0] rfl)
noncomputable def fq_isAlike (x1 : Int32) (ρ : rf_S) : Option (Int32 × rf_S) := bq_isAlike_0 x1 ρ
theorem kq_isAlike (l : Launch) (D : rf_D) (h0 : Nat) {r : Int32} {x1 : Int32} {ρ ρ' : rf_S} (h : fq_isAlike x1 ρ = some (r, ρ')) : rf_Met l D h0 yX12_isAlike cX12_isAlike 5 (some .boolean) 0 0 [.ref h0, .int x1] ρ (some (.int r)) ρ' :=
  rf_of rfl cc_isAlike (Nat.le_of_ble_eq_true rfl) (fun p e s m args below meth c ls C G hl => wq_isAlike_0 C h G hl)
end RQ16
