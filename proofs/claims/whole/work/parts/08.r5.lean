section RQ4
variable {p : Program} {l : Launch} {e : Env} {s : State} {m : MethodId} {args : Array Value} {below : List Frame} {meth : Method} {c : Code} {D : rf_D} {h0 : Nat}
abbrev cX12_feed : ByteArray := prog_14_method_39_code
def yX12_feed : MethodName := ⟨RX12, "feed", "(IIII)I"⟩
theorem dX12_feed_0 : decode cX12_feed 0 = .ok (.aload_n 0, 1) := by decide +kernel
theorem dX12_feed_1 : decode cX12_feed 1 = .ok (.getfield 456, 3) := by decide +kernel
theorem dX12_feed_4 : decode cX12_feed 4 = .ok (.sipush 2044, 3) := by decide +kernel
theorem dX12_feed_7 : decode cX12_feed 7 = .ok (.if_icmp .le 6, 3) := by decide +kernel
theorem dX12_feed_10 : decode cX12_feed 10 = .ok (.bipush (-4), 2) := by decide +kernel
theorem dX12_feed_12 : decode cX12_feed 12 = .ok (.ireturn, 1) := by decide +kernel
theorem dX12_feed_13 : decode cX12_feed 13 = .ok (.aload_n 0, 1) := by decide +kernel
theorem dX12_feed_14 : decode cX12_feed 14 = .ok (.getfield 71, 3) := by decide +kernel
theorem dX12_feed_17 : decode cX12_feed 17 = .ok (.aload_n 0, 1) := by decide +kernel
theorem dX12_feed_18 : decode cX12_feed 18 = .ok (.getfield 456, 3) := by decide +kernel
theorem dX12_feed_21 : decode cX12_feed 21 = .ok (.iload_n 1, 1) := by decide +kernel
theorem dX12_feed_22 : decode cX12_feed 22 = .ok (.iastore, 1) := by decide +kernel
theorem dX12_feed_23 : decode cX12_feed 23 = .ok (.aload_n 0, 1) := by decide +kernel
theorem dX12_feed_24 : decode cX12_feed 24 = .ok (.getfield 71, 3) := by decide +kernel
theorem dX12_feed_27 : decode cX12_feed 27 = .ok (.aload_n 0, 1) := by decide +kernel
theorem dX12_feed_28 : decode cX12_feed 28 = .ok (.getfield 456, 3) := by decide +kernel
theorem dX12_feed_31 : decode cX12_feed 31 = .ok (.iconst 1, 1) := by decide +kernel
theorem dX12_feed_32 : decode cX12_feed 32 = .ok (.iadd, 1) := by decide +kernel
theorem dX12_feed_33 : decode cX12_feed 33 = .ok (.iload_n 2, 1) := by decide +kernel
theorem dX12_feed_34 : decode cX12_feed 34 = .ok (.iastore, 1) := by decide +kernel
theorem dX12_feed_35 : decode cX12_feed 35 = .ok (.aload_n 0, 1) := by decide +kernel
theorem dX12_feed_36 : decode cX12_feed 36 = .ok (.getfield 71, 3) := by decide +kernel
theorem dX12_feed_39 : decode cX12_feed 39 = .ok (.aload_n 0, 1) := by decide +kernel
theorem dX12_feed_40 : decode cX12_feed 40 = .ok (.getfield 456, 3) := by decide +kernel
theorem dX12_feed_43 : decode cX12_feed 43 = .ok (.iconst 2, 1) := by decide +kernel
theorem dX12_feed_44 : decode cX12_feed 44 = .ok (.iadd, 1) := by decide +kernel
theorem dX12_feed_45 : decode cX12_feed 45 = .ok (.iload_n 3, 1) := by decide +kernel
theorem dX12_feed_46 : decode cX12_feed 46 = .ok (.iastore, 1) := by decide +kernel
theorem dX12_feed_47 : decode cX12_feed 47 = .ok (.aload_n 0, 1) := by decide +kernel
theorem dX12_feed_48 : decode cX12_feed 48 = .ok (.getfield 71, 3) := by decide +kernel
theorem dX12_feed_51 : decode cX12_feed 51 = .ok (.aload_n 0, 1) := by decide +kernel
theorem dX12_feed_52 : decode cX12_feed 52 = .ok (.getfield 456, 3) := by decide +kernel
theorem dX12_feed_55 : decode cX12_feed 55 = .ok (.iconst 3, 1) := by decide +kernel
theorem dX12_feed_56 : decode cX12_feed 56 = .ok (.iadd, 1) := by decide +kernel
theorem dX12_feed_57 : decode cX12_feed 57 = .ok (.iload 4, 2) := by decide +kernel
theorem dX12_feed_59 : decode cX12_feed 59 = .ok (.iastore, 1) := by decide +kernel
theorem dX12_feed_60 : decode cX12_feed 60 = .ok (.aload_n 0, 1) := by decide +kernel
theorem dX12_feed_61 : decode cX12_feed 61 = .ok (.dup, 1) := by decide +kernel
theorem dX12_feed_62 : decode cX12_feed 62 = .ok (.getfield 456, 3) := by decide +kernel
theorem dX12_feed_65 : decode cX12_feed 65 = .ok (.iconst 4, 1) := by decide +kernel
theorem dX12_feed_66 : decode cX12_feed 66 = .ok (.iadd, 1) := by decide +kernel
theorem dX12_feed_67 : decode cX12_feed 67 = .ok (.putfield 456, 3) := by decide +kernel
theorem dX12_feed_70 : decode cX12_feed 70 = .ok (.aload_n 0, 1) := by decide +kernel
theorem dX12_feed_71 : decode cX12_feed 71 = .ok (.getfield 456, 3) := by decide +kernel
theorem dX12_feed_74 : decode cX12_feed 74 = .ok (.ireturn, 1) := by decide +kernel
theorem cc_feed : Cond.code yX12_feed cX12_feed 5 (some .int) ∈ rf_tb := rf_at 2001 (by decide +kernel) (by decide +kernel)
noncomputable def bq_feed_0 (x1 : Int32) (x2 : Int32) (x3 : Int32) (x4 : Int32) (ρ : rf_S) : Option (Int32 × rf_S) := (if (ρ.1 0 28) ≤ (2044:Int32) then ix (ρ.1 0 28) 2048 (vl (rf_w ρ 17 (ρ.1 0 28).toNatClampNeg x1) (fun ρ_1 => ix ((ρ_1.1 0 28) + (1:Int32)) 2048 (vl (rf_w ρ_1 17 ((ρ_1.1 0 28) + (1:Int32)).toNatClampNeg x2) (fun ρ_2 => ix ((ρ_2.1 0 28) + (2:Int32)) 2048 (vl (rf_w ρ_2 17 ((ρ_2.1 0 28) + (2:Int32)).toNatClampNeg x3) (fun ρ_3 => ix ((ρ_3.1 0 28) + (3:Int32)) 2048 (vl (rf_w ρ_3 17 ((ρ_3.1 0 28) + (3:Int32)).toNatClampNeg x4) (fun ρ_4 => vl (rf_w ρ_4 0 28 ((ρ_4.1 0 28) + (4:Int32))) (fun ρ_5 => some ((ρ_5.1 0 28), ρ_5)))))))))) else some ((-4:Int32), ρ))
set_option maxHeartbeats 4000000 in
theorem wq_feed_0 (C : rf_C D p s m args meth c cX12_feed 5 (some .int)) {r : Int32} {x1 : Int32} {x2 : Int32} {x3 : Int32} {x4 : Int32} {ρ ρ' : rf_S} {H : Heap} {locs : List Loc} {ls : Array Slot} (h : bq_feed_0 x1 x2 x3 x4 ρ = some (r, ρ')) (G : rf_G D h0 s ρ H locs) (hl : lv_has ls 5 [(0, .ref h0), (1, .int x1), (2, .int x2), (3, .int x3), (4, .int x4)]) : W p l e ({ frames := 0, cells := 0, slots := 0, locals := 0 }) s m args below meth c H locs 0 0 (MQ below (rf_Q D h0 (some (.int r)) ρ') args s 0 0 (rf_A h0)) (F0 m 0 ls []) := by
  unfold bq_feed_0 at h
  refine lv_aload_n C.1 C.2.1 dX12_feed_0 rfl (lv_at hl 0 rfl) ?_
  refine gf_28 C G dX12_feed_1 ?_
  refine lv_sipush (v := (2044:Int32)) C.1 C.2.1 dX12_feed_4 (by decide) ?_
  refine lv_icmp_le (tgt := 13) C.1 C.2.1 dX12_feed_7 (by decide) (fun hc => ?_) (fun hc => ?_)
  · rw [if_pos hc] at h
    refine lv_aload_n C.1 C.2.1 dX12_feed_13 rfl (lv_at hl 0 rfl) ?_
    refine gf_27 C G dX12_feed_14 ?_
    refine lv_aload_n C.1 C.2.1 dX12_feed_17 rfl (lv_at hl 0 rfl) ?_
    refine gf_28 C G dX12_feed_18 ?_
    refine lv_iload_n C.1 C.2.1 dX12_feed_21 rfl (lv_at hl 1 rfl) ?_
    obtain ⟨hi, h⟩ := ix_some h
    refine rf_iast C G 17 rfl (by decide) rfl rfl hi dX12_feed_22 (fun H locs G => ?_)
    refine rf_nm G h (fun ρ_1 G h => ?_)
    refine lv_aload_n C.1 C.2.1 dX12_feed_23 rfl (lv_at hl 0 rfl) ?_
    refine gf_27 C G dX12_feed_24 ?_
    refine lv_aload_n C.1 C.2.1 dX12_feed_27 rfl (lv_at hl 0 rfl) ?_
    refine gf_28 C G dX12_feed_28 ?_
    refine lv_iconst (v := (1:Int32)) C.1 C.2.1 dX12_feed_31 (by decide) ?_
    refine lv_iadd C.1 C.2.1 dX12_feed_32 ?_
    refine lv_iload_n C.1 C.2.1 dX12_feed_33 rfl (lv_at hl 2 rfl) ?_
    obtain ⟨hi, h⟩ := ix_some h
    refine rf_iast C G 17 rfl (by decide) rfl rfl hi dX12_feed_34 (fun H locs G => ?_)
    refine rf_nm G h (fun ρ_2 G h => ?_)
    refine lv_aload_n C.1 C.2.1 dX12_feed_35 rfl (lv_at hl 0 rfl) ?_
    refine gf_27 C G dX12_feed_36 ?_
    refine lv_aload_n C.1 C.2.1 dX12_feed_39 rfl (lv_at hl 0 rfl) ?_
    refine gf_28 C G dX12_feed_40 ?_
    refine lv_iconst (v := (2:Int32)) C.1 C.2.1 dX12_feed_43 (by decide) ?_
    refine lv_iadd C.1 C.2.1 dX12_feed_44 ?_
    refine lv_iload_n C.1 C.2.1 dX12_feed_45 rfl (lv_at hl 3 rfl) ?_
    obtain ⟨hi, h⟩ := ix_some h
    refine rf_iast C G 17 rfl (by decide) rfl rfl hi dX12_feed_46 (fun H locs G => ?_)
    refine rf_nm G h (fun ρ_3 G h => ?_)
    refine lv_aload_n C.1 C.2.1 dX12_feed_47 rfl (lv_at hl 0 rfl) ?_
    refine gf_27 C G dX12_feed_48 ?_
    refine lv_aload_n C.1 C.2.1 dX12_feed_51 rfl (lv_at hl 0 rfl) ?_
    refine gf_28 C G dX12_feed_52 ?_
    refine lv_iconst (v := (3:Int32)) C.1 C.2.1 dX12_feed_55 (by decide) ?_
    refine lv_iadd C.1 C.2.1 dX12_feed_56 ?_
    refine lv_iload C.1 C.2.1 dX12_feed_57 (lv_at hl 4 rfl) ?_
    obtain ⟨hi, h⟩ := ix_some h
    refine rf_iast C G 17 rfl (by decide) rfl rfl hi dX12_feed_59 (fun H locs G => ?_)
    refine rf_nm G h (fun ρ_4 G h => ?_)
    refine lv_aload_n C.1 C.2.1 dX12_feed_60 rfl (lv_at hl 0 rfl) ?_
    refine lv_dup C.1 C.2.1 dX12_feed_61 rfl ?_
    refine gf_28 C G dX12_feed_62 ?_
    refine lv_iconst (v := (4:Int32)) C.1 C.2.1 dX12_feed_65 (by decide) ?_
    refine lv_iadd C.1 C.2.1 dX12_feed_66 ?_
    refine pf_28 C G dX12_feed_67 (fun H locs G => ?_)
    refine rf_nm G h (fun ρ_5 G h => ?_)
    refine lv_aload_n C.1 C.2.1 dX12_feed_70 rfl (lv_at hl 0 rfl) ?_
    refine gf_28 C G dX12_feed_71 ?_
    exact rf_iret C G h dX12_feed_74
  · rw [if_neg hc] at h
    refine lv_bipush (v := (-4:Int32)) C.1 C.2.1 dX12_feed_10 (by decide) ?_
    exact rf_iret C G h dX12_feed_12
noncomputable def fq_feed (x1 : Int32) (x2 : Int32) (x3 : Int32) (x4 : Int32) (ρ : rf_S) : Option (Int32 × rf_S) := bq_feed_0 x1 x2 x3 x4 ρ
theorem kq_feed (l : Launch) (D : rf_D) (h0 : Nat) {r : Int32} {x1 : Int32} {x2 : Int32} {x3 : Int32} {x4 : Int32} {ρ ρ' : rf_S} (h : fq_feed x1 x2 x3 x4 ρ = some (r, ρ')) : rf_Met l D h0 yX12_feed cX12_feed 5 (some .int) 0 0 [.ref h0, .int x1, .int x2, .int x3, .int x4] ρ (some (.int r)) ρ' :=
  rf_of rfl cc_feed (Nat.le_of_ble_eq_true rfl) (fun p e s m args below meth c ls C G hl => wq_feed_0 C h G hl)
abbrev cX12_put8 : ByteArray := prog_14_method_40_code
def yX12_put8 : MethodName := ⟨RX12, "put8", "(I)V"⟩
theorem dX12_put8_0 : decode cX12_put8 0 = .ok (.aload_n 0, 1) := by decide +kernel
theorem dX12_put8_1 : decode cX12_put8 1 = .ok (.getfield 98, 3) := by decide +kernel
theorem dX12_put8_4 : decode cX12_put8 4 = .ok (.aload_n 0, 1) := by decide +kernel
theorem dX12_put8_5 : decode cX12_put8 5 = .ok (.getfield 459, 3) := by decide +kernel
theorem dX12_put8_8 : decode cX12_put8 8 = .ok (.iload_n 1, 1) := by decide +kernel
theorem dX12_put8_9 : decode cX12_put8 9 = .ok (.i2b, 1) := by decide +kernel
theorem dX12_put8_10 : decode cX12_put8 10 = .ok (.bastore, 1) := by decide +kernel
theorem dX12_put8_11 : decode cX12_put8 11 = .ok (.aload_n 0, 1) := by decide +kernel
theorem dX12_put8_12 : decode cX12_put8 12 = .ok (.dup, 1) := by decide +kernel
theorem dX12_put8_13 : decode cX12_put8 13 = .ok (.getfield 459, 3) := by decide +kernel
theorem dX12_put8_16 : decode cX12_put8 16 = .ok (.iconst 1, 1) := by decide +kernel
theorem dX12_put8_17 : decode cX12_put8 17 = .ok (.iadd, 1) := by decide +kernel
theorem dX12_put8_18 : decode cX12_put8 18 = .ok (.putfield 459, 3) := by decide +kernel
theorem dX12_put8_21 : decode cX12_put8 21 = .ok (.return_, 1) := by decide +kernel
theorem cc_put8 : Cond.code yX12_put8 cX12_put8 2 none ∈ rf_tb := rf_at 2012 (by decide +kernel) (by decide +kernel)
theorem cw_put8 : rf_wV yX12_put8 cX12_put8 2 none 462 1 := ⟨⟨rf_at 2009 (by decide +kernel) (by decide +kernel), rf_at 2011 (by decide +kernel) (by decide +kernel), rf_sel (q := (yX12_put8, 122)) 96 (by decide +kernel) (by decide +kernel), cc_put8⟩, rfl, by decide +kernel⟩
noncomputable def bq_put8_0 (x1 : Int32) (ρ : rf_S) : Option (rf_S) := ix (ρ.1 0 43) 64 (vl (rf_w ρ 25 (ρ.1 0 43).toNatClampNeg ((x1.toInt8.toInt32).toInt8.toInt32)) (fun ρ_1 => vl (rf_w ρ_1 0 43 ((ρ_1.1 0 43) + (1:Int32))) (fun ρ_2 => some ρ_2)))
set_option maxHeartbeats 4000000 in
theorem wq_put8_0 (C : rf_C D p s m args meth c cX12_put8 2 none) {x1 : Int32} {ρ ρ' : rf_S} {H : Heap} {locs : List Loc} {ls : Array Slot} (h : bq_put8_0 x1 ρ = some ρ') (G : rf_G D h0 s ρ H locs) (hl : lv_has ls 2 [(0, .ref h0), (1, .int x1)]) : W p l e ({ frames := 0, cells := 0, slots := 0, locals := 0 }) s m args below meth c H locs 0 0 (MQ below (rf_Q D h0 none ρ') args s 0 0 (rf_A h0)) (F0 m 0 ls []) := by
  unfold bq_put8_0 at h
  refine lv_aload_n C.1 C.2.1 dX12_put8_0 rfl (lv_at hl 0 rfl) ?_
  refine gf_42 C G dX12_put8_1 ?_
  refine lv_aload_n C.1 C.2.1 dX12_put8_4 rfl (lv_at hl 0 rfl) ?_
  refine gf_43 C G dX12_put8_5 ?_
  refine lv_iload_n C.1 C.2.1 dX12_put8_8 rfl (lv_at hl 1 rfl) ?_
  refine lv_i2b C.1 C.2.1 dX12_put8_9 rfl ?_
  obtain ⟨hi, h⟩ := ix_some h
  refine rf_bast C G 25 rfl (by decide) rfl rfl hi dX12_put8_10 (fun H locs G => ?_)
  refine rf_nm G h (fun ρ_1 G h => ?_)
  refine lv_aload_n C.1 C.2.1 dX12_put8_11 rfl (lv_at hl 0 rfl) ?_
  refine lv_dup C.1 C.2.1 dX12_put8_12 rfl ?_
  refine gf_43 C G dX12_put8_13 ?_
  refine lv_iconst (v := (1:Int32)) C.1 C.2.1 dX12_put8_16 (by decide) ?_
  refine lv_iadd C.1 C.2.1 dX12_put8_17 ?_
  refine pf_43 C G dX12_put8_18 (fun H locs G => ?_)
  refine rf_nm G h (fun ρ_2 G h => ?_)
  exact rf_vret C G h dX12_put8_21
noncomputable def fq_put8 (x1 : Int32) (ρ : rf_S) : Option (rf_S) := bq_put8_0 x1 ρ
theorem kq_put8 (l : Launch) (D : rf_D) (h0 : Nat) {x1 : Int32} {ρ ρ' : rf_S} (h : fq_put8 x1 ρ = some ρ') : rf_Met l D h0 yX12_put8 cX12_put8 2 none 0 0 [.ref h0, .int x1] ρ none ρ' :=
  rf_of rfl cc_put8 (Nat.le_of_ble_eq_true rfl) (fun p e s m args below meth c ls C G hl => wq_put8_0 C h G hl)
abbrev cX12_putFigures : ByteArray := prog_14_method_41_code
def yX12_putFigures : MethodName := ⟨RX12, "putFigures", "(J)V"⟩
theorem dX12_putFigures_0 : decode cX12_putFigures 0 = .ok (.lload_n 1, 1) := by decide +kernel
theorem dX12_putFigures_1 : decode cX12_putFigures 1 = .ok (.lstore_n 3, 1) := by decide +kernel
theorem dX12_putFigures_2 : decode cX12_putFigures 2 = .ok (.lload_n 3, 1) := by decide +kernel
theorem dX12_putFigures_3 : decode cX12_putFigures 3 = .ok (.lconst 0, 1) := by decide +kernel
theorem dX12_putFigures_4 : decode cX12_putFigures 4 = .ok (.lcmp, 1) := by decide +kernel
theorem dX12_putFigures_5 : decode cX12_putFigures 5 = .ok (.ifCond .ge 12, 3) := by decide +kernel
theorem dX12_putFigures_8 : decode cX12_putFigures 8 = .ok (.aload_n 0, 1) := by decide +kernel
theorem dX12_putFigures_9 : decode cX12_putFigures 9 = .ok (.bipush 45, 2) := by decide +kernel
theorem dX12_putFigures_11 : decode cX12_putFigures 11 = .ok (.invokevirtual 462, 3) := by decide +kernel
theorem dX12_putFigures_14 : decode cX12_putFigures 14 = .ok (.lload_n 3, 1) := by decide +kernel
theorem dX12_putFigures_15 : decode cX12_putFigures 15 = .ok (.lneg, 1) := by decide +kernel
theorem dX12_putFigures_16 : decode cX12_putFigures 16 = .ok (.lstore_n 3, 1) := by decide +kernel
theorem dX12_putFigures_17 : decode cX12_putFigures 17 = .ok (.lconst 1, 1) := by decide +kernel
theorem dX12_putFigures_18 : decode cX12_putFigures 18 = .ok (.lstore 5, 2) := by decide +kernel
theorem dX12_putFigures_20 : decode cX12_putFigures 20 = .ok (.lload_n 3, 1) := by decide +kernel
theorem dX12_putFigures_21 : decode cX12_putFigures 21 = .ok (.lload 5, 2) := by decide +kernel
theorem dX12_putFigures_23 : decode cX12_putFigures 23 = .ok (.ldiv, 1) := by decide +kernel
theorem dX12_putFigures_24 : decode cX12_putFigures 24 = .ok (.ldc2_w 381, 3) := by decide +kernel
theorem dX12_putFigures_27 : decode cX12_putFigures 27 = .ok (.lcmp, 1) := by decide +kernel
theorem dX12_putFigures_28 : decode cX12_putFigures 28 = .ok (.ifCond .lt 14, 3) := by decide +kernel
theorem dX12_putFigures_31 : decode cX12_putFigures 31 = .ok (.lload 5, 2) := by decide +kernel
theorem dX12_putFigures_33 : decode cX12_putFigures 33 = .ok (.ldc2_w 381, 3) := by decide +kernel
theorem dX12_putFigures_36 : decode cX12_putFigures 36 = .ok (.lmul, 1) := by decide +kernel
theorem dX12_putFigures_37 : decode cX12_putFigures 37 = .ok (.lstore 5, 2) := by decide +kernel
theorem dX12_putFigures_39 : decode cX12_putFigures 39 = .ok (.goto (-19), 3) := by decide +kernel
theorem dX12_putFigures_42 : decode cX12_putFigures 42 = .ok (.lload 5, 2) := by decide +kernel
theorem dX12_putFigures_44 : decode cX12_putFigures 44 = .ok (.lconst 0, 1) := by decide +kernel
theorem dX12_putFigures_45 : decode cX12_putFigures 45 = .ok (.lcmp, 1) := by decide +kernel
theorem dX12_putFigures_46 : decode cX12_putFigures 46 = .ok (.ifCond .le 31, 3) := by decide +kernel
theorem dX12_putFigures_49 : decode cX12_putFigures 49 = .ok (.aload_n 0, 1) := by decide +kernel
theorem dX12_putFigures_50 : decode cX12_putFigures 50 = .ok (.ldc2_w 465, 3) := by decide +kernel
theorem dX12_putFigures_53 : decode cX12_putFigures 53 = .ok (.lload_n 3, 1) := by decide +kernel
theorem dX12_putFigures_54 : decode cX12_putFigures 54 = .ok (.lload 5, 2) := by decide +kernel
theorem dX12_putFigures_56 : decode cX12_putFigures 56 = .ok (.ldiv, 1) := by decide +kernel
theorem dX12_putFigures_57 : decode cX12_putFigures 57 = .ok (.ldc2_w 381, 3) := by decide +kernel
theorem dX12_putFigures_60 : decode cX12_putFigures 60 = .ok (.lrem, 1) := by decide +kernel
theorem dX12_putFigures_61 : decode cX12_putFigures 61 = .ok (.ladd, 1) := by decide +kernel
theorem dX12_putFigures_62 : decode cX12_putFigures 62 = .ok (.l2i, 1) := by decide +kernel
theorem dX12_putFigures_63 : decode cX12_putFigures 63 = .ok (.invokevirtual 462, 3) := by decide +kernel
theorem dX12_putFigures_66 : decode cX12_putFigures 66 = .ok (.lload 5, 2) := by decide +kernel
theorem dX12_putFigures_68 : decode cX12_putFigures 68 = .ok (.ldc2_w 381, 3) := by decide +kernel
theorem dX12_putFigures_71 : decode cX12_putFigures 71 = .ok (.ldiv, 1) := by decide +kernel
theorem dX12_putFigures_72 : decode cX12_putFigures 72 = .ok (.lstore 5, 2) := by decide +kernel
theorem dX12_putFigures_74 : decode cX12_putFigures 74 = .ok (.goto (-32), 3) := by decide +kernel
theorem dX12_putFigures_77 : decode cX12_putFigures 77 = .ok (.return_, 1) := by decide +kernel
theorem cc_putFigures : Cond.code yX12_putFigures cX12_putFigures 7 none ∈ rf_tb := rf_at 2016 (by decide +kernel) (by decide +kernel)
theorem cw_putFigures : rf_wV yX12_putFigures cX12_putFigures 7 none 467 1 := ⟨⟨rf_at 2013 (by decide +kernel) (by decide +kernel), rf_at 2015 (by decide +kernel) (by decide +kernel), rf_sel (q := (yX12_putFigures, 122)) 97 (by decide +kernel) (by decide +kernel), cc_putFigures⟩, rfl, by decide +kernel⟩
theorem kc_465 : Cond.constantLong RX12 465 (48 : Int64) ∈ rf_tb := rf_at 2017 (by decide +kernel) (by decide +kernel)
noncomputable def lq_putFigures_20 (x3 : Int64) (x5 : Int64) (ρ : rf_S) : Option ((Int64 × rf_S) ⊕ (Int64 × rf_S)) := nzL x5 ((if (lg_cmp (x3 / x5) (10:Int64)) < 0 then some (.inr (x5, ρ)) else vl (x5 * (10:Int64)) (fun x5_1 => some (.inl (x5_1, ρ)))))
noncomputable def lq_putFigures_42 (x3 : Int64) (x5 : Int64) (ρ : rf_S) : Option ((Int64 × rf_S) ⊕ (Int64 × rf_S)) := (if (lg_cmp x5 (0:Int64)) ≤ 0 then some (.inr (x5, ρ)) else nzL x5 (bd1 (fq_put8 (((48:Int64) + ((x3 / x5) - (x3 / x5) / (10:Int64) * (10:Int64))).toInt32) ρ) (fun ρ_2 => vl (x5 / (10:Int64)) (fun x5_3 => some (.inl (x5_3, ρ_2))))))
noncomputable def eq_putFigures_42 (x3 : Int64) (x5 : Int64) (ρ : rf_S) : Option (rf_S) := some ρ
noncomputable def bq_putFigures_42 (x3 : Int64) (x5 : Int64) (ρ : rf_S) : Option (rf_S) := (lp (fun z : (Int64 × rf_S) => lq_putFigures_42 x3 z.1 z.2) (x5, ρ)).bind (fun z => eq_putFigures_42 x3 z.1 z.2)
set_option maxHeartbeats 4000000 in
theorem wq_putFigures_42 (C : rf_C D p s m args meth c cX12_putFigures 7 none) {x3 : Int64} {x5 : Int64} {ρ ρ' : rf_S} {H : Heap} {locs : List Loc} {ls : Array Slot} (h : bq_putFigures_42 x3 x5 ρ = some ρ') (G : rf_G D h0 s ρ H locs) (hl : lv_has ls 7 [(0, .ref h0), (3, .long x3), (5, .long x5)]) : W p l e ({ frames := 1, cells := 0, slots := 0, locals := 21 }) s m args below meth c H locs 0 0 (MQ below (rf_Q D h0 none ρ') args s 0 0 (rf_A h0)) (F0 m 42 ls []) := by
  unfold bq_putFigures_42 at h
  obtain ⟨y, hy, h⟩ := bd_some h
  have hE : (fun z : (Int64 × rf_S) => ∀ (H : Heap) (locs : List Loc) (ls : Array Slot), rf_G D h0 s z.2 H locs → lv_has ls 7 [(0, .ref h0), (3, .long x3), (5, .long z.1)] → W p l e ({ frames := 1, cells := 0, slots := 0, locals := 21 }) s m args below meth c H locs 0 0 (MQ below (rf_Q D h0 none ρ') args s 0 0 (rf_A h0)) (F0 m 77 ls [])) y := by
    intro H locs ls G hl
    obtain ⟨x5, ρ⟩ := y
    dsimp only at h G hl
    unfold eq_putFigures_42 at h
    exact rf_vret C G h dX12_putFigures_77
  refine lp_recE (fun z : (Int64 × rf_S) => ∀ (H : Heap) (locs : List Loc) (ls : Array Slot), rf_G D h0 s z.2 H locs → lv_has ls 7 [(0, .ref h0), (3, .long x3), (5, .long z.1)] → W p l e ({ frames := 1, cells := 0, slots := 0, locals := 21 }) s m args below meth c H locs 0 0 (MQ below (rf_Q D h0 none ρ') args s 0 0 (rf_A h0)) (F0 m 42 ls [])) (fun z : (Int64 × rf_S) => ∀ (H : Heap) (locs : List Loc) (ls : Array Slot), rf_G D h0 s z.2 H locs → lv_has ls 7 [(0, .ref h0), (3, .long x3), (5, .long z.1)] → W p l e ({ frames := 1, cells := 0, slots := 0, locals := 21 }) s m args below meth c H locs 0 0 (MQ below (rf_Q D h0 none ρ') args s 0 0 (rf_A h0)) (F0 m 77 ls [])) ?_ _ _ hy hE _ _ _ G hl
  clear hE hy G hl h
  intro z o h hP H locs ls G hl
  obtain ⟨x5, ρ⟩ := z
  dsimp only at h G hl
  unfold lq_putFigures_42 at h
  refine lv_lload C.1 C.2.1 dX12_putFigures_42 (lv_at hl 2 rfl) ?_
  refine lv_lconst (v := (0:Int64)) C.1 C.2.1 dX12_putFigures_44 (by decide) ?_
  refine W.lcmp C.1 C.2.1 dX12_putFigures_45 ?_
  refine lv_if_le (tgt := 77) C.1 C.2.1 dX12_putFigures_46 (by decide) (fun hc => ?_) (fun hc => ?_)
  · rw [if_pos hc] at h
    cases h
    exact hP _ _ _ G (lv_sub hl [0, 1, 2] rfl)
  · rw [if_neg hc] at h
    refine lv_aload_n C.1 C.2.1 dX12_putFigures_49 rfl (lv_at hl 0 rfl) ?_
    refine lv_ldc2 (v := (48:Int64)) C.1 C.2.1 C.2.2.2.1 (C.2.2.2.2.1 _ kc_465) dX12_putFigures_50 ?_
    refine lv_lload_n C.1 C.2.1 dX12_putFigures_53 rfl (lv_at hl 1 rfl) ?_
    refine lv_lload C.1 C.2.1 dX12_putFigures_54 (lv_at hl 2 rfl) ?_
    obtain ⟨hne, h⟩ := nzL_some h
    refine lv_ldiv C.1 C.2.1 dX12_putFigures_56 hne ?_
    refine lv_ldc2 (v := (10:Int64)) C.1 C.2.1 C.2.2.2.1 (C.2.2.2.2.1 _ kc_381) dX12_putFigures_57 ?_
    refine lv_lrem C.1 C.2.1 dX12_putFigures_60 (by decide) ?_
    refine lv_ladd C.1 C.2.1 dX12_putFigures_61 ?_
    refine lv_l2i C.1 C.2.1 dX12_putFigures_62 rfl ?_
    obtain ⟨ρ_2, hq, h⟩ := bd1_some h
    refine rf_callV (rest := []) C G cw_put8 [.int ((48:Int64) + ((x3 / x5) - (x3 / x5) / (10:Int64) * (10:Int64))).toInt32] _ (kq_put8 l D h0 hq) (Nat.le_of_ble_eq_true rfl) (Nat.le_of_ble_eq_true rfl) rfl rfl hl.1 (Nat.le_of_ble_eq_true rfl) (Nat.zero_le _) (Nat.zero_le _) dX12_putFigures_63 (fun H locs G => ?_)
    refine W.eq (g2 := F0 m 66 ls []) rfl ?_
    refine lv_lload C.1 C.2.1 dX12_putFigures_66 (lv_at hl 2 rfl) ?_
    refine lv_ldc2 (v := (10:Int64)) C.1 C.2.1 C.2.2.2.1 (C.2.2.2.2.1 _ kc_381) dX12_putFigures_68 ?_
    refine lv_ldiv C.1 C.2.1 dX12_putFigures_71 (by decide) ?_
    refine vt_l h (fun x5_3 h => ?_)
    refine lv_lstore (lv' := [(5, .long x5_3), (0, .ref h0), (3, .long x3)]) C.1 C.2.1 dX12_putFigures_72 hl (by decide) rfl (fun ls hl => ?_)
    refine lv_goto (tgt := 42) C.1 C.2.1 dX12_putFigures_74 (by decide) ?_
    cases h
    exact hP _ _ _ G (lv_sub hl [1, 2, 0] rfl)
noncomputable def eq_putFigures_20 (x3 : Int64) (x5 : Int64) (ρ : rf_S) : Option (rf_S) := bq_putFigures_42 x3 x5 ρ
noncomputable def bq_putFigures_20 (x3 : Int64) (x5 : Int64) (ρ : rf_S) : Option (rf_S) := (lp (fun z : (Int64 × rf_S) => lq_putFigures_20 x3 z.1 z.2) (x5, ρ)).bind (fun z => eq_putFigures_20 x3 z.1 z.2)
set_option maxHeartbeats 4000000 in
theorem wq_putFigures_20 (C : rf_C D p s m args meth c cX12_putFigures 7 none) {x3 : Int64} {x5 : Int64} {ρ ρ' : rf_S} {H : Heap} {locs : List Loc} {ls : Array Slot} (h : bq_putFigures_20 x3 x5 ρ = some ρ') (G : rf_G D h0 s ρ H locs) (hl : lv_has ls 7 [(0, .ref h0), (3, .long x3), (5, .long x5)]) : W p l e ({ frames := 1, cells := 0, slots := 0, locals := 21 }) s m args below meth c H locs 0 0 (MQ below (rf_Q D h0 none ρ') args s 0 0 (rf_A h0)) (F0 m 20 ls []) := by
  unfold bq_putFigures_20 at h
  obtain ⟨y, hy, h⟩ := bd_some h
  have hE : (fun z : (Int64 × rf_S) => ∀ (H : Heap) (locs : List Loc) (ls : Array Slot), rf_G D h0 s z.2 H locs → lv_has ls 7 [(0, .ref h0), (3, .long x3), (5, .long z.1)] → W p l e ({ frames := 1, cells := 0, slots := 0, locals := 21 }) s m args below meth c H locs 0 0 (MQ below (rf_Q D h0 none ρ') args s 0 0 (rf_A h0)) (F0 m 42 ls [])) y := by
    intro H locs ls G hl
    obtain ⟨x5, ρ⟩ := y
    dsimp only at h G hl
    unfold eq_putFigures_20 at h
    exact wq_putFigures_42 C h G (lv_sub hl [0, 1, 2] rfl)
  refine lp_recE (fun z : (Int64 × rf_S) => ∀ (H : Heap) (locs : List Loc) (ls : Array Slot), rf_G D h0 s z.2 H locs → lv_has ls 7 [(0, .ref h0), (3, .long x3), (5, .long z.1)] → W p l e ({ frames := 1, cells := 0, slots := 0, locals := 21 }) s m args below meth c H locs 0 0 (MQ below (rf_Q D h0 none ρ') args s 0 0 (rf_A h0)) (F0 m 20 ls [])) (fun z : (Int64 × rf_S) => ∀ (H : Heap) (locs : List Loc) (ls : Array Slot), rf_G D h0 s z.2 H locs → lv_has ls 7 [(0, .ref h0), (3, .long x3), (5, .long z.1)] → W p l e ({ frames := 1, cells := 0, slots := 0, locals := 21 }) s m args below meth c H locs 0 0 (MQ below (rf_Q D h0 none ρ') args s 0 0 (rf_A h0)) (F0 m 42 ls [])) ?_ _ _ hy hE _ _ _ G hl
  clear hE hy G hl h
  intro z o h hP H locs ls G hl
  obtain ⟨x5, ρ⟩ := z
  dsimp only at h G hl
  unfold lq_putFigures_20 at h
  refine lv_lload_n C.1 C.2.1 dX12_putFigures_20 rfl (lv_at hl 1 rfl) ?_
  refine lv_lload C.1 C.2.1 dX12_putFigures_21 (lv_at hl 2 rfl) ?_
  obtain ⟨hne, h⟩ := nzL_some h
  refine lv_ldiv C.1 C.2.1 dX12_putFigures_23 hne ?_
  refine lv_ldc2 (v := (10:Int64)) C.1 C.2.1 C.2.2.2.1 (C.2.2.2.2.1 _ kc_381) dX12_putFigures_24 ?_
  refine W.lcmp C.1 C.2.1 dX12_putFigures_27 ?_
  refine lv_if_lt (tgt := 42) C.1 C.2.1 dX12_putFigures_28 (by decide) (fun hc => ?_) (fun hc => ?_)
  · rw [if_pos hc] at h
    cases h
    exact hP _ _ _ G (lv_sub hl [0, 1, 2] rfl)
  · rw [if_neg hc] at h
    refine lv_lload C.1 C.2.1 dX12_putFigures_31 (lv_at hl 2 rfl) ?_
    refine lv_ldc2 (v := (10:Int64)) C.1 C.2.1 C.2.2.2.1 (C.2.2.2.2.1 _ kc_381) dX12_putFigures_33 ?_
    refine lv_lmul C.1 C.2.1 dX12_putFigures_36 ?_
    refine vt_l h (fun x5_1 h => ?_)
    refine lv_lstore (lv' := [(5, .long x5_1), (0, .ref h0), (3, .long x3)]) C.1 C.2.1 dX12_putFigures_37 hl (by decide) rfl (fun ls hl => ?_)
    refine lv_goto (tgt := 20) C.1 C.2.1 dX12_putFigures_39 (by decide) ?_
    cases h
    exact hP _ _ _ G (lv_sub hl [1, 2, 0] rfl)
noncomputable def bq_putFigures_17 (x3 : Int64) (ρ : rf_S) : Option (rf_S) := bq_putFigures_20 x3 (1:Int64) ρ
set_option maxHeartbeats 4000000 in
theorem wq_putFigures_17 (C : rf_C D p s m args meth c cX12_putFigures 7 none) {x3 : Int64} {ρ ρ' : rf_S} {H : Heap} {locs : List Loc} {ls : Array Slot} (h : bq_putFigures_17 x3 ρ = some ρ') (G : rf_G D h0 s ρ H locs) (hl : lv_has ls 7 [(0, .ref h0), (3, .long x3)]) : W p l e ({ frames := 1, cells := 0, slots := 0, locals := 21 }) s m args below meth c H locs 0 0 (MQ below (rf_Q D h0 none ρ') args s 0 0 (rf_A h0)) (F0 m 17 ls []) := by
  unfold bq_putFigures_17 at h
  refine lv_lconst (v := (1:Int64)) C.1 C.2.1 dX12_putFigures_17 (by decide) ?_
  refine lv_lstore (lv' := [(5, .long (1:Int64)), (0, .ref h0), (3, .long x3)]) C.1 C.2.1 dX12_putFigures_18 hl (by decide) rfl (fun ls hl => ?_)
  exact wq_putFigures_20 C h G (lv_sub hl [1, 2, 0] rfl)
noncomputable def bq_putFigures_0 (x1 : Int64) (ρ : rf_S) : Option (rf_S) := (if 0 ≤ (lg_cmp x1 (0:Int64)) then bq_putFigures_17 x1 ρ else bd1 (fq_put8 (45:Int32) ρ) (fun ρ_4 => vl (-x1) (fun x3_5 => bq_putFigures_17 x3_5 ρ_4)))
set_option maxHeartbeats 4000000 in
theorem wq_putFigures_0 (C : rf_C D p s m args meth c cX12_putFigures 7 none) {x1 : Int64} {ρ ρ' : rf_S} {H : Heap} {locs : List Loc} {ls : Array Slot} (h : bq_putFigures_0 x1 ρ = some ρ') (G : rf_G D h0 s ρ H locs) (hl : lv_has ls 7 [(0, .ref h0), (1, .long x1)]) : W p l e ({ frames := 1, cells := 0, slots := 0, locals := 21 }) s m args below meth c H locs 0 0 (MQ below (rf_Q D h0 none ρ') args s 0 0 (rf_A h0)) (F0 m 0 ls []) := by
  unfold bq_putFigures_0 at h
  refine lv_lload_n C.1 C.2.1 dX12_putFigures_0 rfl (lv_at hl 1 rfl) ?_
  refine lv_lstore_n (lv' := [(3, .long x1), (0, .ref h0), (1, .long x1)]) C.1 C.2.1 dX12_putFigures_1 rfl hl (by decide) rfl (fun ls hl => ?_)
  refine lv_lload_n C.1 C.2.1 dX12_putFigures_2 rfl (lv_at hl 0 rfl) ?_
  refine lv_lconst (v := (0:Int64)) C.1 C.2.1 dX12_putFigures_3 (by decide) ?_
  refine W.lcmp C.1 C.2.1 dX12_putFigures_4 ?_
  refine lv_if_ge (tgt := 17) C.1 C.2.1 dX12_putFigures_5 (by decide) (fun hc => ?_) (fun hc => ?_)
  · rw [if_pos hc] at h
    exact wq_putFigures_17 C h G (lv_sub hl [1, 0] rfl)
  · rw [if_neg hc] at h
    refine lv_aload_n C.1 C.2.1 dX12_putFigures_8 rfl (lv_at hl 1 rfl) ?_
    refine lv_bipush (v := (45:Int32)) C.1 C.2.1 dX12_putFigures_9 (by decide) ?_
    obtain ⟨ρ_4, hq, h⟩ := bd1_some h
    refine rf_callV (rest := []) C G cw_put8 [.int (45:Int32)] _ (kq_put8 l D h0 hq) (Nat.le_of_ble_eq_true rfl) (Nat.le_of_ble_eq_true rfl) rfl rfl hl.1 (Nat.le_of_ble_eq_true rfl) (Nat.zero_le _) (Nat.zero_le _) dX12_putFigures_11 (fun H locs G => ?_)
    refine W.eq (g2 := F0 m 14 ls []) rfl ?_
    refine lv_lload_n C.1 C.2.1 dX12_putFigures_14 rfl (lv_at hl 0 rfl) ?_
    refine lv_lneg C.1 C.2.1 dX12_putFigures_15 ?_
    refine vt_l h (fun x3_5 h => ?_)
    refine lv_lstore_n (lv' := [(3, .long x3_5), (0, .ref h0), (1, .long x1)]) C.1 C.2.1 dX12_putFigures_16 rfl hl (by decide) rfl (fun ls hl => ?_)
    exact wq_putFigures_17 C h G (lv_sub hl [1, 0] rfl)
noncomputable def fq_putFigures (x1 : Int64) (ρ : rf_S) : Option (rf_S) := bq_putFigures_0 x1 ρ
theorem kq_putFigures (l : Launch) (D : rf_D) (h0 : Nat) {x1 : Int64} {ρ ρ' : rf_S} (h : fq_putFigures x1 ρ = some ρ') : rf_Met l D h0 yX12_putFigures cX12_putFigures 7 none 1 21 [.ref h0, .long x1] ρ none ρ' :=
  rf_of rfl cc_putFigures (Nat.le_of_ble_eq_true rfl) (fun p e s m args below meth c ls C G hl => wq_putFigures_0 C h G hl)
abbrev cX12_putRegister : ByteArray := prog_14_method_42_code
def yX12_putRegister : MethodName := ⟨RX12, "putRegister", "(IZ)V"⟩
theorem dX12_putRegister_0 : decode cX12_putRegister 0 = .ok (.aload_n 0, 1) := by decide +kernel
theorem dX12_putRegister_1 : decode cX12_putRegister 1 = .ok (.bipush 114, 2) := by decide +kernel
theorem dX12_putRegister_3 : decode cX12_putRegister 3 = .ok (.invokevirtual 462, 3) := by decide +kernel
theorem dX12_putRegister_6 : decode cX12_putRegister 6 = .ok (.aload_n 0, 1) := by decide +kernel
theorem dX12_putRegister_7 : decode cX12_putRegister 7 = .ok (.iload_n 1, 1) := by decide +kernel
theorem dX12_putRegister_8 : decode cX12_putRegister 8 = .ok (.i2l, 1) := by decide +kernel
theorem dX12_putRegister_9 : decode cX12_putRegister 9 = .ok (.invokevirtual 467, 3) := by decide +kernel
theorem dX12_putRegister_12 : decode cX12_putRegister 12 = .ok (.iload_n 2, 1) := by decide +kernel
theorem dX12_putRegister_13 : decode cX12_putRegister 13 = .ok (.ifCond .eq 15, 3) := by decide +kernel
theorem dX12_putRegister_16 : decode cX12_putRegister 16 = .ok (.aload_n 0, 1) := by decide +kernel
theorem dX12_putRegister_17 : decode cX12_putRegister 17 = .ok (.bipush 44, 2) := by decide +kernel
theorem dX12_putRegister_19 : decode cX12_putRegister 19 = .ok (.invokevirtual 462, 3) := by decide +kernel
theorem dX12_putRegister_22 : decode cX12_putRegister 22 = .ok (.aload_n 0, 1) := by decide +kernel
theorem dX12_putRegister_23 : decode cX12_putRegister 23 = .ok (.bipush 32, 2) := by decide +kernel
theorem dX12_putRegister_25 : decode cX12_putRegister 25 = .ok (.invokevirtual 462, 3) := by decide +kernel
theorem dX12_putRegister_28 : decode cX12_putRegister 28 = .ok (.return_, 1) := by decide +kernel
theorem cc_putRegister : Cond.code yX12_putRegister cX12_putRegister 3 none ∈ rf_tb := rf_at 2024 (by decide +kernel) (by decide +kernel)
theorem cw_putRegister : rf_wV yX12_putRegister cX12_putRegister 3 none 477 2 := ⟨⟨rf_at 2021 (by decide +kernel) (by decide +kernel), rf_at 2023 (by decide +kernel) (by decide +kernel), rf_sel (q := (yX12_putRegister, 122)) 98 (by decide +kernel) (by decide +kernel), cc_putRegister⟩, rfl, by decide +kernel⟩
noncomputable def bq_putRegister_0 (x1 : Int32) (x2 : Int32) (ρ : rf_S) : Option (rf_S) := bd1 (fq_put8 (114:Int32) ρ) (fun ρ_1 => bd1 (fq_putFigures (x1.toInt64) ρ_1) (fun ρ_2 => (if x2 = 0 then some ρ_2 else bd1 (fq_put8 (44:Int32) ρ_2) (fun ρ_3 => bd1 (fq_put8 (32:Int32) ρ_3) (fun ρ_4 => some ρ_4)))))
set_option maxHeartbeats 4000000 in
theorem wq_putRegister_0 (C : rf_C D p s m args meth c cX12_putRegister 3 none) {x1 : Int32} {x2 : Int32} {ρ ρ' : rf_S} {H : Heap} {locs : List Loc} {ls : Array Slot} (h : bq_putRegister_0 x1 x2 ρ = some ρ') (G : rf_G D h0 s ρ H locs) (hl : lv_has ls 3 [(0, .ref h0), (1, .int x1), (2, .int x2)]) : W p l e ({ frames := 2, cells := 0, slots := 0, locals := 47 }) s m args below meth c H locs 0 0 (MQ below (rf_Q D h0 none ρ') args s 0 0 (rf_A h0)) (F0 m 0 ls []) := by
  unfold bq_putRegister_0 at h
  refine lv_aload_n C.1 C.2.1 dX12_putRegister_0 rfl (lv_at hl 0 rfl) ?_
  refine lv_bipush (v := (114:Int32)) C.1 C.2.1 dX12_putRegister_1 (by decide) ?_
  obtain ⟨ρ_1, hq, h⟩ := bd1_some h
  refine rf_callV (rest := []) C G cw_put8 [.int (114:Int32)] _ (kq_put8 l D h0 hq) (Nat.le_of_ble_eq_true rfl) (Nat.le_of_ble_eq_true rfl) rfl rfl hl.1 (Nat.le_of_ble_eq_true rfl) (Nat.zero_le _) (Nat.zero_le _) dX12_putRegister_3 (fun H locs G => ?_)
  refine W.eq (g2 := F0 m 6 ls []) rfl ?_
  refine lv_aload_n C.1 C.2.1 dX12_putRegister_6 rfl (lv_at hl 0 rfl) ?_
  refine lv_iload_n C.1 C.2.1 dX12_putRegister_7 rfl (lv_at hl 1 rfl) ?_
  refine lv_i2l C.1 C.2.1 dX12_putRegister_8 rfl ?_
  obtain ⟨ρ_2, hq, h⟩ := bd1_some h
  refine rf_callV (rest := []) C G cw_putFigures [.long x1.toInt64] _ (kq_putFigures l D h0 hq) (Nat.le_of_ble_eq_true rfl) (Nat.le_of_ble_eq_true rfl) rfl rfl hl.1 (Nat.le_of_ble_eq_true rfl) (Nat.zero_le _) (Nat.zero_le _) dX12_putRegister_9 (fun H locs G => ?_)
  refine W.eq (g2 := F0 m 12 ls []) rfl ?_
  refine lv_iload_n C.1 C.2.1 dX12_putRegister_12 rfl (lv_at hl 2 rfl) ?_
  refine lv_if_eq (tgt := 28) C.1 C.2.1 dX12_putRegister_13 (by decide) (fun hc => ?_) (fun hc => ?_)
  · rw [if_pos hc] at h
    exact rf_vret C G h dX12_putRegister_28
  · rw [if_neg hc] at h
    refine lv_aload_n C.1 C.2.1 dX12_putRegister_16 rfl (lv_at hl 0 rfl) ?_
    refine lv_bipush (v := (44:Int32)) C.1 C.2.1 dX12_putRegister_17 (by decide) ?_
    obtain ⟨ρ_3, hq, h⟩ := bd1_some h
    refine rf_callV (rest := []) C G cw_put8 [.int (44:Int32)] _ (kq_put8 l D h0 hq) (Nat.le_of_ble_eq_true rfl) (Nat.le_of_ble_eq_true rfl) rfl rfl hl.1 (Nat.le_of_ble_eq_true rfl) (Nat.zero_le _) (Nat.zero_le _) dX12_putRegister_19 (fun H locs G => ?_)
    refine W.eq (g2 := F0 m 22 ls []) rfl ?_
    refine lv_aload_n C.1 C.2.1 dX12_putRegister_22 rfl (lv_at hl 0 rfl) ?_
    refine lv_bipush (v := (32:Int32)) C.1 C.2.1 dX12_putRegister_23 (by decide) ?_
    obtain ⟨ρ_4, hq, h⟩ := bd1_some h
    refine rf_callV (rest := []) C G cw_put8 [.int (32:Int32)] _ (kq_put8 l D h0 hq) (Nat.le_of_ble_eq_true rfl) (Nat.le_of_ble_eq_true rfl) rfl rfl hl.1 (Nat.le_of_ble_eq_true rfl) (Nat.zero_le _) (Nat.zero_le _) dX12_putRegister_25 (fun H locs G => ?_)
    refine W.eq (g2 := F0 m 28 ls []) rfl ?_
    exact rf_vret C G h dX12_putRegister_28
noncomputable def fq_putRegister (x1 : Int32) (x2 : Int32) (ρ : rf_S) : Option (rf_S) := bq_putRegister_0 x1 x2 ρ
theorem kq_putRegister (l : Launch) (D : rf_D) (h0 : Nat) {x1 : Int32} {x2 : Int32} {ρ ρ' : rf_S} (h : fq_putRegister x1 x2 ρ = some ρ') : rf_Met l D h0 yX12_putRegister cX12_putRegister 3 none 2 47 [.ref h0, .int x1, .int x2] ρ none ρ' :=
  rf_of rfl cc_putRegister (Nat.le_of_ble_eq_true rfl) (fun p e s m args below meth c ls C G hl => wq_putRegister_0 C h G hl)
abbrev cX12_signed : ByteArray := prog_14_method_43_code
def yX12_signed : MethodName := ⟨RX12, "signed", "(I)I"⟩
theorem dX12_signed_0 : decode cX12_signed 0 = .ok (.iload_n 0, 1) := by decide +kernel
theorem dX12_signed_1 : decode cX12_signed 1 = .ok (.bipush 14, 2) := by decide +kernel
theorem dX12_signed_3 : decode cX12_signed 3 = .ok (.ishl, 1) := by decide +kernel
theorem dX12_signed_4 : decode cX12_signed 4 = .ok (.bipush 14, 2) := by decide +kernel
theorem dX12_signed_6 : decode cX12_signed 6 = .ok (.ishr, 1) := by decide +kernel
theorem dX12_signed_7 : decode cX12_signed 7 = .ok (.ireturn, 1) := by decide +kernel
theorem cc_signed : Cond.code yX12_signed cX12_signed 1 (some .int) ∈ rf_tb := rf_at 2020 (by decide +kernel) (by decide +kernel)
theorem cw_signed : rf_wS yX12_signed cX12_signed 1 (some .int) 474 1 := ⟨⟨rf_at 2018 (by decide +kernel) (by decide +kernel), rf_at 2019 (by decide +kernel) (by decide +kernel), cc_signed⟩, rfl, by decide +kernel⟩
noncomputable def bq_signed_0 (x0 : Int32) (ρ : rf_S) : Option (Int32 × rf_S) := some (((x0 <<< ((14:Int32) &&& 31)) >>> ((14:Int32) &&& 31)), ρ)
set_option maxHeartbeats 4000000 in
theorem wq_signed_0 (C : rf_C D p s m args meth c cX12_signed 1 (some .int)) {r : Int32} {x0 : Int32} {ρ ρ' : rf_S} {H : Heap} {locs : List Loc} {ls : Array Slot} (h : bq_signed_0 x0 ρ = some (r, ρ')) (G : rf_G D h0 s ρ H locs) (hl : lv_has ls 1 [(0, .int x0)]) : W p l e ({ frames := 0, cells := 0, slots := 0, locals := 0 }) s m args below meth c H locs 0 0 (MQ below (rf_Q D h0 (some (.int r)) ρ') args s 0 0 (rf_A h0)) (F0 m 0 ls []) := by
  unfold bq_signed_0 at h
  refine lv_iload_n C.1 C.2.1 dX12_signed_0 rfl (lv_at hl 0 rfl) ?_
  refine lv_bipush (v := (14:Int32)) C.1 C.2.1 dX12_signed_1 (by decide) ?_
  refine lv_ishl C.1 C.2.1 dX12_signed_3 ?_
  refine lv_bipush (v := (14:Int32)) C.1 C.2.1 dX12_signed_4 (by decide) ?_
  refine lv_ishr C.1 C.2.1 dX12_signed_6 ?_
  exact rf_iret C G h dX12_signed_7
noncomputable def fq_signed (x0 : Int32) (ρ : rf_S) : Option (Int32 × rf_S) := bq_signed_0 x0 ρ
theorem kq_signed (l : Launch) (D : rf_D) (h0 : Nat) {r : Int32} {x0 : Int32} {ρ ρ' : rf_S} (h : fq_signed x0 ρ = some (r, ρ')) : rf_Met l D h0 yX12_signed cX12_signed 1 (some .int) 0 0 [.int x0] ρ (some (.int r)) ρ' :=
  rf_of rfl cc_signed (Nat.le_of_ble_eq_true rfl) (fun p e s m args below meth c ls C G hl => wq_signed_0 C h G hl)
abbrev cX12_isStatement : ByteArray := prog_14_method_44_code
def yX12_isStatement : MethodName := ⟨RX12, "isStatement", "(I)Z"⟩
theorem dX12_isStatement_0 : decode cX12_isStatement 0 = .ok (.iload_n 0, 1) := by decide +kernel
theorem dX12_isStatement_1 : decode cX12_isStatement 1 = .ok (.bipush 26, 2) := by decide +kernel
theorem dX12_isStatement_3 : decode cX12_isStatement 3 = .ok (.iushr, 1) := by decide +kernel
theorem dX12_isStatement_4 : decode cX12_isStatement 4 = .ok (.istore_n 1, 1) := by decide +kernel
theorem dX12_isStatement_5 : decode cX12_isStatement 5 = .ok (.iload_n 1, 1) := by decide +kernel
theorem dX12_isStatement_6 : decode cX12_isStatement 6 = .ok (.iconst 1, 1) := by decide +kernel
theorem dX12_isStatement_7 : decode cX12_isStatement 7 = .ok (.if_icmp .lt 9, 3) := by decide +kernel
theorem dX12_isStatement_10 : decode cX12_isStatement 10 = .ok (.iload_n 1, 1) := by decide +kernel
theorem dX12_isStatement_11 : decode cX12_isStatement 11 = .ok (.bipush 39, 2) := by decide +kernel
theorem dX12_isStatement_13 : decode cX12_isStatement 13 = .ok (.if_icmp .le 5, 3) := by decide +kernel
theorem dX12_isStatement_16 : decode cX12_isStatement 16 = .ok (.iconst 0, 1) := by decide +kernel
theorem dX12_isStatement_17 : decode cX12_isStatement 17 = .ok (.ireturn, 1) := by decide +kernel
theorem dX12_isStatement_18 : decode cX12_isStatement 18 = .ok (.iload_n 1, 1) := by decide +kernel
theorem dX12_isStatement_19 : decode cX12_isStatement 19 = .ok (.bipush 12, 2) := by decide +kernel
theorem dX12_isStatement_21 : decode cX12_isStatement 21 = .ok (.if_icmp .ge 17, 3) := by decide +kernel
theorem dX12_isStatement_24 : decode cX12_isStatement 24 = .ok (.iload_n 0, 1) := by decide +kernel
theorem dX12_isStatement_25 : decode cX12_isStatement 25 = .ok (.sipush 16383, 3) := by decide +kernel
theorem dX12_isStatement_28 : decode cX12_isStatement 28 = .ok (.iand, 1) := by decide +kernel
theorem dX12_isStatement_29 : decode cX12_isStatement 29 = .ok (.ifCond .ne 7, 3) := by decide +kernel
theorem dX12_isStatement_32 : decode cX12_isStatement 32 = .ok (.iconst 1, 1) := by decide +kernel
theorem dX12_isStatement_33 : decode cX12_isStatement 33 = .ok (.goto 4, 3) := by decide +kernel
theorem dX12_isStatement_36 : decode cX12_isStatement 36 = .ok (.iconst 0, 1) := by decide +kernel
theorem dX12_isStatement_37 : decode cX12_isStatement 37 = .ok (.ireturn, 1) := by decide +kernel
theorem dX12_isStatement_38 : decode cX12_isStatement 38 = .ok (.iload_n 1, 1) := by decide +kernel
theorem dX12_isStatement_39 : decode cX12_isStatement 39 = .ok (.bipush 21, 2) := by decide +kernel
theorem dX12_isStatement_41 : decode cX12_isStatement 41 = .ok (.if_icmp .eq 9, 3) := by decide +kernel
theorem dX12_isStatement_44 : decode cX12_isStatement 44 = .ok (.iload_n 1, 1) := by decide +kernel
theorem dX12_isStatement_45 : decode cX12_isStatement 45 = .ok (.bipush 36, 2) := by decide +kernel
theorem dX12_isStatement_47 : decode cX12_isStatement 47 = .ok (.if_icmp .ne 19, 3) := by decide +kernel
theorem dX12_isStatement_50 : decode cX12_isStatement 50 = .ok (.iload_n 0, 1) := by decide +kernel
theorem dX12_isStatement_51 : decode cX12_isStatement 51 = .ok (.bipush 18, 2) := by decide +kernel
theorem dX12_isStatement_53 : decode cX12_isStatement 53 = .ok (.iushr, 1) := by decide +kernel
theorem dX12_isStatement_54 : decode cX12_isStatement 54 = .ok (.bipush 15, 2) := by decide +kernel
theorem dX12_isStatement_56 : decode cX12_isStatement 56 = .ok (.iand, 1) := by decide +kernel
theorem dX12_isStatement_57 : decode cX12_isStatement 57 = .ok (.ifCond .ne 7, 3) := by decide +kernel
theorem dX12_isStatement_60 : decode cX12_isStatement 60 = .ok (.iconst 1, 1) := by decide +kernel
theorem dX12_isStatement_61 : decode cX12_isStatement 61 = .ok (.goto 4, 3) := by decide +kernel
theorem dX12_isStatement_64 : decode cX12_isStatement 64 = .ok (.iconst 0, 1) := by decide +kernel
theorem dX12_isStatement_65 : decode cX12_isStatement 65 = .ok (.ireturn, 1) := by decide +kernel
theorem dX12_isStatement_66 : decode cX12_isStatement 66 = .ok (.iload_n 1, 1) := by decide +kernel
theorem dX12_isStatement_67 : decode cX12_isStatement 67 = .ok (.bipush 38, 2) := by decide +kernel
theorem dX12_isStatement_69 : decode cX12_isStatement 69 = .ok (.if_icmp .ne 20, 3) := by decide +kernel
theorem dX12_isStatement_72 : decode cX12_isStatement 72 = .ok (.iload_n 0, 1) := by decide +kernel
theorem dX12_isStatement_73 : decode cX12_isStatement 73 = .ok (.bipush 17, 2) := by decide +kernel
theorem dX12_isStatement_75 : decode cX12_isStatement 75 = .ok (.iushr, 1) := by decide +kernel
theorem dX12_isStatement_76 : decode cX12_isStatement 76 = .ok (.sipush 511, 3) := by decide +kernel
theorem dX12_isStatement_79 : decode cX12_isStatement 79 = .ok (.iand, 1) := by decide +kernel
theorem dX12_isStatement_80 : decode cX12_isStatement 80 = .ok (.ifCond .ne 7, 3) := by decide +kernel
theorem dX12_isStatement_83 : decode cX12_isStatement 83 = .ok (.iconst 1, 1) := by decide +kernel
theorem dX12_isStatement_84 : decode cX12_isStatement 84 = .ok (.goto 4, 3) := by decide +kernel
theorem dX12_isStatement_87 : decode cX12_isStatement 87 = .ok (.iconst 0, 1) := by decide +kernel
theorem dX12_isStatement_88 : decode cX12_isStatement 88 = .ok (.ireturn, 1) := by decide +kernel
theorem dX12_isStatement_89 : decode cX12_isStatement 89 = .ok (.iload_n 1, 1) := by decide +kernel
theorem dX12_isStatement_90 : decode cX12_isStatement 90 = .ok (.bipush 39, 2) := by decide +kernel
theorem dX12_isStatement_92 : decode cX12_isStatement 92 = .ok (.if_icmp .ne 10, 3) := by decide +kernel
theorem dX12_isStatement_95 : decode cX12_isStatement 95 = .ok (.iload_n 0, 1) := by decide +kernel
theorem dX12_isStatement_96 : decode cX12_isStatement 96 = .ok (.bipush 6, 2) := by decide +kernel
theorem dX12_isStatement_98 : decode cX12_isStatement 98 = .ok (.ishl, 1) := by decide +kernel
theorem dX12_isStatement_99 : decode cX12_isStatement 99 = .ok (.ifCond .ne 7, 3) := by decide +kernel
theorem dX12_isStatement_102 : decode cX12_isStatement 102 = .ok (.iconst 1, 1) := by decide +kernel
theorem dX12_isStatement_103 : decode cX12_isStatement 103 = .ok (.goto 4, 3) := by decide +kernel
theorem dX12_isStatement_106 : decode cX12_isStatement 106 = .ok (.iconst 0, 1) := by decide +kernel
theorem dX12_isStatement_107 : decode cX12_isStatement 107 = .ok (.ireturn, 1) := by decide +kernel
theorem cc_isStatement : Cond.code yX12_isStatement cX12_isStatement 2 (some .boolean) ∈ rf_tb := rf_at 2008 (by decide +kernel) (by decide +kernel)
theorem cw_isStatement : rf_wS yX12_isStatement cX12_isStatement 2 (some .boolean) 471 1 := ⟨⟨rf_at 2006 (by decide +kernel) (by decide +kernel), rf_at 2007 (by decide +kernel) (by decide +kernel), cc_isStatement⟩, rfl, by decide +kernel⟩
noncomputable def bq_isStatement_50 (x0 : Int32) (ρ : rf_S) : Option (Int32 × rf_S) := (if (((x0.toUInt32 >>> ((18:Int32).toUInt32 &&& Int32.toUInt32 31)).toInt32) &&& (15:Int32)) = 0 then some ((1:Int32), ρ) else some ((0:Int32), ρ))
set_option maxHeartbeats 4000000 in
theorem wq_isStatement_50 (C : rf_C D p s m args meth c cX12_isStatement 2 (some .boolean)) {r : Int32} {x0 : Int32} {ρ ρ' : rf_S} {H : Heap} {locs : List Loc} {ls : Array Slot} (h : bq_isStatement_50 x0 ρ = some (r, ρ')) (G : rf_G D h0 s ρ H locs) (hl : lv_has ls 2 [(0, .int x0)]) : W p l e ({ frames := 0, cells := 0, slots := 0, locals := 0 }) s m args below meth c H locs 0 0 (MQ below (rf_Q D h0 (some (.int r)) ρ') args s 0 0 (rf_A h0)) (F0 m 50 ls []) := by
  unfold bq_isStatement_50 at h
  refine lv_iload_n C.1 C.2.1 dX12_isStatement_50 rfl (lv_at hl 0 rfl) ?_
  refine lv_bipush (v := (18:Int32)) C.1 C.2.1 dX12_isStatement_51 (by decide) ?_
  refine lv_iushr C.1 C.2.1 dX12_isStatement_53 rfl ?_
  refine lv_bipush (v := (15:Int32)) C.1 C.2.1 dX12_isStatement_54 (by decide) ?_
  refine lv_iand C.1 C.2.1 dX12_isStatement_56 ?_
  refine lv_if_ne (tgt := 64) C.1 C.2.1 dX12_isStatement_57 (by decide) (fun hc => ?_) (fun hc => ?_)
  · rw [if_neg hc] at h
    refine lv_iconst (v := (0:Int32)) C.1 C.2.1 dX12_isStatement_64 (by decide) ?_
    exact rf_zret C G h rfl dX12_isStatement_65
  · rw [if_pos hc] at h
    refine lv_iconst (v := (1:Int32)) C.1 C.2.1 dX12_isStatement_60 (by decide) ?_
    refine lv_goto (tgt := 65) C.1 C.2.1 dX12_isStatement_61 (by decide) ?_
    exact rf_zret C G h rfl dX12_isStatement_65
noncomputable def bq_isStatement_0 (x0 : Int32) (ρ : rf_S) : Option (Int32 × rf_S) := vl ((x0.toUInt32 >>> ((26:Int32).toUInt32 &&& Int32.toUInt32 31)).toInt32) (fun x1_1 => (if x1_1 < (1:Int32) then some ((0:Int32), ρ) else (if x1_1 ≤ (39:Int32) then (if (12:Int32) ≤ x1_1 then (if x1_1 = (21:Int32) then bq_isStatement_50 x0 ρ else (if x1_1 = (36:Int32) then bq_isStatement_50 x0 ρ else (if x1_1 = (38:Int32) then (if (((x0.toUInt32 >>> ((17:Int32).toUInt32 &&& Int32.toUInt32 31)).toInt32) &&& (511:Int32)) = 0 then some ((1:Int32), ρ) else some ((0:Int32), ρ)) else (if x1_1 = (39:Int32) then (if (x0 <<< ((6:Int32) &&& 31)) = 0 then some ((1:Int32), ρ) else some ((0:Int32), ρ)) else some ((1:Int32), ρ))))) else (if (x0 &&& (16383:Int32)) = 0 then some ((1:Int32), ρ) else some ((0:Int32), ρ))) else some ((0:Int32), ρ))))
set_option maxHeartbeats 4000000 in
theorem wq_isStatement_0 (C : rf_C D p s m args meth c cX12_isStatement 2 (some .boolean)) {r : Int32} {x0 : Int32} {ρ ρ' : rf_S} {H : Heap} {locs : List Loc} {ls : Array Slot} (h : bq_isStatement_0 x0 ρ = some (r, ρ')) (G : rf_G D h0 s ρ H locs) (hl : lv_has ls 2 [(0, .int x0)]) : W p l e ({ frames := 0, cells := 0, slots := 0, locals := 0 }) s m args below meth c H locs 0 0 (MQ below (rf_Q D h0 (some (.int r)) ρ') args s 0 0 (rf_A h0)) (F0 m 0 ls []) := by
  unfold bq_isStatement_0 at h
  refine lv_iload_n C.1 C.2.1 dX12_isStatement_0 rfl (lv_at hl 0 rfl) ?_
  refine lv_bipush (v := (26:Int32)) C.1 C.2.1 dX12_isStatement_1 (by decide) ?_
  refine lv_iushr C.1 C.2.1 dX12_isStatement_3 rfl ?_
  refine vt_i h (fun x1_1 h => ?_)
  refine lv_istore_n (lv' := [(1, .int x1_1), (0, .int x0)]) C.1 C.2.1 dX12_isStatement_4 rfl hl (by decide) rfl (fun ls hl => ?_)
  refine lv_iload_n C.1 C.2.1 dX12_isStatement_5 rfl (lv_at hl 0 rfl) ?_
  refine lv_iconst (v := (1:Int32)) C.1 C.2.1 dX12_isStatement_6 (by decide) ?_
  refine lv_icmp_lt (tgt := 16) C.1 C.2.1 dX12_isStatement_7 (by decide) (fun hc => ?_) (fun hc => ?_)
  · rw [if_pos hc] at h
    refine lv_iconst (v := (0:Int32)) C.1 C.2.1 dX12_isStatement_16 (by decide) ?_
    exact rf_zret C G h rfl dX12_isStatement_17
  · rw [if_neg hc] at h
    refine lv_iload_n C.1 C.2.1 dX12_isStatement_10 rfl (lv_at hl 0 rfl) ?_
    refine lv_bipush (v := (39:Int32)) C.1 C.2.1 dX12_isStatement_11 (by decide) ?_
    refine lv_icmp_le (tgt := 18) C.1 C.2.1 dX12_isStatement_13 (by decide) (fun hc => ?_) (fun hc => ?_)
    · rw [if_pos hc] at h
      refine lv_iload_n C.1 C.2.1 dX12_isStatement_18 rfl (lv_at hl 0 rfl) ?_
      refine lv_bipush (v := (12:Int32)) C.1 C.2.1 dX12_isStatement_19 (by decide) ?_
      refine lv_icmp_ge (tgt := 38) C.1 C.2.1 dX12_isStatement_21 (by decide) (fun hc => ?_) (fun hc => ?_)
      · rw [if_pos hc] at h
        refine lv_iload_n C.1 C.2.1 dX12_isStatement_38 rfl (lv_at hl 0 rfl) ?_
        refine lv_bipush (v := (21:Int32)) C.1 C.2.1 dX12_isStatement_39 (by decide) ?_
        refine lv_icmp_eq (tgt := 50) C.1 C.2.1 dX12_isStatement_41 (by decide) (fun hc => ?_) (fun hc => ?_)
        · rw [if_pos hc] at h
          exact wq_isStatement_50 C h G (lv_sub hl [1] rfl)
        · rw [if_neg hc] at h
          refine lv_iload_n C.1 C.2.1 dX12_isStatement_44 rfl (lv_at hl 0 rfl) ?_
          refine lv_bipush (v := (36:Int32)) C.1 C.2.1 dX12_isStatement_45 (by decide) ?_
          refine lv_icmp_ne (tgt := 66) C.1 C.2.1 dX12_isStatement_47 (by decide) (fun hc => ?_) (fun hc => ?_)
          · rw [if_neg hc] at h
            refine lv_iload_n C.1 C.2.1 dX12_isStatement_66 rfl (lv_at hl 0 rfl) ?_
            refine lv_bipush (v := (38:Int32)) C.1 C.2.1 dX12_isStatement_67 (by decide) ?_
            refine lv_icmp_ne (tgt := 89) C.1 C.2.1 dX12_isStatement_69 (by decide) (fun hc => ?_) (fun hc => ?_)
            · rw [if_neg hc] at h
              refine lv_iload_n C.1 C.2.1 dX12_isStatement_89 rfl (lv_at hl 0 rfl) ?_
              refine lv_bipush (v := (39:Int32)) C.1 C.2.1 dX12_isStatement_90 (by decide) ?_
              refine lv_icmp_ne (tgt := 102) C.1 C.2.1 dX12_isStatement_92 (by decide) (fun hc => ?_) (fun hc => ?_)
              · rw [if_neg hc] at h
                refine lv_iconst (v := (1:Int32)) C.1 C.2.1 dX12_isStatement_102 (by decide) ?_
                refine lv_goto (tgt := 107) C.1 C.2.1 dX12_isStatement_103 (by decide) ?_
                exact rf_zret C G h rfl dX12_isStatement_107
              · rw [if_pos hc] at h
                refine lv_iload_n C.1 C.2.1 dX12_isStatement_95 rfl (lv_at hl 1 rfl) ?_
                refine lv_bipush (v := (6:Int32)) C.1 C.2.1 dX12_isStatement_96 (by decide) ?_
                refine lv_ishl C.1 C.2.1 dX12_isStatement_98 ?_
                refine lv_if_ne (tgt := 106) C.1 C.2.1 dX12_isStatement_99 (by decide) (fun hc => ?_) (fun hc => ?_)
                · rw [if_neg hc] at h
                  refine lv_iconst (v := (0:Int32)) C.1 C.2.1 dX12_isStatement_106 (by decide) ?_
                  exact rf_zret C G h rfl dX12_isStatement_107
                · rw [if_pos hc] at h
                  refine lv_iconst (v := (1:Int32)) C.1 C.2.1 dX12_isStatement_102 (by decide) ?_
                  refine lv_goto (tgt := 107) C.1 C.2.1 dX12_isStatement_103 (by decide) ?_
                  exact rf_zret C G h rfl dX12_isStatement_107
            · rw [if_pos hc] at h
              refine lv_iload_n C.1 C.2.1 dX12_isStatement_72 rfl (lv_at hl 1 rfl) ?_
              refine lv_bipush (v := (17:Int32)) C.1 C.2.1 dX12_isStatement_73 (by decide) ?_
              refine lv_iushr C.1 C.2.1 dX12_isStatement_75 rfl ?_
              refine lv_sipush (v := (511:Int32)) C.1 C.2.1 dX12_isStatement_76 (by decide) ?_
              refine lv_iand C.1 C.2.1 dX12_isStatement_79 ?_
              refine lv_if_ne (tgt := 87) C.1 C.2.1 dX12_isStatement_80 (by decide) (fun hc => ?_) (fun hc => ?_)
              · rw [if_neg hc] at h
                refine lv_iconst (v := (0:Int32)) C.1 C.2.1 dX12_isStatement_87 (by decide) ?_
                exact rf_zret C G h rfl dX12_isStatement_88
              · rw [if_pos hc] at h
                refine lv_iconst (v := (1:Int32)) C.1 C.2.1 dX12_isStatement_83 (by decide) ?_
                refine lv_goto (tgt := 88) C.1 C.2.1 dX12_isStatement_84 (by decide) ?_
                exact rf_zret C G h rfl dX12_isStatement_88
          · rw [if_pos hc] at h
            exact wq_isStatement_50 C h G (lv_sub hl [1] rfl)
      · rw [if_neg hc] at h
        refine lv_iload_n C.1 C.2.1 dX12_isStatement_24 rfl (lv_at hl 1 rfl) ?_
        refine lv_sipush (v := (16383:Int32)) C.1 C.2.1 dX12_isStatement_25 (by decide) ?_
        refine lv_iand C.1 C.2.1 dX12_isStatement_28 ?_
        refine lv_if_ne (tgt := 36) C.1 C.2.1 dX12_isStatement_29 (by decide) (fun hc => ?_) (fun hc => ?_)
        · rw [if_neg hc] at h
          refine lv_iconst (v := (0:Int32)) C.1 C.2.1 dX12_isStatement_36 (by decide) ?_
          exact rf_zret C G h rfl dX12_isStatement_37
        · rw [if_pos hc] at h
          refine lv_iconst (v := (1:Int32)) C.1 C.2.1 dX12_isStatement_32 (by decide) ?_
          refine lv_goto (tgt := 37) C.1 C.2.1 dX12_isStatement_33 (by decide) ?_
          exact rf_zret C G h rfl dX12_isStatement_37
    · rw [if_neg hc] at h
      refine lv_iconst (v := (0:Int32)) C.1 C.2.1 dX12_isStatement_16 (by decide) ?_
      exact rf_zret C G h rfl dX12_isStatement_17
noncomputable def fq_isStatement (x0 : Int32) (ρ : rf_S) : Option (Int32 × rf_S) := bq_isStatement_0 x0 ρ
theorem kq_isStatement (l : Launch) (D : rf_D) (h0 : Nat) {r : Int32} {x0 : Int32} {ρ ρ' : rf_S} (h : fq_isStatement x0 ρ = some (r, ρ')) : rf_Met l D h0 yX12_isStatement cX12_isStatement 2 (some .boolean) 0 0 [.int x0] ρ (some (.int r)) ρ' :=
  rf_of rfl cc_isStatement (Nat.le_of_ble_eq_true rfl) (fun p e s m args below meth c ls C G hl => wq_isStatement_0 C h G hl)
abbrev cX12_shown : ByteArray := prog_14_method_46_code
def yX12_shown : MethodName := ⟨RX12, "shown", "(I)I"⟩
theorem dX12_shown_0 : decode cX12_shown 0 = .ok (.iload_n 1, 1) := by decide +kernel
theorem dX12_shown_1 : decode cX12_shown 1 = .ok (.ifCond .lt 24, 3) := by decide +kernel
theorem dX12_shown_4 : decode cX12_shown 4 = .ok (.iload_n 1, 1) := by decide +kernel
theorem dX12_shown_5 : decode cX12_shown 5 = .ok (.aload_n 0, 1) := by decide +kernel
theorem dX12_shown_6 : decode cX12_shown 6 = .ok (.getfield 459, 3) := by decide +kernel
theorem dX12_shown_9 : decode cX12_shown 9 = .ok (.if_icmp .ge 16, 3) := by decide +kernel
theorem dX12_shown_12 : decode cX12_shown 12 = .ok (.aload_n 0, 1) := by decide +kernel
theorem dX12_shown_13 : decode cX12_shown 13 = .ok (.getfield 98, 3) := by decide +kernel
theorem dX12_shown_16 : decode cX12_shown 16 = .ok (.iload_n 1, 1) := by decide +kernel
theorem dX12_shown_17 : decode cX12_shown 17 = .ok (.baload, 1) := by decide +kernel
theorem dX12_shown_18 : decode cX12_shown 18 = .ok (.sipush 255, 3) := by decide +kernel
theorem dX12_shown_21 : decode cX12_shown 21 = .ok (.iand, 1) := by decide +kernel
theorem dX12_shown_22 : decode cX12_shown 22 = .ok (.goto 4, 3) := by decide +kernel
theorem dX12_shown_25 : decode cX12_shown 25 = .ok (.iconst 0, 1) := by decide +kernel
theorem dX12_shown_26 : decode cX12_shown 26 = .ok (.ireturn, 1) := by decide +kernel
theorem cc_shown : Cond.code yX12_shown cX12_shown 2 (some .int) ∈ rf_tb := rf_at 2028 (by decide +kernel) (by decide +kernel)
noncomputable def bq_shown_0 (x1 : Int32) (ρ : rf_S) : Option (Int32 × rf_S) := (if x1 < 0 then some ((0:Int32), ρ) else (if (ρ.1 0 43) ≤ x1 then some ((0:Int32), ρ) else ix x1 64 (some (((ρ.1 25 x1.toNatClampNeg) &&& (255:Int32)), ρ))))
set_option maxHeartbeats 4000000 in
theorem wq_shown_0 (C : rf_C D p s m args meth c cX12_shown 2 (some .int)) {r : Int32} {x1 : Int32} {ρ ρ' : rf_S} {H : Heap} {locs : List Loc} {ls : Array Slot} (h : bq_shown_0 x1 ρ = some (r, ρ')) (G : rf_G D h0 s ρ H locs) (hl : lv_has ls 2 [(0, .ref h0), (1, .int x1)]) : W p l e ({ frames := 0, cells := 0, slots := 0, locals := 0 }) s m args below meth c H locs 0 0 (MQ below (rf_Q D h0 (some (.int r)) ρ') args s 0 0 (rf_A h0)) (F0 m 0 ls []) := by
  unfold bq_shown_0 at h
  refine lv_iload_n C.1 C.2.1 dX12_shown_0 rfl (lv_at hl 1 rfl) ?_
  refine lv_if_lt (tgt := 25) C.1 C.2.1 dX12_shown_1 (by decide) (fun hc => ?_) (fun hc => ?_)
  · rw [if_pos hc] at h
    refine lv_iconst (v := (0:Int32)) C.1 C.2.1 dX12_shown_25 (by decide) ?_
    exact rf_iret C G h dX12_shown_26
  · rw [if_neg hc] at h
    refine lv_iload_n C.1 C.2.1 dX12_shown_4 rfl (lv_at hl 1 rfl) ?_
    refine lv_aload_n C.1 C.2.1 dX12_shown_5 rfl (lv_at hl 0 rfl) ?_
    refine gf_43 C G dX12_shown_6 ?_
    refine lv_icmp_ge (tgt := 25) C.1 C.2.1 dX12_shown_9 (by decide) (fun hc => ?_) (fun hc => ?_)
    · rw [if_pos hc] at h
      refine lv_iconst (v := (0:Int32)) C.1 C.2.1 dX12_shown_25 (by decide) ?_
      exact rf_iret C G h dX12_shown_26
    · rw [if_neg hc] at h
      refine lv_aload_n C.1 C.2.1 dX12_shown_12 rfl (lv_at hl 0 rfl) ?_
      refine gf_42 C G dX12_shown_13 ?_
      refine lv_iload_n C.1 C.2.1 dX12_shown_16 rfl (lv_at hl 1 rfl) ?_
      obtain ⟨hi, h⟩ := ix_some h
      refine rf_bald C G 25 rfl (by decide) rfl rfl hi dX12_shown_17 ?_
      refine lv_sipush (v := (255:Int32)) C.1 C.2.1 dX12_shown_18 (by decide) ?_
      refine lv_iand C.1 C.2.1 dX12_shown_21 ?_
      refine lv_goto (tgt := 26) C.1 C.2.1 dX12_shown_22 (by decide) ?_
      exact rf_iret C G h dX12_shown_26
noncomputable def fq_shown (x1 : Int32) (ρ : rf_S) : Option (Int32 × rf_S) := bq_shown_0 x1 ρ
theorem kq_shown (l : Launch) (D : rf_D) (h0 : Nat) {r : Int32} {x1 : Int32} {ρ ρ' : rf_S} (h : fq_shown x1 ρ = some (r, ρ')) : rf_Met l D h0 yX12_shown cX12_shown 2 (some .int) 0 0 [.ref h0, .int x1] ρ (some (.int r)) ρ' :=
  rf_of rfl cc_shown (Nat.le_of_ble_eq_true rfl) (fun p e s m args below meth c ls C G hl => wq_shown_0 C h G hl)
abbrev cX12_drop : ByteArray := prog_14_method_47_code
def yX12_drop : MethodName := ⟨RX12, "drop", "(I)I"⟩
theorem dX12_drop_0 : decode cX12_drop 0 = .ok (.iload_n 1, 1) := by decide +kernel
theorem dX12_drop_1 : decode cX12_drop 1 = .ok (.ifCond .lt 11, 3) := by decide +kernel
theorem dX12_drop_4 : decode cX12_drop 4 = .ok (.iload_n 1, 1) := by decide +kernel
theorem dX12_drop_5 : decode cX12_drop 5 = .ok (.aload_n 0, 1) := by decide +kernel
theorem dX12_drop_6 : decode cX12_drop 6 = .ok (.getfield 456, 3) := by decide +kernel
theorem dX12_drop_9 : decode cX12_drop 9 = .ok (.if_icmp .le 6, 3) := by decide +kernel
theorem dX12_drop_12 : decode cX12_drop 12 = .ok (.bipush (-2), 2) := by decide +kernel
theorem dX12_drop_14 : decode cX12_drop 14 = .ok (.ireturn, 1) := by decide +kernel
theorem dX12_drop_15 : decode cX12_drop 15 = .ok (.aload_n 0, 1) := by decide +kernel
theorem dX12_drop_16 : decode cX12_drop 16 = .ok (.dup, 1) := by decide +kernel
theorem dX12_drop_17 : decode cX12_drop 17 = .ok (.getfield 456, 3) := by decide +kernel
theorem dX12_drop_20 : decode cX12_drop 20 = .ok (.iload_n 1, 1) := by decide +kernel
theorem dX12_drop_21 : decode cX12_drop 21 = .ok (.isub, 1) := by decide +kernel
theorem dX12_drop_22 : decode cX12_drop 22 = .ok (.putfield 456, 3) := by decide +kernel
theorem dX12_drop_25 : decode cX12_drop 25 = .ok (.aload_n 0, 1) := by decide +kernel
theorem dX12_drop_26 : decode cX12_drop 26 = .ok (.getfield 456, 3) := by decide +kernel
theorem dX12_drop_29 : decode cX12_drop 29 = .ok (.ireturn, 1) := by decide +kernel
theorem cc_drop : Cond.code yX12_drop cX12_drop 2 (some .int) ∈ rf_tb := rf_at 2032 (by decide +kernel) (by decide +kernel)
noncomputable def bq_drop_0 (x1 : Int32) (ρ : rf_S) : Option (Int32 × rf_S) := (if x1 < 0 then some ((-2:Int32), ρ) else (if x1 ≤ (ρ.1 0 28) then vl (rf_w ρ 0 28 ((ρ.1 0 28) - x1)) (fun ρ_1 => some ((ρ_1.1 0 28), ρ_1)) else some ((-2:Int32), ρ)))
set_option maxHeartbeats 4000000 in
theorem wq_drop_0 (C : rf_C D p s m args meth c cX12_drop 2 (some .int)) {r : Int32} {x1 : Int32} {ρ ρ' : rf_S} {H : Heap} {locs : List Loc} {ls : Array Slot} (h : bq_drop_0 x1 ρ = some (r, ρ')) (G : rf_G D h0 s ρ H locs) (hl : lv_has ls 2 [(0, .ref h0), (1, .int x1)]) : W p l e ({ frames := 0, cells := 0, slots := 0, locals := 0 }) s m args below meth c H locs 0 0 (MQ below (rf_Q D h0 (some (.int r)) ρ') args s 0 0 (rf_A h0)) (F0 m 0 ls []) := by
  unfold bq_drop_0 at h
  refine lv_iload_n C.1 C.2.1 dX12_drop_0 rfl (lv_at hl 1 rfl) ?_
  refine lv_if_lt (tgt := 12) C.1 C.2.1 dX12_drop_1 (by decide) (fun hc => ?_) (fun hc => ?_)
  · rw [if_pos hc] at h
    refine lv_bipush (v := (-2:Int32)) C.1 C.2.1 dX12_drop_12 (by decide) ?_
    exact rf_iret C G h dX12_drop_14
  · rw [if_neg hc] at h
    refine lv_iload_n C.1 C.2.1 dX12_drop_4 rfl (lv_at hl 1 rfl) ?_
    refine lv_aload_n C.1 C.2.1 dX12_drop_5 rfl (lv_at hl 0 rfl) ?_
    refine gf_28 C G dX12_drop_6 ?_
    refine lv_icmp_le (tgt := 15) C.1 C.2.1 dX12_drop_9 (by decide) (fun hc => ?_) (fun hc => ?_)
    · rw [if_pos hc] at h
      refine lv_aload_n C.1 C.2.1 dX12_drop_15 rfl (lv_at hl 0 rfl) ?_
      refine lv_dup C.1 C.2.1 dX12_drop_16 rfl ?_
      refine gf_28 C G dX12_drop_17 ?_
      refine lv_iload_n C.1 C.2.1 dX12_drop_20 rfl (lv_at hl 1 rfl) ?_
      refine lv_isub C.1 C.2.1 dX12_drop_21 ?_
      refine pf_28 C G dX12_drop_22 (fun H locs G => ?_)
      refine rf_nm G h (fun ρ_1 G h => ?_)
      refine lv_aload_n C.1 C.2.1 dX12_drop_25 rfl (lv_at hl 0 rfl) ?_
      refine gf_28 C G dX12_drop_26 ?_
      exact rf_iret C G h dX12_drop_29
    · rw [if_neg hc] at h
      refine lv_bipush (v := (-2:Int32)) C.1 C.2.1 dX12_drop_12 (by decide) ?_
      exact rf_iret C G h dX12_drop_14
noncomputable def fq_drop (x1 : Int32) (ρ : rf_S) : Option (Int32 × rf_S) := bq_drop_0 x1 ρ
theorem kq_drop (l : Launch) (D : rf_D) (h0 : Nat) {r : Int32} {x1 : Int32} {ρ ρ' : rf_S} (h : fq_drop x1 ρ = some (r, ρ')) : rf_Met l D h0 yX12_drop cX12_drop 2 (some .int) 0 0 [.ref h0, .int x1] ρ (some (.int r)) ρ' :=
  rf_of rfl cc_drop (Nat.le_of_ble_eq_true rfl) (fun p e s m args below meth c ls C G hl => wq_drop_0 C h G hl)
abbrev cX12_word : ByteArray := prog_14_method_48_code
def yX12_word : MethodName := ⟨RX12, "word", "(I)I"⟩
theorem dX12_word_0 : decode cX12_word 0 = .ok (.iload_n 1, 1) := by decide +kernel
theorem dX12_word_1 : decode cX12_word 1 = .ok (.ifCond .lt 20, 3) := by decide +kernel
theorem dX12_word_4 : decode cX12_word 4 = .ok (.iload_n 1, 1) := by decide +kernel
theorem dX12_word_5 : decode cX12_word 5 = .ok (.aload_n 0, 1) := by decide +kernel
theorem dX12_word_6 : decode cX12_word 6 = .ok (.getfield 456, 3) := by decide +kernel
theorem dX12_word_9 : decode cX12_word 9 = .ok (.if_icmp .ge 12, 3) := by decide +kernel
theorem dX12_word_12 : decode cX12_word 12 = .ok (.aload_n 0, 1) := by decide +kernel
theorem dX12_word_13 : decode cX12_word 13 = .ok (.getfield 71, 3) := by decide +kernel
theorem dX12_word_16 : decode cX12_word 16 = .ok (.iload_n 1, 1) := by decide +kernel
theorem dX12_word_17 : decode cX12_word 17 = .ok (.iaload, 1) := by decide +kernel
theorem dX12_word_18 : decode cX12_word 18 = .ok (.goto 4, 3) := by decide +kernel
theorem dX12_word_21 : decode cX12_word 21 = .ok (.iconst 0, 1) := by decide +kernel
theorem dX12_word_22 : decode cX12_word 22 = .ok (.ireturn, 1) := by decide +kernel
theorem cc_word : Cond.code yX12_word cX12_word 2 (some .int) ∈ rf_tb := rf_at 2036 (by decide +kernel) (by decide +kernel)
noncomputable def bq_word_0 (x1 : Int32) (ρ : rf_S) : Option (Int32 × rf_S) := (if x1 < 0 then some ((0:Int32), ρ) else (if (ρ.1 0 28) ≤ x1 then some ((0:Int32), ρ) else ix x1 2048 (some ((ρ.1 17 x1.toNatClampNeg), ρ))))
set_option maxHeartbeats 4000000 in
theorem wq_word_0 (C : rf_C D p s m args meth c cX12_word 2 (some .int)) {r : Int32} {x1 : Int32} {ρ ρ' : rf_S} {H : Heap} {locs : List Loc} {ls : Array Slot} (h : bq_word_0 x1 ρ = some (r, ρ')) (G : rf_G D h0 s ρ H locs) (hl : lv_has ls 2 [(0, .ref h0), (1, .int x1)]) : W p l e ({ frames := 0, cells := 0, slots := 0, locals := 0 }) s m args below meth c H locs 0 0 (MQ below (rf_Q D h0 (some (.int r)) ρ') args s 0 0 (rf_A h0)) (F0 m 0 ls []) := by
  unfold bq_word_0 at h
  refine lv_iload_n C.1 C.2.1 dX12_word_0 rfl (lv_at hl 1 rfl) ?_
  refine lv_if_lt (tgt := 21) C.1 C.2.1 dX12_word_1 (by decide) (fun hc => ?_) (fun hc => ?_)
  · rw [if_pos hc] at h
    refine lv_iconst (v := (0:Int32)) C.1 C.2.1 dX12_word_21 (by decide) ?_
    exact rf_iret C G h dX12_word_22
  · rw [if_neg hc] at h
    refine lv_iload_n C.1 C.2.1 dX12_word_4 rfl (lv_at hl 1 rfl) ?_
    refine lv_aload_n C.1 C.2.1 dX12_word_5 rfl (lv_at hl 0 rfl) ?_
    refine gf_28 C G dX12_word_6 ?_
    refine lv_icmp_ge (tgt := 21) C.1 C.2.1 dX12_word_9 (by decide) (fun hc => ?_) (fun hc => ?_)
    · rw [if_pos hc] at h
      refine lv_iconst (v := (0:Int32)) C.1 C.2.1 dX12_word_21 (by decide) ?_
      exact rf_iret C G h dX12_word_22
    · rw [if_neg hc] at h
      refine lv_aload_n C.1 C.2.1 dX12_word_12 rfl (lv_at hl 0 rfl) ?_
      refine gf_27 C G dX12_word_13 ?_
      refine lv_iload_n C.1 C.2.1 dX12_word_16 rfl (lv_at hl 1 rfl) ?_
      obtain ⟨hi, h⟩ := ix_some h
      refine rf_iald C G 17 rfl (by decide) rfl rfl hi dX12_word_17 ?_
      refine lv_goto (tgt := 22) C.1 C.2.1 dX12_word_18 (by decide) ?_
      exact rf_iret C G h dX12_word_22
noncomputable def fq_word (x1 : Int32) (ρ : rf_S) : Option (Int32 × rf_S) := bq_word_0 x1 ρ
theorem kq_word (l : Launch) (D : rf_D) (h0 : Nat) {r : Int32} {x1 : Int32} {ρ ρ' : rf_S} (h : fq_word x1 ρ = some (r, ρ')) : rf_Met l D h0 yX12_word cX12_word 2 (some .int) 0 0 [.ref h0, .int x1] ρ (some (.int r)) ρ' :=
  rf_of rfl cc_word (Nat.le_of_ble_eq_true rfl) (fun p e s m args below meth c ls C G hl => wq_word_0 C h G hl)
abbrev cX12_keptAt : ByteArray := prog_14_method_50_code
def yX12_keptAt : MethodName := ⟨RX12, "keptAt", "(I)I"⟩
theorem dX12_keptAt_0 : decode cX12_keptAt 0 = .ok (.iload_n 0, 1) := by decide +kernel
theorem dX12_keptAt_1 : decode cX12_keptAt 1 = .ok (.bipush 8, 2) := by decide +kernel
theorem dX12_keptAt_3 : decode cX12_keptAt 3 = .ok (.if_icmp .ge 11, 3) := by decide +kernel
theorem dX12_keptAt_6 : decode cX12_keptAt 6 = .ok (.sipush 2048, 3) := by decide +kernel
theorem dX12_keptAt_9 : decode cX12_keptAt 9 = .ok (.iload_n 0, 1) := by decide +kernel
theorem dX12_keptAt_10 : decode cX12_keptAt 10 = .ok (.imul, 1) := by decide +kernel
theorem dX12_keptAt_11 : decode cX12_keptAt 11 = .ok (.goto 18, 3) := by decide +kernel
theorem dX12_keptAt_14 : decode cX12_keptAt 14 = .ok (.iload_n 0, 1) := by decide +kernel
theorem dX12_keptAt_15 : decode cX12_keptAt 15 = .ok (.bipush 8, 2) := by decide +kernel
theorem dX12_keptAt_17 : decode cX12_keptAt 17 = .ok (.if_icmp .ne 9, 3) := by decide +kernel
theorem dX12_keptAt_20 : decode cX12_keptAt 20 = .ok (.sipush 16384, 3) := by decide +kernel
theorem dX12_keptAt_23 : decode cX12_keptAt 23 = .ok (.goto 6, 3) := by decide +kernel
theorem dX12_keptAt_26 : decode cX12_keptAt 26 = .ok (.sipush 16640, 3) := by decide +kernel
theorem dX12_keptAt_29 : decode cX12_keptAt 29 = .ok (.ireturn, 1) := by decide +kernel
theorem cc_keptAt : Cond.code yX12_keptAt cX12_keptAt 1 (some .int) ∈ rf_tb := rf_at 2043 (by decide +kernel) (by decide +kernel)
theorem cw_keptAt : rf_wS yX12_keptAt cX12_keptAt 1 (some .int) 481 1 := ⟨⟨rf_at 2041 (by decide +kernel) (by decide +kernel), rf_at 2042 (by decide +kernel) (by decide +kernel), cc_keptAt⟩, rfl, by decide +kernel⟩
noncomputable def bq_keptAt_0 (x0 : Int32) (ρ : rf_S) : Option (Int32 × rf_S) := (if (8:Int32) ≤ x0 then (if x0 = (8:Int32) then some ((16384:Int32), ρ) else some ((16640:Int32), ρ)) else some (((2048:Int32) * x0), ρ))
set_option maxHeartbeats 4000000 in
theorem wq_keptAt_0 (C : rf_C D p s m args meth c cX12_keptAt 1 (some .int)) {r : Int32} {x0 : Int32} {ρ ρ' : rf_S} {H : Heap} {locs : List Loc} {ls : Array Slot} (h : bq_keptAt_0 x0 ρ = some (r, ρ')) (G : rf_G D h0 s ρ H locs) (hl : lv_has ls 1 [(0, .int x0)]) : W p l e ({ frames := 0, cells := 0, slots := 0, locals := 0 }) s m args below meth c H locs 0 0 (MQ below (rf_Q D h0 (some (.int r)) ρ') args s 0 0 (rf_A h0)) (F0 m 0 ls []) := by
  unfold bq_keptAt_0 at h
  refine lv_iload_n C.1 C.2.1 dX12_keptAt_0 rfl (lv_at hl 0 rfl) ?_
  refine lv_bipush (v := (8:Int32)) C.1 C.2.1 dX12_keptAt_1 (by decide) ?_
  refine lv_icmp_ge (tgt := 14) C.1 C.2.1 dX12_keptAt_3 (by decide) (fun hc => ?_) (fun hc => ?_)
  · rw [if_pos hc] at h
    refine lv_iload_n C.1 C.2.1 dX12_keptAt_14 rfl (lv_at hl 0 rfl) ?_
    refine lv_bipush (v := (8:Int32)) C.1 C.2.1 dX12_keptAt_15 (by decide) ?_
    refine lv_icmp_ne (tgt := 26) C.1 C.2.1 dX12_keptAt_17 (by decide) (fun hc => ?_) (fun hc => ?_)
    · rw [if_neg hc] at h
      refine lv_sipush (v := (16640:Int32)) C.1 C.2.1 dX12_keptAt_26 (by decide) ?_
      exact rf_iret C G h dX12_keptAt_29
    · rw [if_pos hc] at h
      refine lv_sipush (v := (16384:Int32)) C.1 C.2.1 dX12_keptAt_20 (by decide) ?_
      refine lv_goto (tgt := 29) C.1 C.2.1 dX12_keptAt_23 (by decide) ?_
      exact rf_iret C G h dX12_keptAt_29
  · rw [if_neg hc] at h
    refine lv_sipush (v := (2048:Int32)) C.1 C.2.1 dX12_keptAt_6 (by decide) ?_
    refine lv_iload_n C.1 C.2.1 dX12_keptAt_9 rfl (lv_at hl 0 rfl) ?_
    refine lv_imul C.1 C.2.1 dX12_keptAt_10 ?_
    refine lv_goto (tgt := 29) C.1 C.2.1 dX12_keptAt_11 (by decide) ?_
    exact rf_iret C G h dX12_keptAt_29
noncomputable def fq_keptAt (x0 : Int32) (ρ : rf_S) : Option (Int32 × rf_S) := bq_keptAt_0 x0 ρ
theorem kq_keptAt (l : Launch) (D : rf_D) (h0 : Nat) {r : Int32} {x0 : Int32} {ρ ρ' : rf_S} (h : fq_keptAt x0 ρ = some (r, ρ')) : rf_Met l D h0 yX12_keptAt cX12_keptAt 1 (some .int) 0 0 [.int x0] ρ (some (.int r)) ρ' :=
  rf_of rfl cc_keptAt (Nat.le_of_ble_eq_true rfl) (fun p e s m args below meth c ls C G hl => wq_keptAt_0 C h G hl)
abbrev cX12_keep : ByteArray := prog_14_method_49_code
def yX12_keep : MethodName := ⟨RX12, "keep", "(I)I"⟩
theorem dX12_keep_0 : decode cX12_keep 0 = .ok (.iload_n 1, 1) := by decide +kernel
theorem dX12_keep_1 : decode cX12_keep 1 = .ok (.ifCond .lt 9, 3) := by decide +kernel
theorem dX12_keep_4 : decode cX12_keep 4 = .ok (.iload_n 1, 1) := by decide +kernel
theorem dX12_keep_5 : decode cX12_keep 5 = .ok (.bipush 9, 2) := by decide +kernel
theorem dX12_keep_7 : decode cX12_keep 7 = .ok (.if_icmp .le 5, 3) := by decide +kernel
theorem dX12_keep_10 : decode cX12_keep 10 = .ok (.iconst (-1), 1) := by decide +kernel
theorem dX12_keep_11 : decode cX12_keep 11 = .ok (.ireturn, 1) := by decide +kernel
theorem dX12_keep_12 : decode cX12_keep 12 = .ok (.aload_n 0, 1) := by decide +kernel
theorem dX12_keep_13 : decode cX12_keep 13 = .ok (.getfield 456, 3) := by decide +kernel
theorem dX12_keep_16 : decode cX12_keep 16 = .ok (.ifCond .eq 35, 3) := by decide +kernel
theorem dX12_keep_19 : decode cX12_keep 19 = .ok (.iload_n 1, 1) := by decide +kernel
theorem dX12_keep_20 : decode cX12_keep 20 = .ok (.bipush 8, 2) := by decide +kernel
theorem dX12_keep_22 : decode cX12_keep 22 = .ok (.if_icmp .ne 13, 3) := by decide +kernel
theorem dX12_keep_25 : decode cX12_keep 25 = .ok (.aload_n 0, 1) := by decide +kernel
theorem dX12_keep_26 : decode cX12_keep 26 = .ok (.getfield 456, 3) := by decide +kernel
theorem dX12_keep_29 : decode cX12_keep 29 = .ok (.sipush 256, 3) := by decide +kernel
theorem dX12_keep_32 : decode cX12_keep 32 = .ok (.if_icmp .gt 19, 3) := by decide +kernel
theorem dX12_keep_35 : decode cX12_keep 35 = .ok (.iload_n 1, 1) := by decide +kernel
theorem dX12_keep_36 : decode cX12_keep 36 = .ok (.bipush 9, 2) := by decide +kernel
theorem dX12_keep_38 : decode cX12_keep 38 = .ok (.if_icmp .ne 16, 3) := by decide +kernel
theorem dX12_keep_41 : decode cX12_keep 41 = .ok (.aload_n 0, 1) := by decide +kernel
theorem dX12_keep_42 : decode cX12_keep 42 = .ok (.getfield 456, 3) := by decide +kernel
theorem dX12_keep_45 : decode cX12_keep 45 = .ok (.sipush 200, 3) := by decide +kernel
theorem dX12_keep_48 : decode cX12_keep 48 = .ok (.if_icmp .le 6, 3) := by decide +kernel
theorem dX12_keep_51 : decode cX12_keep 51 = .ok (.bipush (-2), 2) := by decide +kernel
theorem dX12_keep_53 : decode cX12_keep 53 = .ok (.ireturn, 1) := by decide +kernel
theorem dX12_keep_54 : decode cX12_keep 54 = .ok (.aload_n 0, 1) := by decide +kernel
theorem dX12_keep_55 : decode cX12_keep 55 = .ok (.getfield 456, 3) := by decide +kernel
theorem dX12_keep_58 : decode cX12_keep 58 = .ok (.istore_n 2, 1) := by decide +kernel
theorem dX12_keep_59 : decode cX12_keep 59 = .ok (.iconst 0, 1) := by decide +kernel
theorem dX12_keep_60 : decode cX12_keep 60 = .ok (.istore_n 3, 1) := by decide +kernel
theorem dX12_keep_61 : decode cX12_keep 61 = .ok (.iload_n 3, 1) := by decide +kernel
theorem dX12_keep_62 : decode cX12_keep 62 = .ok (.iload_n 2, 1) := by decide +kernel
theorem dX12_keep_63 : decode cX12_keep 63 = .ok (.if_icmp .ge 26, 3) := by decide +kernel
theorem dX12_keep_66 : decode cX12_keep 66 = .ok (.aload_n 0, 1) := by decide +kernel
theorem dX12_keep_67 : decode cX12_keep 67 = .ok (.getfield 101, 3) := by decide +kernel
theorem dX12_keep_70 : decode cX12_keep 70 = .ok (.iload_n 1, 1) := by decide +kernel
theorem dX12_keep_71 : decode cX12_keep 71 = .ok (.invokestatic 481, 3) := by decide +kernel
theorem dX12_keep_74 : decode cX12_keep 74 = .ok (.iload_n 3, 1) := by decide +kernel
theorem dX12_keep_75 : decode cX12_keep 75 = .ok (.iadd, 1) := by decide +kernel
theorem dX12_keep_76 : decode cX12_keep 76 = .ok (.aload_n 0, 1) := by decide +kernel
theorem dX12_keep_77 : decode cX12_keep 77 = .ok (.getfield 71, 3) := by decide +kernel
theorem dX12_keep_80 : decode cX12_keep 80 = .ok (.iload_n 3, 1) := by decide +kernel
theorem dX12_keep_81 : decode cX12_keep 81 = .ok (.iaload, 1) := by decide +kernel
theorem dX12_keep_82 : decode cX12_keep 82 = .ok (.iastore, 1) := by decide +kernel
theorem dX12_keep_83 : decode cX12_keep 83 = .ok (.iinc 3 1, 3) := by decide +kernel
theorem dX12_keep_86 : decode cX12_keep 86 = .ok (.goto (-25), 3) := by decide +kernel
theorem dX12_keep_89 : decode cX12_keep 89 = .ok (.aload_n 0, 1) := by decide +kernel
theorem dX12_keep_90 : decode cX12_keep 90 = .ok (.getfield 104, 3) := by decide +kernel
theorem dX12_keep_93 : decode cX12_keep 93 = .ok (.iload_n 1, 1) := by decide +kernel
theorem dX12_keep_94 : decode cX12_keep 94 = .ok (.iload_n 2, 1) := by decide +kernel
theorem dX12_keep_95 : decode cX12_keep 95 = .ok (.iastore, 1) := by decide +kernel
theorem dX12_keep_96 : decode cX12_keep 96 = .ok (.aload_n 0, 1) := by decide +kernel
theorem dX12_keep_97 : decode cX12_keep 97 = .ok (.iconst 0, 1) := by decide +kernel
theorem dX12_keep_98 : decode cX12_keep 98 = .ok (.putfield 456, 3) := by decide +kernel
theorem dX12_keep_101 : decode cX12_keep 101 = .ok (.iload_n 2, 1) := by decide +kernel
theorem dX12_keep_102 : decode cX12_keep 102 = .ok (.ireturn, 1) := by decide +kernel
theorem cc_keep : Cond.code yX12_keep cX12_keep 4 (some .int) ∈ rf_tb := rf_at 2040 (by decide +kernel) (by decide +kernel)
noncomputable def lq_keep_61 (x1 : Int32) (x2 : Int32) (x3 : Int32) (ρ : rf_S) : Option ((Int32 × rf_S) ⊕ (Int32 × rf_S)) := (if x2 ≤ x3 then some (.inr (x3, ρ)) else bd2 (fq_keptAt x1 ρ) (fun r_3 ρ_2 => ix x3 2048 (ix (r_3 + x3) 17000 (vl (rf_w ρ_2 26 (r_3 + x3).toNatClampNeg (ρ_2.1 17 x3.toNatClampNeg)) (fun ρ_4 => vl (x3 + (1:Int32)) (fun x3_5 => some (.inl (x3_5, ρ_4))))))))
noncomputable def eq_keep_61 (x1 : Int32) (x2 : Int32) (x3 : Int32) (ρ : rf_S) : Option (Int32 × rf_S) := ix x1 10 (vl (rf_w ρ 27 x1.toNatClampNeg x2) (fun ρ_6 => vl (rf_w ρ_6 0 28 (0:Int32)) (fun ρ_7 => some (x2, ρ_7))))
noncomputable def bq_keep_61 (x1 : Int32) (x2 : Int32) (x3 : Int32) (ρ : rf_S) : Option (Int32 × rf_S) := (lp (fun z : (Int32 × rf_S) => lq_keep_61 x1 x2 z.1 z.2) (x3, ρ)).bind (fun z => eq_keep_61 x1 x2 z.1 z.2)
set_option maxHeartbeats 4000000 in
theorem wq_keep_61 (C : rf_C D p s m args meth c cX12_keep 4 (some .int)) {r : Int32} {x1 : Int32} {x2 : Int32} {x3 : Int32} {ρ ρ' : rf_S} {H : Heap} {locs : List Loc} {ls : Array Slot} (h : bq_keep_61 x1 x2 x3 ρ = some (r, ρ')) (G : rf_G D h0 s ρ H locs) (hl : lv_has ls 4 [(0, .ref h0), (1, .int x1), (2, .int x2), (3, .int x3)]) : W p l e ({ frames := 1, cells := 0, slots := 0, locals := 20 }) s m args below meth c H locs 0 0 (MQ below (rf_Q D h0 (some (.int r)) ρ') args s 0 0 (rf_A h0)) (F0 m 61 ls []) := by
  unfold bq_keep_61 at h
  obtain ⟨y, hy, h⟩ := bd_some h
  have hE : (fun z : (Int32 × rf_S) => ∀ (H : Heap) (locs : List Loc) (ls : Array Slot), rf_G D h0 s z.2 H locs → lv_has ls 4 [(0, .ref h0), (1, .int x1), (2, .int x2), (3, .int z.1)] → W p l e ({ frames := 1, cells := 0, slots := 0, locals := 20 }) s m args below meth c H locs 0 0 (MQ below (rf_Q D h0 (some (.int r)) ρ') args s 0 0 (rf_A h0)) (F0 m 89 ls [])) y := by
    intro H locs ls G hl
    obtain ⟨x3, ρ⟩ := y
    dsimp only at h G hl
    unfold eq_keep_61 at h
    refine lv_aload_n C.1 C.2.1 dX12_keep_89 rfl (lv_at hl 0 rfl) ?_
    refine gf_50 C G dX12_keep_90 ?_
    refine lv_iload_n C.1 C.2.1 dX12_keep_93 rfl (lv_at hl 1 rfl) ?_
    refine lv_iload_n C.1 C.2.1 dX12_keep_94 rfl (lv_at hl 2 rfl) ?_
    obtain ⟨hi, h⟩ := ix_some h
    refine rf_iast C G 27 rfl (by decide) rfl rfl hi dX12_keep_95 (fun H locs G => ?_)
    refine rf_nm G h (fun ρ_6 G h => ?_)
    refine lv_aload_n C.1 C.2.1 dX12_keep_96 rfl (lv_at hl 0 rfl) ?_
    refine lv_iconst (v := (0:Int32)) C.1 C.2.1 dX12_keep_97 (by decide) ?_
    refine pf_28 C G dX12_keep_98 (fun H locs G => ?_)
    refine rf_nm G h (fun ρ_7 G h => ?_)
    refine lv_iload_n C.1 C.2.1 dX12_keep_101 rfl (lv_at hl 2 rfl) ?_
    exact rf_iret C G h dX12_keep_102
  refine lp_recE (fun z : (Int32 × rf_S) => ∀ (H : Heap) (locs : List Loc) (ls : Array Slot), rf_G D h0 s z.2 H locs → lv_has ls 4 [(0, .ref h0), (1, .int x1), (2, .int x2), (3, .int z.1)] → W p l e ({ frames := 1, cells := 0, slots := 0, locals := 20 }) s m args below meth c H locs 0 0 (MQ below (rf_Q D h0 (some (.int r)) ρ') args s 0 0 (rf_A h0)) (F0 m 61 ls [])) (fun z : (Int32 × rf_S) => ∀ (H : Heap) (locs : List Loc) (ls : Array Slot), rf_G D h0 s z.2 H locs → lv_has ls 4 [(0, .ref h0), (1, .int x1), (2, .int x2), (3, .int z.1)] → W p l e ({ frames := 1, cells := 0, slots := 0, locals := 20 }) s m args below meth c H locs 0 0 (MQ below (rf_Q D h0 (some (.int r)) ρ') args s 0 0 (rf_A h0)) (F0 m 89 ls [])) ?_ _ _ hy hE _ _ _ G hl
  clear hE hy G hl h
  intro z o h hP H locs ls G hl
  obtain ⟨x3, ρ⟩ := z
  dsimp only at h G hl
  unfold lq_keep_61 at h
  refine lv_iload_n C.1 C.2.1 dX12_keep_61 rfl (lv_at hl 3 rfl) ?_
  refine lv_iload_n C.1 C.2.1 dX12_keep_62 rfl (lv_at hl 2 rfl) ?_
  refine lv_icmp_ge (tgt := 89) C.1 C.2.1 dX12_keep_63 (by decide) (fun hc => ?_) (fun hc => ?_)
  · rw [if_pos hc] at h
    cases h
    exact hP _ _ _ G (lv_sub hl [0, 1, 2, 3] rfl)
  · rw [if_neg hc] at h
    refine lv_aload_n C.1 C.2.1 dX12_keep_66 rfl (lv_at hl 0 rfl) ?_
    refine gf_49 C G dX12_keep_67 ?_
    refine lv_iload_n C.1 C.2.1 dX12_keep_70 rfl (lv_at hl 1 rfl) ?_
    obtain ⟨r_3, ρ_2, hq, h⟩ := bd2_some h
    refine rf_callS (rest := [.ref (h0 + 26)]) C G cw_keptAt [.int x1] _ (kq_keptAt l D h0 hq) (Nat.le_of_ble_eq_true rfl) (Nat.le_of_ble_eq_true rfl) rfl rfl hl.1 (Nat.le_of_ble_eq_true rfl) (Nat.zero_le _) (Nat.zero_le _) dX12_keep_71 (fun H locs G => ?_)
    refine W.eq (g2 := F0 m 74 ls [.int r_3, .ref (h0 + 26)]) rfl ?_
    refine lv_iload_n C.1 C.2.1 dX12_keep_74 rfl (lv_at hl 3 rfl) ?_
    refine lv_iadd C.1 C.2.1 dX12_keep_75 ?_
    refine lv_aload_n C.1 C.2.1 dX12_keep_76 rfl (lv_at hl 0 rfl) ?_
    refine gf_27 C G dX12_keep_77 ?_
    refine lv_iload_n C.1 C.2.1 dX12_keep_80 rfl (lv_at hl 3 rfl) ?_
    obtain ⟨hi, h⟩ := ix_some h
    refine rf_iald C G 17 rfl (by decide) rfl rfl hi dX12_keep_81 ?_
    obtain ⟨hi, h⟩ := ix_some h
    refine rf_iast C G 26 rfl (by decide) rfl rfl hi dX12_keep_82 (fun H locs G => ?_)
    refine rf_nm G h (fun ρ_4 G h => ?_)
    refine vl_ex h (fun x3_5 ey h => ?_)
    refine lv_iinc (v := x3_5) (lv' := [(3, .int x3_5), (0, .ref h0), (1, .int x1), (2, .int x2)]) C.1 C.2.1 dX12_keep_83 hl (k := 3) rfl (by rw [ey]; rfl) (by decide) rfl (fun ls hl => ?_)
    refine lv_goto (tgt := 61) C.1 C.2.1 dX12_keep_86 (by decide) ?_
    cases h
    exact hP _ _ _ G (lv_sub hl [1, 2, 3, 0] rfl)
noncomputable def bq_keep_54 (x1 : Int32) (ρ : rf_S) : Option (Int32 × rf_S) := vl (ρ.1 0 28) (fun x2_1 => bq_keep_61 x1 x2_1 (0:Int32) ρ)
set_option maxHeartbeats 4000000 in
theorem wq_keep_54 (C : rf_C D p s m args meth c cX12_keep 4 (some .int)) {r : Int32} {x1 : Int32} {ρ ρ' : rf_S} {H : Heap} {locs : List Loc} {ls : Array Slot} (h : bq_keep_54 x1 ρ = some (r, ρ')) (G : rf_G D h0 s ρ H locs) (hl : lv_has ls 4 [(0, .ref h0), (1, .int x1)]) : W p l e ({ frames := 1, cells := 0, slots := 0, locals := 20 }) s m args below meth c H locs 0 0 (MQ below (rf_Q D h0 (some (.int r)) ρ') args s 0 0 (rf_A h0)) (F0 m 54 ls []) := by
  unfold bq_keep_54 at h
  refine lv_aload_n C.1 C.2.1 dX12_keep_54 rfl (lv_at hl 0 rfl) ?_
  refine gf_28 C G dX12_keep_55 ?_
  refine vt_i h (fun x2_1 h => ?_)
  refine lv_istore_n (lv' := [(2, .int x2_1), (0, .ref h0), (1, .int x1)]) C.1 C.2.1 dX12_keep_58 rfl hl (by decide) rfl (fun ls hl => ?_)
  refine lv_iconst (v := (0:Int32)) C.1 C.2.1 dX12_keep_59 (by decide) ?_
  refine lv_istore_n (lv' := [(3, .int (0:Int32)), (2, .int x2_1), (0, .ref h0), (1, .int x1)]) C.1 C.2.1 dX12_keep_60 rfl hl (by decide) rfl (fun ls hl => ?_)
  exact wq_keep_61 C h G (lv_sub hl [2, 3, 1, 0] rfl)
noncomputable def bq_keep_35 (x1 : Int32) (ρ : rf_S) : Option (Int32 × rf_S) := (if x1 = (9:Int32) then (if (ρ.1 0 28) ≤ (200:Int32) then bq_keep_54 x1 ρ else some ((-2:Int32), ρ)) else bq_keep_54 x1 ρ)
set_option maxHeartbeats 4000000 in
theorem wq_keep_35 (C : rf_C D p s m args meth c cX12_keep 4 (some .int)) {r : Int32} {x1 : Int32} {ρ ρ' : rf_S} {H : Heap} {locs : List Loc} {ls : Array Slot} (h : bq_keep_35 x1 ρ = some (r, ρ')) (G : rf_G D h0 s ρ H locs) (hl : lv_has ls 4 [(0, .ref h0), (1, .int x1)]) : W p l e ({ frames := 1, cells := 0, slots := 0, locals := 20 }) s m args below meth c H locs 0 0 (MQ below (rf_Q D h0 (some (.int r)) ρ') args s 0 0 (rf_A h0)) (F0 m 35 ls []) := by
  unfold bq_keep_35 at h
  refine lv_iload_n C.1 C.2.1 dX12_keep_35 rfl (lv_at hl 1 rfl) ?_
  refine lv_bipush (v := (9:Int32)) C.1 C.2.1 dX12_keep_36 (by decide) ?_
  refine lv_icmp_ne (tgt := 54) C.1 C.2.1 dX12_keep_38 (by decide) (fun hc => ?_) (fun hc => ?_)
  · rw [if_neg hc] at h
    exact wq_keep_54 C h G (lv_sub hl [0, 1] rfl)
  · rw [if_pos hc] at h
    refine lv_aload_n C.1 C.2.1 dX12_keep_41 rfl (lv_at hl 0 rfl) ?_
    refine gf_28 C G dX12_keep_42 ?_
    refine lv_sipush (v := (200:Int32)) C.1 C.2.1 dX12_keep_45 (by decide) ?_
    refine lv_icmp_le (tgt := 54) C.1 C.2.1 dX12_keep_48 (by decide) (fun hc => ?_) (fun hc => ?_)
    · rw [if_pos hc] at h
      exact wq_keep_54 C h G (lv_sub hl [0, 1] rfl)
    · rw [if_neg hc] at h
      refine lv_bipush (v := (-2:Int32)) C.1 C.2.1 dX12_keep_51 (by decide) ?_
      exact rf_iret C G h dX12_keep_53
noncomputable def bq_keep_0 (x1 : Int32) (ρ : rf_S) : Option (Int32 × rf_S) := (if x1 < 0 then some ((-1:Int32), ρ) else (if x1 ≤ (9:Int32) then (if (ρ.1 0 28) = 0 then some ((-2:Int32), ρ) else (if x1 = (8:Int32) then (if (256:Int32) < (ρ.1 0 28) then some ((-2:Int32), ρ) else bq_keep_35 x1 ρ) else bq_keep_35 x1 ρ)) else some ((-1:Int32), ρ)))
set_option maxHeartbeats 4000000 in
theorem wq_keep_0 (C : rf_C D p s m args meth c cX12_keep 4 (some .int)) {r : Int32} {x1 : Int32} {ρ ρ' : rf_S} {H : Heap} {locs : List Loc} {ls : Array Slot} (h : bq_keep_0 x1 ρ = some (r, ρ')) (G : rf_G D h0 s ρ H locs) (hl : lv_has ls 4 [(0, .ref h0), (1, .int x1)]) : W p l e ({ frames := 1, cells := 0, slots := 0, locals := 20 }) s m args below meth c H locs 0 0 (MQ below (rf_Q D h0 (some (.int r)) ρ') args s 0 0 (rf_A h0)) (F0 m 0 ls []) := by
  unfold bq_keep_0 at h
  refine lv_iload_n C.1 C.2.1 dX12_keep_0 rfl (lv_at hl 1 rfl) ?_
  refine lv_if_lt (tgt := 10) C.1 C.2.1 dX12_keep_1 (by decide) (fun hc => ?_) (fun hc => ?_)
  · rw [if_pos hc] at h
    refine lv_iconst (v := (-1:Int32)) C.1 C.2.1 dX12_keep_10 (by decide) ?_
    exact rf_iret C G h dX12_keep_11
  · rw [if_neg hc] at h
    refine lv_iload_n C.1 C.2.1 dX12_keep_4 rfl (lv_at hl 1 rfl) ?_
    refine lv_bipush (v := (9:Int32)) C.1 C.2.1 dX12_keep_5 (by decide) ?_
    refine lv_icmp_le (tgt := 12) C.1 C.2.1 dX12_keep_7 (by decide) (fun hc => ?_) (fun hc => ?_)
    · rw [if_pos hc] at h
      refine lv_aload_n C.1 C.2.1 dX12_keep_12 rfl (lv_at hl 0 rfl) ?_
      refine gf_28 C G dX12_keep_13 ?_
      refine lv_if_eq (tgt := 51) C.1 C.2.1 dX12_keep_16 (by decide) (fun hc => ?_) (fun hc => ?_)
      · rw [if_pos hc] at h
        refine lv_bipush (v := (-2:Int32)) C.1 C.2.1 dX12_keep_51 (by decide) ?_
        exact rf_iret C G h dX12_keep_53
      · rw [if_neg hc] at h
        refine lv_iload_n C.1 C.2.1 dX12_keep_19 rfl (lv_at hl 1 rfl) ?_
        refine lv_bipush (v := (8:Int32)) C.1 C.2.1 dX12_keep_20 (by decide) ?_
        refine lv_icmp_ne (tgt := 35) C.1 C.2.1 dX12_keep_22 (by decide) (fun hc => ?_) (fun hc => ?_)
        · rw [if_neg hc] at h
          exact wq_keep_35 C h G (lv_sub hl [0, 1] rfl)
        · rw [if_pos hc] at h
          refine lv_aload_n C.1 C.2.1 dX12_keep_25 rfl (lv_at hl 0 rfl) ?_
          refine gf_28 C G dX12_keep_26 ?_
          refine lv_sipush (v := (256:Int32)) C.1 C.2.1 dX12_keep_29 (by decide) ?_
          refine lv_icmp_gt (tgt := 51) C.1 C.2.1 dX12_keep_32 (by decide) (fun hc => ?_) (fun hc => ?_)
          · rw [if_pos hc] at h
            refine lv_bipush (v := (-2:Int32)) C.1 C.2.1 dX12_keep_51 (by decide) ?_
            exact rf_iret C G h dX12_keep_53
          · rw [if_neg hc] at h
            exact wq_keep_35 C h G (lv_sub hl [0, 1] rfl)
    · rw [if_neg hc] at h
      refine lv_iconst (v := (-1:Int32)) C.1 C.2.1 dX12_keep_10 (by decide) ?_
      exact rf_iret C G h dX12_keep_11
noncomputable def fq_keep (x1 : Int32) (ρ : rf_S) : Option (Int32 × rf_S) := bq_keep_0 x1 ρ
theorem kq_keep (l : Launch) (D : rf_D) (h0 : Nat) {r : Int32} {x1 : Int32} {ρ ρ' : rf_S} (h : fq_keep x1 ρ = some (r, ρ')) : rf_Met l D h0 yX12_keep cX12_keep 4 (some .int) 1 20 [.ref h0, .int x1] ρ (some (.int r)) ρ' :=
  rf_of rfl cc_keep (Nat.le_of_ble_eq_true rfl) (fun p e s m args below meth c ls C G hl => wq_keep_0 C h G hl)
abbrev cX12_reach : ByteArray := prog_14_method_51_code
def yX12_reach : MethodName := ⟨RX12, "reach", "(II)V"⟩
theorem dX12_reach_0 : decode cX12_reach 0 = .ok (.iload_n 1, 1) := by decide +kernel
theorem dX12_reach_1 : decode cX12_reach 1 = .ok (.ifCond .lt 8, 3) := by decide +kernel
theorem dX12_reach_4 : decode cX12_reach 4 = .ok (.iload_n 1, 1) := by decide +kernel
theorem dX12_reach_5 : decode cX12_reach 5 = .ok (.iload_n 2, 1) := by decide +kernel
theorem dX12_reach_6 : decode cX12_reach 6 = .ok (.if_icmp .lt 36, 3) := by decide +kernel
theorem dX12_reach_9 : decode cX12_reach 9 = .ok (.iload_n 1, 1) := by decide +kernel
theorem dX12_reach_10 : decode cX12_reach 10 = .ok (.ifCond .ge 7, 3) := by decide +kernel
theorem dX12_reach_13 : decode cX12_reach 13 = .ok (.iconst 0, 1) := by decide +kernel
theorem dX12_reach_14 : decode cX12_reach 14 = .ok (.goto 4, 3) := by decide +kernel
theorem dX12_reach_17 : decode cX12_reach 17 = .ok (.iload_n 1, 1) := by decide +kernel
theorem dX12_reach_18 : decode cX12_reach 18 = .ok (.istore_n 3, 1) := by decide +kernel
theorem dX12_reach_19 : decode cX12_reach 19 = .ok (.aload_n 0, 1) := by decide +kernel
theorem dX12_reach_20 : decode cX12_reach 20 = .ok (.iload_n 3, 1) := by decide +kernel
theorem dX12_reach_21 : decode cX12_reach 21 = .ok (.aload_n 0, 1) := by decide +kernel
theorem dX12_reach_22 : decode cX12_reach 22 = .ok (.getfield 484, 3) := by decide +kernel
theorem dX12_reach_25 : decode cX12_reach 25 = .ok (.if_icmp .ge 7, 3) := by decide +kernel
theorem dX12_reach_28 : decode cX12_reach 28 = .ok (.iload_n 3, 1) := by decide +kernel
theorem dX12_reach_29 : decode cX12_reach 29 = .ok (.goto 7, 3) := by decide +kernel
theorem dX12_reach_32 : decode cX12_reach 32 = .ok (.aload_n 0, 1) := by decide +kernel
theorem dX12_reach_33 : decode cX12_reach 33 = .ok (.getfield 484, 3) := by decide +kernel
theorem dX12_reach_36 : decode cX12_reach 36 = .ok (.putfield 484, 3) := by decide +kernel
theorem dX12_reach_39 : decode cX12_reach 39 = .ok (.goto 39, 3) := by decide +kernel
theorem dX12_reach_42 : decode cX12_reach 42 = .ok (.aload_n 0, 1) := by decide +kernel
theorem dX12_reach_43 : decode cX12_reach 43 = .ok (.getfield 254, 3) := by decide +kernel
theorem dX12_reach_46 : decode cX12_reach 46 = .ok (.iload_n 1, 1) := by decide +kernel
theorem dX12_reach_47 : decode cX12_reach 47 = .ok (.baload, 1) := by decide +kernel
theorem dX12_reach_48 : decode cX12_reach 48 = .ok (.ifCond .ne 30, 3) := by decide +kernel
theorem dX12_reach_51 : decode cX12_reach 51 = .ok (.aload_n 0, 1) := by decide +kernel
theorem dX12_reach_52 : decode cX12_reach 52 = .ok (.getfield 254, 3) := by decide +kernel
theorem dX12_reach_55 : decode cX12_reach 55 = .ok (.iload_n 1, 1) := by decide +kernel
theorem dX12_reach_56 : decode cX12_reach 56 = .ok (.iconst 1, 1) := by decide +kernel
theorem dX12_reach_57 : decode cX12_reach 57 = .ok (.bastore, 1) := by decide +kernel
theorem dX12_reach_58 : decode cX12_reach 58 = .ok (.aload_n 0, 1) := by decide +kernel
theorem dX12_reach_59 : decode cX12_reach 59 = .ok (.getfield 257, 3) := by decide +kernel
theorem dX12_reach_62 : decode cX12_reach 62 = .ok (.aload_n 0, 1) := by decide +kernel
theorem dX12_reach_63 : decode cX12_reach 63 = .ok (.getfield 487, 3) := by decide +kernel
theorem dX12_reach_66 : decode cX12_reach 66 = .ok (.iload_n 1, 1) := by decide +kernel
theorem dX12_reach_67 : decode cX12_reach 67 = .ok (.iastore, 1) := by decide +kernel
theorem dX12_reach_68 : decode cX12_reach 68 = .ok (.aload_n 0, 1) := by decide +kernel
theorem dX12_reach_69 : decode cX12_reach 69 = .ok (.dup, 1) := by decide +kernel
theorem dX12_reach_70 : decode cX12_reach 70 = .ok (.getfield 487, 3) := by decide +kernel
theorem dX12_reach_73 : decode cX12_reach 73 = .ok (.iconst 1, 1) := by decide +kernel
theorem dX12_reach_74 : decode cX12_reach 74 = .ok (.iadd, 1) := by decide +kernel
theorem dX12_reach_75 : decode cX12_reach 75 = .ok (.putfield 487, 3) := by decide +kernel
theorem dX12_reach_78 : decode cX12_reach 78 = .ok (.return_, 1) := by decide +kernel
theorem cc_reach : Cond.code yX12_reach cX12_reach 4 none ∈ rf_tb := rf_at 2052 (by decide +kernel) (by decide +kernel)
theorem cw_reach : rf_wV yX12_reach cX12_reach 4 none 494 2 := ⟨⟨rf_at 2049 (by decide +kernel) (by decide +kernel), rf_at 2051 (by decide +kernel) (by decide +kernel), rf_sel (q := (yX12_reach, 122)) 99 (by decide +kernel) (by decide +kernel), cc_reach⟩, rfl, by decide +kernel⟩
noncomputable def bq_reach_36 (v1 : Int32) (ρ : rf_S) : Option (rf_S) := vl (rf_w ρ 0 114 v1) (fun ρ_1 => some ρ_1)
set_option maxHeartbeats 4000000 in
theorem wq_reach_36 (C : rf_C D p s m args meth c cX12_reach 4 none) {v1 : Int32} {ρ ρ' : rf_S} {H : Heap} {locs : List Loc} {ls : Array Slot} (h : bq_reach_36 v1 ρ = some ρ') (G : rf_G D h0 s ρ H locs) (hl : lv_has ls 4 [(0, .ref h0)]) : W p l e ({ frames := 0, cells := 0, slots := 0, locals := 0 }) s m args below meth c H locs 0 0 (MQ below (rf_Q D h0 none ρ') args s 0 0 (rf_A h0)) (F0 m 36 ls [.int v1, .ref h0]) := by
  unfold bq_reach_36 at h
  refine pf_114 C G dX12_reach_36 (fun H locs G => ?_)
  refine rf_nm G h (fun ρ_1 G h => ?_)
  refine lv_goto (tgt := 78) C.1 C.2.1 dX12_reach_39 (by decide) ?_
  exact rf_vret C G h dX12_reach_78
noncomputable def bq_reach_18 (v0 : Int32) (ρ : rf_S) : Option (rf_S) := (if (ρ.1 0 114) ≤ v0 then bq_reach_36 (ρ.1 0 114) ρ else bq_reach_36 v0 ρ)
set_option maxHeartbeats 4000000 in
theorem wq_reach_18 (C : rf_C D p s m args meth c cX12_reach 4 none) {v0 : Int32} {ρ ρ' : rf_S} {H : Heap} {locs : List Loc} {ls : Array Slot} (h : bq_reach_18 v0 ρ = some ρ') (G : rf_G D h0 s ρ H locs) (hl : lv_has ls 4 [(0, .ref h0)]) : W p l e ({ frames := 0, cells := 0, slots := 0, locals := 0 }) s m args below meth c H locs 0 0 (MQ below (rf_Q D h0 none ρ') args s 0 0 (rf_A h0)) (F0 m 18 ls [.int v0]) := by
  unfold bq_reach_18 at h
  refine lv_istore_n (lv' := [(3, .int v0), (0, .ref h0)]) C.1 C.2.1 dX12_reach_18 rfl hl (by decide) rfl (fun ls hl => ?_)
  refine lv_aload_n C.1 C.2.1 dX12_reach_19 rfl (lv_at hl 1 rfl) ?_
  refine lv_iload_n C.1 C.2.1 dX12_reach_20 rfl (lv_at hl 0 rfl) ?_
  refine lv_aload_n C.1 C.2.1 dX12_reach_21 rfl (lv_at hl 1 rfl) ?_
  refine gf_114 C G dX12_reach_22 ?_
  refine lv_icmp_ge (tgt := 32) C.1 C.2.1 dX12_reach_25 (by decide) (fun hc => ?_) (fun hc => ?_)
  · rw [if_pos hc] at h
    refine lv_aload_n C.1 C.2.1 dX12_reach_32 rfl (lv_at hl 1 rfl) ?_
    refine gf_114 C G dX12_reach_33 ?_
    exact wq_reach_36 C h G (lv_sub hl [1] rfl)
  · rw [if_neg hc] at h
    refine lv_iload_n C.1 C.2.1 dX12_reach_28 rfl (lv_at hl 0 rfl) ?_
    refine lv_goto (tgt := 36) C.1 C.2.1 dX12_reach_29 (by decide) ?_
    exact wq_reach_36 C h G (lv_sub hl [1] rfl)
noncomputable def bq_reach_9 (x1 : Int32) (ρ : rf_S) : Option (rf_S) := (if 0 ≤ x1 then bq_reach_18 x1 ρ else bq_reach_18 (0:Int32) ρ)
set_option maxHeartbeats 4000000 in
theorem wq_reach_9 (C : rf_C D p s m args meth c cX12_reach 4 none) {x1 : Int32} {ρ ρ' : rf_S} {H : Heap} {locs : List Loc} {ls : Array Slot} (h : bq_reach_9 x1 ρ = some ρ') (G : rf_G D h0 s ρ H locs) (hl : lv_has ls 4 [(0, .ref h0), (1, .int x1)]) : W p l e ({ frames := 0, cells := 0, slots := 0, locals := 0 }) s m args below meth c H locs 0 0 (MQ below (rf_Q D h0 none ρ') args s 0 0 (rf_A h0)) (F0 m 9 ls []) := by
  unfold bq_reach_9 at h
  refine lv_iload_n C.1 C.2.1 dX12_reach_9 rfl (lv_at hl 1 rfl) ?_
  refine lv_if_ge (tgt := 17) C.1 C.2.1 dX12_reach_10 (by decide) (fun hc => ?_) (fun hc => ?_)
  · rw [if_pos hc] at h
    refine lv_iload_n C.1 C.2.1 dX12_reach_17 rfl (lv_at hl 1 rfl) ?_
    exact wq_reach_18 C h G (lv_sub hl [0] rfl)
  · rw [if_neg hc] at h
    refine lv_iconst (v := (0:Int32)) C.1 C.2.1 dX12_reach_13 (by decide) ?_
    refine lv_goto (tgt := 18) C.1 C.2.1 dX12_reach_14 (by decide) ?_
    exact wq_reach_18 C h G (lv_sub hl [0] rfl)
noncomputable def bq_reach_0 (x1 : Int32) (x2 : Int32) (ρ : rf_S) : Option (rf_S) := (if x1 < 0 then bq_reach_9 x1 ρ else (if x1 < x2 then ix x1 2048 ((if (ρ.1 77 x1.toNatClampNeg) = 0 then ix x1 2048 (vl (rf_w ρ 77 x1.toNatClampNeg (vp_nar .boolean (1:Int32))) (fun ρ_2 => ix (ρ_2.1 0 113) 4100 (vl (rf_w ρ_2 78 (ρ_2.1 0 113).toNatClampNeg x1) (fun ρ_3 => vl (rf_w ρ_3 0 113 ((ρ_3.1 0 113) + (1:Int32))) (fun ρ_4 => some ρ_4))))) else some ρ)) else bq_reach_9 x1 ρ))
set_option maxHeartbeats 4000000 in
theorem wq_reach_0 (C : rf_C D p s m args meth c cX12_reach 4 none) {x1 : Int32} {x2 : Int32} {ρ ρ' : rf_S} {H : Heap} {locs : List Loc} {ls : Array Slot} (h : bq_reach_0 x1 x2 ρ = some ρ') (G : rf_G D h0 s ρ H locs) (hl : lv_has ls 4 [(0, .ref h0), (1, .int x1), (2, .int x2)]) : W p l e ({ frames := 0, cells := 0, slots := 0, locals := 0 }) s m args below meth c H locs 0 0 (MQ below (rf_Q D h0 none ρ') args s 0 0 (rf_A h0)) (F0 m 0 ls []) := by
  unfold bq_reach_0 at h
  refine lv_iload_n C.1 C.2.1 dX12_reach_0 rfl (lv_at hl 1 rfl) ?_
  refine lv_if_lt (tgt := 9) C.1 C.2.1 dX12_reach_1 (by decide) (fun hc => ?_) (fun hc => ?_)
  · rw [if_pos hc] at h
    exact wq_reach_9 C h G (lv_sub hl [0, 1] rfl)
  · rw [if_neg hc] at h
    refine lv_iload_n C.1 C.2.1 dX12_reach_4 rfl (lv_at hl 1 rfl) ?_
    refine lv_iload_n C.1 C.2.1 dX12_reach_5 rfl (lv_at hl 2 rfl) ?_
    refine lv_icmp_lt (tgt := 42) C.1 C.2.1 dX12_reach_6 (by decide) (fun hc => ?_) (fun hc => ?_)
    · rw [if_pos hc] at h
      refine lv_aload_n C.1 C.2.1 dX12_reach_42 rfl (lv_at hl 0 rfl) ?_
      refine gf_111 C G dX12_reach_43 ?_
      refine lv_iload_n C.1 C.2.1 dX12_reach_46 rfl (lv_at hl 1 rfl) ?_
      obtain ⟨hi, h⟩ := ix_some h
      refine rf_zald C G 77 rfl (by decide) rfl rfl hi dX12_reach_47 ?_
      refine lv_if_ne (tgt := 78) C.1 C.2.1 dX12_reach_48 (by decide) (fun hc => ?_) (fun hc => ?_)
      · rw [if_neg hc] at h
        exact rf_vret C G h dX12_reach_78
      · rw [if_pos hc] at h
        refine lv_aload_n C.1 C.2.1 dX12_reach_51 rfl (lv_at hl 0 rfl) ?_
        refine gf_111 C G dX12_reach_52 ?_
        refine lv_iload_n C.1 C.2.1 dX12_reach_55 rfl (lv_at hl 1 rfl) ?_
        refine lv_iconst (v := (1:Int32)) C.1 C.2.1 dX12_reach_56 (by decide) ?_
        obtain ⟨hi, h⟩ := ix_some h
        refine rf_zast C G 77 rfl (by decide) rfl rfl hi dX12_reach_57 (fun H locs G => ?_)
        refine rf_nm G h (fun ρ_2 G h => ?_)
        refine lv_aload_n C.1 C.2.1 dX12_reach_58 rfl (lv_at hl 0 rfl) ?_
        refine gf_112 C G dX12_reach_59 ?_
        refine lv_aload_n C.1 C.2.1 dX12_reach_62 rfl (lv_at hl 0 rfl) ?_
        refine gf_113 C G dX12_reach_63 ?_
        refine lv_iload_n C.1 C.2.1 dX12_reach_66 rfl (lv_at hl 1 rfl) ?_
        obtain ⟨hi, h⟩ := ix_some h
        refine rf_iast C G 78 rfl (by decide) rfl rfl hi dX12_reach_67 (fun H locs G => ?_)
        refine rf_nm G h (fun ρ_3 G h => ?_)
        refine lv_aload_n C.1 C.2.1 dX12_reach_68 rfl (lv_at hl 0 rfl) ?_
        refine lv_dup C.1 C.2.1 dX12_reach_69 rfl ?_
        refine gf_113 C G dX12_reach_70 ?_
        refine lv_iconst (v := (1:Int32)) C.1 C.2.1 dX12_reach_73 (by decide) ?_
        refine lv_iadd C.1 C.2.1 dX12_reach_74 ?_
        refine pf_113 C G dX12_reach_75 (fun H locs G => ?_)
        refine rf_nm G h (fun ρ_4 G h => ?_)
        exact rf_vret C G h dX12_reach_78
    · rw [if_neg hc] at h
      exact wq_reach_9 C h G (lv_sub hl [0, 1] rfl)
noncomputable def fq_reach (x1 : Int32) (x2 : Int32) (ρ : rf_S) : Option (rf_S) := bq_reach_0 x1 x2 ρ
theorem kq_reach (l : Launch) (D : rf_D) (h0 : Nat) {x1 : Int32} {x2 : Int32} {ρ ρ' : rf_S} (h : fq_reach x1 x2 ρ = some ρ') : rf_Met l D h0 yX12_reach cX12_reach 4 none 0 0 [.ref h0, .int x1, .int x2] ρ none ρ' :=
  rf_of rfl cc_reach (Nat.le_of_ble_eq_true rfl) (fun p e s m args below meth c ls C G hl => wq_reach_0 C h G hl)
abbrev cX12_widthOf : ByteArray := prog_14_method_52_code
def yX12_widthOf : MethodName := ⟨RX12, "widthOf", "(I)I"⟩
theorem dX12_widthOf_0 : decode cX12_widthOf 0 = .ok (.iload_n 0, 1) := by decide +kernel
theorem dX12_widthOf_1 : decode cX12_widthOf 1 = .ok (.bipush 22, 2) := by decide +kernel
theorem dX12_widthOf_3 : decode cX12_widthOf 3 = .ok (.if_icmp .eq 9, 3) := by decide +kernel
theorem dX12_widthOf_6 : decode cX12_widthOf 6 = .ok (.iload_n 0, 1) := by decide +kernel
theorem dX12_widthOf_7 : decode cX12_widthOf 7 = .ok (.bipush 27, 2) := by decide +kernel
theorem dX12_widthOf_9 : decode cX12_widthOf 9 = .ok (.if_icmp .ne 7, 3) := by decide +kernel
theorem dX12_widthOf_12 : decode cX12_widthOf 12 = .ok (.iconst 4, 1) := by decide +kernel
theorem dX12_widthOf_13 : decode cX12_widthOf 13 = .ok (.goto 26, 3) := by decide +kernel
theorem dX12_widthOf_16 : decode cX12_widthOf 16 = .ok (.iload_n 0, 1) := by decide +kernel
theorem dX12_widthOf_17 : decode cX12_widthOf 17 = .ok (.bipush 23, 2) := by decide +kernel
theorem dX12_widthOf_19 : decode cX12_widthOf 19 = .ok (.if_icmp .eq 15, 3) := by decide +kernel
theorem dX12_widthOf_22 : decode cX12_widthOf 22 = .ok (.iload_n 0, 1) := by decide +kernel
theorem dX12_widthOf_23 : decode cX12_widthOf 23 = .ok (.bipush 24, 2) := by decide +kernel
theorem dX12_widthOf_25 : decode cX12_widthOf 25 = .ok (.if_icmp .eq 9, 3) := by decide +kernel
theorem dX12_widthOf_28 : decode cX12_widthOf 28 = .ok (.iload_n 0, 1) := by decide +kernel
theorem dX12_widthOf_29 : decode cX12_widthOf 29 = .ok (.bipush 28, 2) := by decide +kernel
theorem dX12_widthOf_31 : decode cX12_widthOf 31 = .ok (.if_icmp .ne 7, 3) := by decide +kernel
theorem dX12_widthOf_34 : decode cX12_widthOf 34 = .ok (.iconst 2, 1) := by decide +kernel
theorem dX12_widthOf_35 : decode cX12_widthOf 35 = .ok (.goto 4, 3) := by decide +kernel
theorem dX12_widthOf_38 : decode cX12_widthOf 38 = .ok (.iconst 1, 1) := by decide +kernel
theorem dX12_widthOf_39 : decode cX12_widthOf 39 = .ok (.ireturn, 1) := by decide +kernel
theorem cc_widthOf : Cond.code yX12_widthOf cX12_widthOf 1 (some .int) ∈ rf_tb := rf_at 2059 (by decide +kernel) (by decide +kernel)
theorem cw_widthOf : rf_wS yX12_widthOf cX12_widthOf 1 (some .int) 490 1 := ⟨⟨rf_at 2057 (by decide +kernel) (by decide +kernel), rf_at 2058 (by decide +kernel) (by decide +kernel), cc_widthOf⟩, rfl, by decide +kernel⟩
noncomputable def bq_widthOf_0 (x0 : Int32) (ρ : rf_S) : Option (Int32 × rf_S) := (if x0 = (22:Int32) then some ((4:Int32), ρ) else (if x0 = (27:Int32) then some ((4:Int32), ρ) else (if x0 = (23:Int32) then some ((2:Int32), ρ) else (if x0 = (24:Int32) then some ((2:Int32), ρ) else (if x0 = (28:Int32) then some ((2:Int32), ρ) else some ((1:Int32), ρ))))))
set_option maxHeartbeats 4000000 in
theorem wq_widthOf_0 (C : rf_C D p s m args meth c cX12_widthOf 1 (some .int)) {r : Int32} {x0 : Int32} {ρ ρ' : rf_S} {H : Heap} {locs : List Loc} {ls : Array Slot} (h : bq_widthOf_0 x0 ρ = some (r, ρ')) (G : rf_G D h0 s ρ H locs) (hl : lv_has ls 1 [(0, .int x0)]) : W p l e ({ frames := 0, cells := 0, slots := 0, locals := 0 }) s m args below meth c H locs 0 0 (MQ below (rf_Q D h0 (some (.int r)) ρ') args s 0 0 (rf_A h0)) (F0 m 0 ls []) := by
  unfold bq_widthOf_0 at h
  refine lv_iload_n C.1 C.2.1 dX12_widthOf_0 rfl (lv_at hl 0 rfl) ?_
  refine lv_bipush (v := (22:Int32)) C.1 C.2.1 dX12_widthOf_1 (by decide) ?_
  refine lv_icmp_eq (tgt := 12) C.1 C.2.1 dX12_widthOf_3 (by decide) (fun hc => ?_) (fun hc => ?_)
  · rw [if_pos hc] at h
    refine lv_iconst (v := (4:Int32)) C.1 C.2.1 dX12_widthOf_12 (by decide) ?_
    refine lv_goto (tgt := 39) C.1 C.2.1 dX12_widthOf_13 (by decide) ?_
    exact rf_iret C G h dX12_widthOf_39
  · rw [if_neg hc] at h
    refine lv_iload_n C.1 C.2.1 dX12_widthOf_6 rfl (lv_at hl 0 rfl) ?_
    refine lv_bipush (v := (27:Int32)) C.1 C.2.1 dX12_widthOf_7 (by decide) ?_
    refine lv_icmp_ne (tgt := 16) C.1 C.2.1 dX12_widthOf_9 (by decide) (fun hc => ?_) (fun hc => ?_)
    · rw [if_neg hc] at h
      refine lv_iload_n C.1 C.2.1 dX12_widthOf_16 rfl (lv_at hl 0 rfl) ?_
      refine lv_bipush (v := (23:Int32)) C.1 C.2.1 dX12_widthOf_17 (by decide) ?_
      refine lv_icmp_eq (tgt := 34) C.1 C.2.1 dX12_widthOf_19 (by decide) (fun hc => ?_) (fun hc => ?_)
      · rw [if_pos hc] at h
        refine lv_iconst (v := (2:Int32)) C.1 C.2.1 dX12_widthOf_34 (by decide) ?_
        refine lv_goto (tgt := 39) C.1 C.2.1 dX12_widthOf_35 (by decide) ?_
        exact rf_iret C G h dX12_widthOf_39
      · rw [if_neg hc] at h
        refine lv_iload_n C.1 C.2.1 dX12_widthOf_22 rfl (lv_at hl 0 rfl) ?_
        refine lv_bipush (v := (24:Int32)) C.1 C.2.1 dX12_widthOf_23 (by decide) ?_
        refine lv_icmp_eq (tgt := 34) C.1 C.2.1 dX12_widthOf_25 (by decide) (fun hc => ?_) (fun hc => ?_)
        · rw [if_pos hc] at h
          refine lv_iconst (v := (2:Int32)) C.1 C.2.1 dX12_widthOf_34 (by decide) ?_
          refine lv_goto (tgt := 39) C.1 C.2.1 dX12_widthOf_35 (by decide) ?_
          exact rf_iret C G h dX12_widthOf_39
        · rw [if_neg hc] at h
          refine lv_iload_n C.1 C.2.1 dX12_widthOf_28 rfl (lv_at hl 0 rfl) ?_
          refine lv_bipush (v := (28:Int32)) C.1 C.2.1 dX12_widthOf_29 (by decide) ?_
          refine lv_icmp_ne (tgt := 38) C.1 C.2.1 dX12_widthOf_31 (by decide) (fun hc => ?_) (fun hc => ?_)
          · rw [if_neg hc] at h
            refine lv_iconst (v := (1:Int32)) C.1 C.2.1 dX12_widthOf_38 (by decide) ?_
            exact rf_iret C G h dX12_widthOf_39
          · rw [if_pos hc] at h
            refine lv_iconst (v := (2:Int32)) C.1 C.2.1 dX12_widthOf_34 (by decide) ?_
            refine lv_goto (tgt := 39) C.1 C.2.1 dX12_widthOf_35 (by decide) ?_
            exact rf_iret C G h dX12_widthOf_39
    · rw [if_pos hc] at h
      refine lv_iconst (v := (4:Int32)) C.1 C.2.1 dX12_widthOf_12 (by decide) ?_
      refine lv_goto (tgt := 39) C.1 C.2.1 dX12_widthOf_13 (by decide) ?_
      exact rf_iret C G h dX12_widthOf_39
noncomputable def fq_widthOf (x0 : Int32) (ρ : rf_S) : Option (Int32 × rf_S) := bq_widthOf_0 x0 ρ
theorem kq_widthOf (l : Launch) (D : rf_D) (h0 : Nat) {r : Int32} {x0 : Int32} {ρ ρ' : rf_S} (h : fq_widthOf x0 ρ = some (r, ρ')) : rf_Met l D h0 yX12_widthOf cX12_widthOf 1 (some .int) 0 0 [.int x0] ρ (some (.int r)) ρ' :=
  rf_of rfl cc_widthOf (Nat.le_of_ble_eq_true rfl) (fun p e s m args below meth c ls C G hl => wq_widthOf_0 C h G hl)
end RQ4
