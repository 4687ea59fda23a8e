section RQ0
variable {p : Program} {l : Launch} {e : Env} {s : State} {m : MethodId} {args : Array Value} {below : List Frame} {meth : Method} {c : Code} {D : rf_D} {h0 : Nat}
abbrev cX12_hash : ByteArray := prog_14_method_2_code
def yX12_hash : MethodName := ⟨RX12, "hash", "(IIII)I"⟩
theorem dX12_hash_0 : decode cX12_hash 0 = .ok (.iload_n 0, 1) := by decide +kernel
theorem dX12_hash_1 : decode cX12_hash 1 = .ok (.ldc_w 287, 3) := by decide +kernel
theorem dX12_hash_4 : decode cX12_hash 4 = .ok (.imul, 1) := by decide +kernel
theorem dX12_hash_5 : decode cX12_hash 5 = .ok (.iload_n 1, 1) := by decide +kernel
theorem dX12_hash_6 : decode cX12_hash 6 = .ok (.iadd, 1) := by decide +kernel
theorem dX12_hash_7 : decode cX12_hash 7 = .ok (.istore 4, 2) := by decide +kernel
theorem dX12_hash_9 : decode cX12_hash 9 = .ok (.iload 4, 2) := by decide +kernel
theorem dX12_hash_11 : decode cX12_hash 11 = .ok (.iload 4, 2) := by decide +kernel
theorem dX12_hash_13 : decode cX12_hash 13 = .ok (.bipush 15, 2) := by decide +kernel
theorem dX12_hash_15 : decode cX12_hash 15 = .ok (.iushr, 1) := by decide +kernel
theorem dX12_hash_16 : decode cX12_hash 16 = .ok (.ixor, 1) := by decide +kernel
theorem dX12_hash_17 : decode cX12_hash 17 = .ok (.ldc_w 288, 3) := by decide +kernel
theorem dX12_hash_20 : decode cX12_hash 20 = .ok (.imul, 1) := by decide +kernel
theorem dX12_hash_21 : decode cX12_hash 21 = .ok (.iload_n 2, 1) := by decide +kernel
theorem dX12_hash_22 : decode cX12_hash 22 = .ok (.iadd, 1) := by decide +kernel
theorem dX12_hash_23 : decode cX12_hash 23 = .ok (.istore 4, 2) := by decide +kernel
theorem dX12_hash_25 : decode cX12_hash 25 = .ok (.iload 4, 2) := by decide +kernel
theorem dX12_hash_27 : decode cX12_hash 27 = .ok (.iload 4, 2) := by decide +kernel
theorem dX12_hash_29 : decode cX12_hash 29 = .ok (.bipush 13, 2) := by decide +kernel
theorem dX12_hash_31 : decode cX12_hash 31 = .ok (.iushr, 1) := by decide +kernel
theorem dX12_hash_32 : decode cX12_hash 32 = .ok (.ixor, 1) := by decide +kernel
theorem dX12_hash_33 : decode cX12_hash 33 = .ok (.ldc_w 289, 3) := by decide +kernel
theorem dX12_hash_36 : decode cX12_hash 36 = .ok (.imul, 1) := by decide +kernel
theorem dX12_hash_37 : decode cX12_hash 37 = .ok (.iload_n 3, 1) := by decide +kernel
theorem dX12_hash_38 : decode cX12_hash 38 = .ok (.iadd, 1) := by decide +kernel
theorem dX12_hash_39 : decode cX12_hash 39 = .ok (.istore 4, 2) := by decide +kernel
theorem dX12_hash_41 : decode cX12_hash 41 = .ok (.iload 4, 2) := by decide +kernel
theorem dX12_hash_43 : decode cX12_hash 43 = .ok (.iload 4, 2) := by decide +kernel
theorem dX12_hash_45 : decode cX12_hash 45 = .ok (.bipush 16, 2) := by decide +kernel
theorem dX12_hash_47 : decode cX12_hash 47 = .ok (.iushr, 1) := by decide +kernel
theorem dX12_hash_48 : decode cX12_hash 48 = .ok (.ixor, 1) := by decide +kernel
theorem dX12_hash_49 : decode cX12_hash 49 = .ok (.sipush 16383, 3) := by decide +kernel
theorem dX12_hash_52 : decode cX12_hash 52 = .ok (.iand, 1) := by decide +kernel
theorem dX12_hash_53 : decode cX12_hash 53 = .ok (.ireturn, 1) := by decide +kernel
theorem cc_hash : Cond.code yX12_hash cX12_hash 5 (some .int) ∈ rf_tb := rf_at 1526 (by decide +kernel) (by decide +kernel)
theorem cw_hash : rf_wS yX12_hash cX12_hash 5 (some .int) 290 4 := ⟨⟨rf_at 1524 (by decide +kernel) (by decide +kernel), rf_at 1525 (by decide +kernel) (by decide +kernel), cc_hash⟩, rfl, by decide +kernel⟩
theorem kc_287 : Cond.constant RX12 287 (625341585 : Int32) ∈ rf_tb := rf_at 1527 (by decide +kernel) (by decide +kernel)
theorem kc_288 : Cond.constant RX12 288 (739982445 : Int32) ∈ rf_tb := rf_at 1528 (by decide +kernel) (by decide +kernel)
theorem kc_289 : Cond.constant RX12 289 (695872825 : Int32) ∈ rf_tb := rf_at 1529 (by decide +kernel) (by decide +kernel)
noncomputable def bq_hash_0 (x0 : Int32) (x1 : Int32) (x2 : Int32) (x3 : Int32) (ρ : rf_S) : Option (Int32 × rf_S) := vl ((x0 * (625341585:Int32)) + x1) (fun x4_1 => vl (((x4_1 ^^^ ((x4_1.toUInt32 >>> ((15:Int32).toUInt32 &&& Int32.toUInt32 31)).toInt32)) * (739982445:Int32)) + x2) (fun x4_2 => vl (((x4_2 ^^^ ((x4_2.toUInt32 >>> ((13:Int32).toUInt32 &&& Int32.toUInt32 31)).toInt32)) * (695872825:Int32)) + x3) (fun x4_3 => some (((x4_3 ^^^ ((x4_3.toUInt32 >>> ((16:Int32).toUInt32 &&& Int32.toUInt32 31)).toInt32)) &&& (16383:Int32)), ρ))))
set_option maxHeartbeats 4000000 in
theorem wq_hash_0 (C : rf_C D p s m args meth c cX12_hash 5 (some .int)) {r : Int32} {x0 : Int32} {x1 : Int32} {x2 : Int32} {x3 : Int32} {ρ ρ' : rf_S} {H : Heap} {locs : List Loc} {ls : Array Slot} (h : bq_hash_0 x0 x1 x2 x3 ρ = some (r, ρ')) (G : rf_G D h0 s ρ H locs) (hl : lv_has ls 5 [(0, .int x0), (1, .int x1), (2, .int x2), (3, .int x3)]) : W p l e ({ frames := 0, cells := 0, slots := 0, locals := 0 }) s m args below meth c H locs 0 0 (MQ below (rf_Q D h0 (some (.int r)) ρ') args s 0 0 (rf_A h0)) (F0 m 0 ls []) := by
  unfold bq_hash_0 at h
  refine lv_iload_n C.1 C.2.1 dX12_hash_0 rfl (lv_at hl 0 rfl) ?_
  refine lv_ldcw (v := (625341585:Int32)) C.1 C.2.1 C.2.2.2.1 (C.2.2.2.2.1 _ kc_287) dX12_hash_1 ?_
  refine lv_imul C.1 C.2.1 dX12_hash_4 ?_
  refine lv_iload_n C.1 C.2.1 dX12_hash_5 rfl (lv_at hl 1 rfl) ?_
  refine lv_iadd C.1 C.2.1 dX12_hash_6 ?_
  refine vt_i h (fun x4_1 h => ?_)
  refine lv_istore (lv' := [(4, .int x4_1), (0, .int x0), (1, .int x1), (2, .int x2), (3, .int x3)]) C.1 C.2.1 dX12_hash_7 hl (by decide) rfl (fun ls hl => ?_)
  refine lv_iload C.1 C.2.1 dX12_hash_9 (lv_at hl 0 rfl) ?_
  refine lv_iload C.1 C.2.1 dX12_hash_11 (lv_at hl 0 rfl) ?_
  refine lv_bipush (v := (15:Int32)) C.1 C.2.1 dX12_hash_13 (by decide) ?_
  refine lv_iushr C.1 C.2.1 dX12_hash_15 rfl ?_
  refine lv_ixor C.1 C.2.1 dX12_hash_16 ?_
  refine lv_ldcw (v := (739982445:Int32)) C.1 C.2.1 C.2.2.2.1 (C.2.2.2.2.1 _ kc_288) dX12_hash_17 ?_
  refine lv_imul C.1 C.2.1 dX12_hash_20 ?_
  refine lv_iload_n C.1 C.2.1 dX12_hash_21 rfl (lv_at hl 3 rfl) ?_
  refine lv_iadd C.1 C.2.1 dX12_hash_22 ?_
  refine vt_i h (fun x4_2 h => ?_)
  refine lv_istore (lv' := [(4, .int x4_2), (0, .int x0), (1, .int x1), (2, .int x2), (3, .int x3)]) C.1 C.2.1 dX12_hash_23 hl (by decide) rfl (fun ls hl => ?_)
  refine lv_iload C.1 C.2.1 dX12_hash_25 (lv_at hl 0 rfl) ?_
  refine lv_iload C.1 C.2.1 dX12_hash_27 (lv_at hl 0 rfl) ?_
  refine lv_bipush (v := (13:Int32)) C.1 C.2.1 dX12_hash_29 (by decide) ?_
  refine lv_iushr C.1 C.2.1 dX12_hash_31 rfl ?_
  refine lv_ixor C.1 C.2.1 dX12_hash_32 ?_
  refine lv_ldcw (v := (695872825:Int32)) C.1 C.2.1 C.2.2.2.1 (C.2.2.2.2.1 _ kc_289) dX12_hash_33 ?_
  refine lv_imul C.1 C.2.1 dX12_hash_36 ?_
  refine lv_iload_n C.1 C.2.1 dX12_hash_37 rfl (lv_at hl 4 rfl) ?_
  refine lv_iadd C.1 C.2.1 dX12_hash_38 ?_
  refine vt_i h (fun x4_3 h => ?_)
  refine lv_istore (lv' := [(4, .int x4_3), (0, .int x0), (1, .int x1), (2, .int x2), (3, .int x3)]) C.1 C.2.1 dX12_hash_39 hl (by decide) rfl (fun ls hl => ?_)
  refine lv_iload C.1 C.2.1 dX12_hash_41 (lv_at hl 0 rfl) ?_
  refine lv_iload C.1 C.2.1 dX12_hash_43 (lv_at hl 0 rfl) ?_
  refine lv_bipush (v := (16:Int32)) C.1 C.2.1 dX12_hash_45 (by decide) ?_
  refine lv_iushr C.1 C.2.1 dX12_hash_47 rfl ?_
  refine lv_ixor C.1 C.2.1 dX12_hash_48 ?_
  refine lv_sipush (v := (16383:Int32)) C.1 C.2.1 dX12_hash_49 (by decide) ?_
  refine lv_iand C.1 C.2.1 dX12_hash_52 ?_
  exact rf_iret C G h dX12_hash_53
noncomputable def fq_hash (x0 : Int32) (x1 : Int32) (x2 : Int32) (x3 : Int32) (ρ : rf_S) : Option (Int32 × rf_S) := bq_hash_0 x0 x1 x2 x3 ρ
theorem kq_hash (l : Launch) (D : rf_D) (h0 : Nat) {r : Int32} {x0 : Int32} {x1 : Int32} {x2 : Int32} {x3 : Int32} {ρ ρ' : rf_S} (h : fq_hash x0 x1 x2 x3 ρ = some (r, ρ')) : rf_Met l D h0 yX12_hash cX12_hash 5 (some .int) 0 0 [.int x0, .int x1, .int x2, .int x3] ρ (some (.int r)) ρ' :=
  rf_of rfl cc_hash (Nat.le_of_ble_eq_true rfl) (fun p e s m args below meth c ls C G hl => wq_hash_0 C h G hl)
abbrev cX12_peek : ByteArray := prog_14_method_3_code
def yX12_peek : MethodName := ⟨RX12, "peek", "(IIII)I"⟩
theorem dX12_peek_0 : decode cX12_peek 0 = .ok (.aload_n 0, 1) := by decide +kernel
theorem dX12_peek_1 : decode cX12_peek 1 = .ok (.getfield 44, 3) := by decide +kernel
theorem dX12_peek_4 : decode cX12_peek 4 = .ok (.iload_n 1, 1) := by decide +kernel
theorem dX12_peek_5 : decode cX12_peek 5 = .ok (.iload_n 2, 1) := by decide +kernel
theorem dX12_peek_6 : decode cX12_peek 6 = .ok (.iload_n 3, 1) := by decide +kernel
theorem dX12_peek_7 : decode cX12_peek 7 = .ok (.iload 4, 2) := by decide +kernel
theorem dX12_peek_9 : decode cX12_peek 9 = .ok (.invokestatic 290, 3) := by decide +kernel
theorem dX12_peek_12 : decode cX12_peek 12 = .ok (.iaload, 1) := by decide +kernel
theorem dX12_peek_13 : decode cX12_peek 13 = .ok (.istore 5, 2) := by decide +kernel
theorem dX12_peek_15 : decode cX12_peek 15 = .ok (.iload 5, 2) := by decide +kernel
theorem dX12_peek_17 : decode cX12_peek 17 = .ok (.ifCond .lt 60, 3) := by decide +kernel
theorem dX12_peek_20 : decode cX12_peek 20 = .ok (.aload_n 0, 1) := by decide +kernel
theorem dX12_peek_21 : decode cX12_peek 21 = .ok (.getfield 8, 3) := by decide +kernel
theorem dX12_peek_24 : decode cX12_peek 24 = .ok (.iload 5, 2) := by decide +kernel
theorem dX12_peek_26 : decode cX12_peek 26 = .ok (.baload, 1) := by decide +kernel
theorem dX12_peek_27 : decode cX12_peek 27 = .ok (.iload_n 1, 1) := by decide +kernel
theorem dX12_peek_28 : decode cX12_peek 28 = .ok (.if_icmp .ne 37, 3) := by decide +kernel
theorem dX12_peek_31 : decode cX12_peek 31 = .ok (.aload_n 0, 1) := by decide +kernel
theorem dX12_peek_32 : decode cX12_peek 32 = .ok (.getfield 14, 3) := by decide +kernel
theorem dX12_peek_35 : decode cX12_peek 35 = .ok (.iload 5, 2) := by decide +kernel
theorem dX12_peek_37 : decode cX12_peek 37 = .ok (.iaload, 1) := by decide +kernel
theorem dX12_peek_38 : decode cX12_peek 38 = .ok (.iload_n 2, 1) := by decide +kernel
theorem dX12_peek_39 : decode cX12_peek 39 = .ok (.if_icmp .ne 26, 3) := by decide +kernel
theorem dX12_peek_42 : decode cX12_peek 42 = .ok (.aload_n 0, 1) := by decide +kernel
theorem dX12_peek_43 : decode cX12_peek 43 = .ok (.getfield 18, 3) := by decide +kernel
theorem dX12_peek_46 : decode cX12_peek 46 = .ok (.iload 5, 2) := by decide +kernel
theorem dX12_peek_48 : decode cX12_peek 48 = .ok (.iaload, 1) := by decide +kernel
theorem dX12_peek_49 : decode cX12_peek 49 = .ok (.iload_n 3, 1) := by decide +kernel
theorem dX12_peek_50 : decode cX12_peek 50 = .ok (.if_icmp .ne 15, 3) := by decide +kernel
theorem dX12_peek_53 : decode cX12_peek 53 = .ok (.aload_n 0, 1) := by decide +kernel
theorem dX12_peek_54 : decode cX12_peek 54 = .ok (.getfield 21, 3) := by decide +kernel
theorem dX12_peek_57 : decode cX12_peek 57 = .ok (.iload 5, 2) := by decide +kernel
theorem dX12_peek_59 : decode cX12_peek 59 = .ok (.iaload, 1) := by decide +kernel
theorem dX12_peek_60 : decode cX12_peek 60 = .ok (.iload 4, 2) := by decide +kernel
theorem dX12_peek_62 : decode cX12_peek 62 = .ok (.if_icmp .eq 15, 3) := by decide +kernel
theorem dX12_peek_65 : decode cX12_peek 65 = .ok (.aload_n 0, 1) := by decide +kernel
theorem dX12_peek_66 : decode cX12_peek 66 = .ok (.getfield 24, 3) := by decide +kernel
theorem dX12_peek_69 : decode cX12_peek 69 = .ok (.iload 5, 2) := by decide +kernel
theorem dX12_peek_71 : decode cX12_peek 71 = .ok (.iaload, 1) := by decide +kernel
theorem dX12_peek_72 : decode cX12_peek 72 = .ok (.istore 5, 2) := by decide +kernel
theorem dX12_peek_74 : decode cX12_peek 74 = .ok (.goto (-59), 3) := by decide +kernel
theorem dX12_peek_77 : decode cX12_peek 77 = .ok (.iload 5, 2) := by decide +kernel
theorem dX12_peek_79 : decode cX12_peek 79 = .ok (.ireturn, 1) := by decide +kernel
theorem cc_peek : Cond.code yX12_peek cX12_peek 6 (some .int) ∈ rf_tb := rf_at 1523 (by decide +kernel) (by decide +kernel)
theorem cw_peek : rf_wV yX12_peek cX12_peek 6 (some .int) 296 4 := ⟨⟨rf_at 1520 (by decide +kernel) (by decide +kernel), rf_at 1522 (by decide +kernel) (by decide +kernel), rf_sel (q := (yX12_peek, 122)) 78 (by decide +kernel) (by decide +kernel), cc_peek⟩, rfl, by decide +kernel⟩
noncomputable def bq_peek_65i15 (x1 : Int32) (x2 : Int32) (x3 : Int32) (x4 : Int32) (x5 : Int32) (ρ : rf_S) : Option ((Int32 × rf_S) ⊕ (Int32 × rf_S)) := ix x5 112000 (vl (ρ.1 5 x5.toNatClampNeg) (fun x5_4 => some (.inl (x5_4, ρ))))
set_option maxHeartbeats 4000000 in
theorem wq_peek_65i15 (C : rf_C D p s m args meth c cX12_peek 6 (some .int)) {r : Int32} {x1 : Int32} {x2 : Int32} {x3 : Int32} {x4 : Int32} {x5 : Int32} {ρ ρ' : rf_S} {H : Heap} {locs : List Loc} {ls : Array Slot} {o : (Int32 × rf_S) ⊕ (Int32 × rf_S)} (h : bq_peek_65i15 x1 x2 x3 x4 x5 ρ = some o) (hP : Sum.elim (fun z : (Int32 × rf_S) => ∀ (H : Heap) (locs : List Loc) (ls : Array Slot), rf_G D h0 s z.2 H locs → lv_has ls 6 [(0, .ref h0), (1, .int x1), (2, .int x2), (3, .int x3), (4, .int x4), (5, .int z.1)] → W p l e ({ frames := 1, cells := 0, slots := 0, locals := 24 }) s m args below meth c H locs 0 0 (MQ below (rf_Q D h0 (some (.int r)) ρ') args s 0 0 (rf_A h0)) (F0 m 15 ls [])) (fun z : (Int32 × rf_S) => ∀ (H : Heap) (locs : List Loc) (ls : Array Slot), rf_G D h0 s z.2 H locs → lv_has ls 6 [(0, .ref h0), (1, .int x1), (2, .int x2), (3, .int x3), (4, .int x4), (5, .int z.1)] → W p l e ({ frames := 1, cells := 0, slots := 0, locals := 24 }) s m args below meth c H locs 0 0 (MQ below (rf_Q D h0 (some (.int r)) ρ') args s 0 0 (rf_A h0)) (F0 m 77 ls [])) o) (G : rf_G D h0 s ρ H locs) (hl : lv_has ls 6 [(0, .ref h0), (1, .int x1), (2, .int x2), (3, .int x3), (4, .int x4), (5, .int x5)]) : W p l e ({ frames := 1, cells := 0, slots := 0, locals := 24 }) s m args below meth c H locs 0 0 (MQ below (rf_Q D h0 (some (.int r)) ρ') args s 0 0 (rf_A h0)) (F0 m 65 ls []) := by
  unfold bq_peek_65i15 at h
  refine lv_aload_n C.1 C.2.1 dX12_peek_65 rfl (lv_at hl 0 rfl) ?_
  refine gf_4 C G dX12_peek_66 ?_
  refine lv_iload C.1 C.2.1 dX12_peek_69 (lv_at hl 5 rfl) ?_
  obtain ⟨hi, h⟩ := ix_some h
  refine rf_iald C G 5 rfl (by decide) rfl rfl hi dX12_peek_71 ?_
  refine vt_i h (fun x5_4 h => ?_)
  refine lv_istore (lv' := [(5, .int x5_4), (0, .ref h0), (1, .int x1), (2, .int x2), (3, .int x3), (4, .int x4)]) C.1 C.2.1 dX12_peek_72 hl (by decide) rfl (fun ls hl => ?_)
  refine lv_goto (tgt := 15) C.1 C.2.1 dX12_peek_74 (by decide) ?_
  cases h
  exact hP _ _ _ G (lv_sub hl [1, 2, 3, 4, 5, 0] rfl)
noncomputable def lq_peek_15 (x1 : Int32) (x2 : Int32) (x3 : Int32) (x4 : Int32) (x5 : Int32) (ρ : rf_S) : Option ((Int32 × rf_S) ⊕ (Int32 × rf_S)) := (if x5 < 0 then some (.inr (x5, ρ)) else ix x5 112000 ((if (ρ.1 1 x5.toNatClampNeg) = x1 then ix x5 112000 ((if (ρ.1 2 x5.toNatClampNeg) = x2 then ix x5 112000 ((if (ρ.1 3 x5.toNatClampNeg) = x3 then ix x5 112000 ((if (ρ.1 4 x5.toNatClampNeg) = x4 then some (.inr (x5, ρ)) else bq_peek_65i15 x1 x2 x3 x4 x5 ρ)) else bq_peek_65i15 x1 x2 x3 x4 x5 ρ)) else bq_peek_65i15 x1 x2 x3 x4 x5 ρ)) else bq_peek_65i15 x1 x2 x3 x4 x5 ρ)))
noncomputable def eq_peek_15 (x1 : Int32) (x2 : Int32) (x3 : Int32) (x4 : Int32) (x5 : Int32) (ρ : rf_S) : Option (Int32 × rf_S) := some (x5, ρ)
noncomputable def bq_peek_15 (x1 : Int32) (x2 : Int32) (x3 : Int32) (x4 : Int32) (x5 : Int32) (ρ : rf_S) : Option (Int32 × rf_S) := (lp (fun z : (Int32 × rf_S) => lq_peek_15 x1 x2 x3 x4 z.1 z.2) (x5, ρ)).bind (fun z => eq_peek_15 x1 x2 x3 x4 z.1 z.2)
set_option maxHeartbeats 4000000 in
theorem wq_peek_15 (C : rf_C D p s m args meth c cX12_peek 6 (some .int)) {r : Int32} {x1 : Int32} {x2 : Int32} {x3 : Int32} {x4 : Int32} {x5 : Int32} {ρ ρ' : rf_S} {H : Heap} {locs : List Loc} {ls : Array Slot} (h : bq_peek_15 x1 x2 x3 x4 x5 ρ = some (r, ρ')) (G : rf_G D h0 s ρ H locs) (hl : lv_has ls 6 [(0, .ref h0), (1, .int x1), (2, .int x2), (3, .int x3), (4, .int x4), (5, .int x5)]) : W p l e ({ frames := 1, cells := 0, slots := 0, locals := 24 }) s m args below meth c H locs 0 0 (MQ below (rf_Q D h0 (some (.int r)) ρ') args s 0 0 (rf_A h0)) (F0 m 15 ls []) := by
  unfold bq_peek_15 at h
  obtain ⟨y, hy, h⟩ := bd_some h
  have hE : (fun z : (Int32 × rf_S) => ∀ (H : Heap) (locs : List Loc) (ls : Array Slot), rf_G D h0 s z.2 H locs → lv_has ls 6 [(0, .ref h0), (1, .int x1), (2, .int x2), (3, .int x3), (4, .int x4), (5, .int z.1)] → W p l e ({ frames := 1, cells := 0, slots := 0, locals := 24 }) s m args below meth c H locs 0 0 (MQ below (rf_Q D h0 (some (.int r)) ρ') args s 0 0 (rf_A h0)) (F0 m 77 ls [])) y := by
    intro H locs ls G hl
    obtain ⟨x5, ρ⟩ := y
    dsimp only at h G hl
    unfold eq_peek_15 at h
    refine lv_iload C.1 C.2.1 dX12_peek_77 (lv_at hl 5 rfl) ?_
    exact rf_iret C G h dX12_peek_79
  refine lp_recE (fun z : (Int32 × rf_S) => ∀ (H : Heap) (locs : List Loc) (ls : Array Slot), rf_G D h0 s z.2 H locs → lv_has ls 6 [(0, .ref h0), (1, .int x1), (2, .int x2), (3, .int x3), (4, .int x4), (5, .int z.1)] → W p l e ({ frames := 1, cells := 0, slots := 0, locals := 24 }) s m args below meth c H locs 0 0 (MQ below (rf_Q D h0 (some (.int r)) ρ') args s 0 0 (rf_A h0)) (F0 m 15 ls [])) (fun z : (Int32 × rf_S) => ∀ (H : Heap) (locs : List Loc) (ls : Array Slot), rf_G D h0 s z.2 H locs → lv_has ls 6 [(0, .ref h0), (1, .int x1), (2, .int x2), (3, .int x3), (4, .int x4), (5, .int z.1)] → W p l e ({ frames := 1, cells := 0, slots := 0, locals := 24 }) s m args below meth c H locs 0 0 (MQ below (rf_Q D h0 (some (.int r)) ρ') args s 0 0 (rf_A h0)) (F0 m 77 ls [])) ?_ _ _ hy hE _ _ _ G hl
  clear hE hy G hl h
  intro z o h hP H locs ls G hl
  obtain ⟨x5, ρ⟩ := z
  dsimp only at h G hl
  unfold lq_peek_15 at h
  refine lv_iload C.1 C.2.1 dX12_peek_15 (lv_at hl 5 rfl) ?_
  refine lv_if_lt (tgt := 77) C.1 C.2.1 dX12_peek_17 (by decide) (fun hc => ?_) (fun hc => ?_)
  · rw [if_pos hc] at h
    cases h
    exact hP _ _ _ G (lv_sub hl [0, 1, 2, 3, 4, 5] rfl)
  · rw [if_neg hc] at h
    refine lv_aload_n C.1 C.2.1 dX12_peek_20 rfl (lv_at hl 0 rfl) ?_
    refine gf_0 C G dX12_peek_21 ?_
    refine lv_iload C.1 C.2.1 dX12_peek_24 (lv_at hl 5 rfl) ?_
    obtain ⟨hi, h⟩ := ix_some h
    refine rf_bald C G 1 rfl (by decide) rfl rfl hi dX12_peek_26 ?_
    refine lv_iload_n C.1 C.2.1 dX12_peek_27 rfl (lv_at hl 1 rfl) ?_
    refine lv_icmp_ne (tgt := 65) C.1 C.2.1 dX12_peek_28 (by decide) (fun hc => ?_) (fun hc => ?_)
    · rw [if_neg hc] at h
      exact wq_peek_65i15 C h hP G (lv_sub hl [0, 1, 2, 3, 4, 5] rfl)
    · rw [if_pos hc] at h
      refine lv_aload_n C.1 C.2.1 dX12_peek_31 rfl (lv_at hl 0 rfl) ?_
      refine gf_1 C G dX12_peek_32 ?_
      refine lv_iload C.1 C.2.1 dX12_peek_35 (lv_at hl 5 rfl) ?_
      obtain ⟨hi, h⟩ := ix_some h
      refine rf_iald C G 2 rfl (by decide) rfl rfl hi dX12_peek_37 ?_
      refine lv_iload_n C.1 C.2.1 dX12_peek_38 rfl (lv_at hl 2 rfl) ?_
      refine lv_icmp_ne (tgt := 65) C.1 C.2.1 dX12_peek_39 (by decide) (fun hc => ?_) (fun hc => ?_)
      · rw [if_neg hc] at h
        exact wq_peek_65i15 C h hP G (lv_sub hl [0, 1, 2, 3, 4, 5] rfl)
      · rw [if_pos hc] at h
        refine lv_aload_n C.1 C.2.1 dX12_peek_42 rfl (lv_at hl 0 rfl) ?_
        refine gf_2 C G dX12_peek_43 ?_
        refine lv_iload C.1 C.2.1 dX12_peek_46 (lv_at hl 5 rfl) ?_
        obtain ⟨hi, h⟩ := ix_some h
        refine rf_iald C G 3 rfl (by decide) rfl rfl hi dX12_peek_48 ?_
        refine lv_iload_n C.1 C.2.1 dX12_peek_49 rfl (lv_at hl 3 rfl) ?_
        refine lv_icmp_ne (tgt := 65) C.1 C.2.1 dX12_peek_50 (by decide) (fun hc => ?_) (fun hc => ?_)
        · rw [if_neg hc] at h
          exact wq_peek_65i15 C h hP G (lv_sub hl [0, 1, 2, 3, 4, 5] rfl)
        · rw [if_pos hc] at h
          refine lv_aload_n C.1 C.2.1 dX12_peek_53 rfl (lv_at hl 0 rfl) ?_
          refine gf_3 C G dX12_peek_54 ?_
          refine lv_iload C.1 C.2.1 dX12_peek_57 (lv_at hl 5 rfl) ?_
          obtain ⟨hi, h⟩ := ix_some h
          refine rf_iald C G 4 rfl (by decide) rfl rfl hi dX12_peek_59 ?_
          refine lv_iload C.1 C.2.1 dX12_peek_60 (lv_at hl 4 rfl) ?_
          refine lv_icmp_eq (tgt := 77) C.1 C.2.1 dX12_peek_62 (by decide) (fun hc => ?_) (fun hc => ?_)
          · rw [if_pos hc] at h
            cases h
            exact hP _ _ _ G (lv_sub hl [0, 1, 2, 3, 4, 5] rfl)
          · rw [if_neg hc] at h
            exact wq_peek_65i15 C h hP G (lv_sub hl [0, 1, 2, 3, 4, 5] rfl)
noncomputable def bq_peek_0 (x1 : Int32) (x2 : Int32) (x3 : Int32) (x4 : Int32) (ρ : rf_S) : Option (Int32 × rf_S) := bd2 (fq_hash x1 x2 x3 x4 ρ) (fun r_2 ρ_1 => ix r_2 16384 (vl (ρ_1.1 11 r_2.toNatClampNeg) (fun x5_3 => bq_peek_15 x1 x2 x3 x4 x5_3 ρ_1)))
set_option maxHeartbeats 4000000 in
theorem wq_peek_0 (C : rf_C D p s m args meth c cX12_peek 6 (some .int)) {r : Int32} {x1 : Int32} {x2 : Int32} {x3 : Int32} {x4 : Int32} {ρ ρ' : rf_S} {H : Heap} {locs : List Loc} {ls : Array Slot} (h : bq_peek_0 x1 x2 x3 x4 ρ = some (r, ρ')) (G : rf_G D h0 s ρ H locs) (hl : lv_has ls 6 [(0, .ref h0), (1, .int x1), (2, .int x2), (3, .int x3), (4, .int x4)]) : W p l e ({ frames := 1, cells := 0, slots := 0, locals := 24 }) s m args below meth c H locs 0 0 (MQ below (rf_Q D h0 (some (.int r)) ρ') args s 0 0 (rf_A h0)) (F0 m 0 ls []) := by
  unfold bq_peek_0 at h
  refine lv_aload_n C.1 C.2.1 dX12_peek_0 rfl (lv_at hl 0 rfl) ?_
  refine gf_11 C G dX12_peek_1 ?_
  refine lv_iload_n C.1 C.2.1 dX12_peek_4 rfl (lv_at hl 1 rfl) ?_
  refine lv_iload_n C.1 C.2.1 dX12_peek_5 rfl (lv_at hl 2 rfl) ?_
  refine lv_iload_n C.1 C.2.1 dX12_peek_6 rfl (lv_at hl 3 rfl) ?_
  refine lv_iload C.1 C.2.1 dX12_peek_7 (lv_at hl 4 rfl) ?_
  obtain ⟨r_2, ρ_1, hq, h⟩ := bd2_some h
  refine rf_callS (rest := [.ref (h0 + 11)]) C G cw_hash [.int x1, .int x2, .int x3, .int x4] _ (kq_hash l D h0 hq) (Nat.le_of_ble_eq_true rfl) (Nat.le_of_ble_eq_true rfl) rfl rfl hl.1 (Nat.le_of_ble_eq_true rfl) (Nat.zero_le _) (Nat.zero_le _) dX12_peek_9 (fun H locs G => ?_)
  refine W.eq (g2 := F0 m 12 ls [.int r_2, .ref (h0 + 11)]) rfl ?_
  obtain ⟨hi, h⟩ := ix_some h
  refine rf_iald C G 11 rfl (by decide) rfl rfl hi dX12_peek_12 ?_
  refine vt_i h (fun x5_3 h => ?_)
  refine lv_istore (lv' := [(5, .int x5_3), (0, .ref h0), (1, .int x1), (2, .int x2), (3, .int x3), (4, .int x4)]) C.1 C.2.1 dX12_peek_13 hl (by decide) rfl (fun ls hl => ?_)
  exact wq_peek_15 C h G (lv_sub hl [1, 2, 3, 4, 5, 0] rfl)
noncomputable def fq_peek (x1 : Int32) (x2 : Int32) (x3 : Int32) (x4 : Int32) (ρ : rf_S) : Option (Int32 × rf_S) := bq_peek_0 x1 x2 x3 x4 ρ
theorem kq_peek (l : Launch) (D : rf_D) (h0 : Nat) {r : Int32} {x1 : Int32} {x2 : Int32} {x3 : Int32} {x4 : Int32} {ρ ρ' : rf_S} (h : fq_peek x1 x2 x3 x4 ρ = some (r, ρ')) : rf_Met l D h0 yX12_peek cX12_peek 6 (some .int) 1 24 [.ref h0, .int x1, .int x2, .int x3, .int x4] ρ (some (.int r)) ρ' :=
  rf_of rfl cc_peek (Nat.le_of_ble_eq_true rfl) (fun p e s m args below meth c ls C G hl => wq_peek_0 C h G hl)
abbrev cX12_add : ByteArray := prog_14_method_4_code
def yX12_add : MethodName := ⟨RX12, "add", "(IIIII)I"⟩
theorem dX12_add_0 : decode cX12_add 0 = .ok (.aload_n 0, 1) := by decide +kernel
theorem dX12_add_1 : decode cX12_add 1 = .ok (.getfield 293, 3) := by decide +kernel
theorem dX12_add_4 : decode cX12_add 4 = .ok (.istore 6, 2) := by decide +kernel
theorem dX12_add_6 : decode cX12_add 6 = .ok (.aload_n 0, 1) := by decide +kernel
theorem dX12_add_7 : decode cX12_add 7 = .ok (.getfield 8, 3) := by decide +kernel
theorem dX12_add_10 : decode cX12_add 10 = .ok (.iload 6, 2) := by decide +kernel
theorem dX12_add_12 : decode cX12_add 12 = .ok (.iload_n 1, 1) := by decide +kernel
theorem dX12_add_13 : decode cX12_add 13 = .ok (.i2b, 1) := by decide +kernel
theorem dX12_add_14 : decode cX12_add 14 = .ok (.bastore, 1) := by decide +kernel
theorem dX12_add_15 : decode cX12_add 15 = .ok (.aload_n 0, 1) := by decide +kernel
theorem dX12_add_16 : decode cX12_add 16 = .ok (.getfield 14, 3) := by decide +kernel
theorem dX12_add_19 : decode cX12_add 19 = .ok (.iload 6, 2) := by decide +kernel
theorem dX12_add_21 : decode cX12_add 21 = .ok (.iload_n 2, 1) := by decide +kernel
theorem dX12_add_22 : decode cX12_add 22 = .ok (.iastore, 1) := by decide +kernel
theorem dX12_add_23 : decode cX12_add 23 = .ok (.aload_n 0, 1) := by decide +kernel
theorem dX12_add_24 : decode cX12_add 24 = .ok (.getfield 18, 3) := by decide +kernel
theorem dX12_add_27 : decode cX12_add 27 = .ok (.iload 6, 2) := by decide +kernel
theorem dX12_add_29 : decode cX12_add 29 = .ok (.iload_n 3, 1) := by decide +kernel
theorem dX12_add_30 : decode cX12_add 30 = .ok (.iastore, 1) := by decide +kernel
theorem dX12_add_31 : decode cX12_add 31 = .ok (.aload_n 0, 1) := by decide +kernel
theorem dX12_add_32 : decode cX12_add 32 = .ok (.getfield 21, 3) := by decide +kernel
theorem dX12_add_35 : decode cX12_add 35 = .ok (.iload 6, 2) := by decide +kernel
theorem dX12_add_37 : decode cX12_add 37 = .ok (.iload 4, 2) := by decide +kernel
theorem dX12_add_39 : decode cX12_add 39 = .ok (.iastore, 1) := by decide +kernel
theorem dX12_add_40 : decode cX12_add 40 = .ok (.aload_n 0, 1) := by decide +kernel
theorem dX12_add_41 : decode cX12_add 41 = .ok (.getfield 24, 3) := by decide +kernel
theorem dX12_add_44 : decode cX12_add 44 = .ok (.iload 6, 2) := by decide +kernel
theorem dX12_add_46 : decode cX12_add 46 = .ok (.aload_n 0, 1) := by decide +kernel
theorem dX12_add_47 : decode cX12_add 47 = .ok (.getfield 44, 3) := by decide +kernel
theorem dX12_add_50 : decode cX12_add 50 = .ok (.iload 5, 2) := by decide +kernel
theorem dX12_add_52 : decode cX12_add 52 = .ok (.iaload, 1) := by decide +kernel
theorem dX12_add_53 : decode cX12_add 53 = .ok (.iastore, 1) := by decide +kernel
theorem dX12_add_54 : decode cX12_add 54 = .ok (.aload_n 0, 1) := by decide +kernel
theorem dX12_add_55 : decode cX12_add 55 = .ok (.getfield 44, 3) := by decide +kernel
theorem dX12_add_58 : decode cX12_add 58 = .ok (.iload 5, 2) := by decide +kernel
theorem dX12_add_60 : decode cX12_add 60 = .ok (.iload 6, 2) := by decide +kernel
theorem dX12_add_62 : decode cX12_add 62 = .ok (.iastore, 1) := by decide +kernel
theorem dX12_add_63 : decode cX12_add 63 = .ok (.aload_n 0, 1) := by decide +kernel
theorem dX12_add_64 : decode cX12_add 64 = .ok (.getfield 27, 3) := by decide +kernel
theorem dX12_add_67 : decode cX12_add 67 = .ok (.iload 6, 2) := by decide +kernel
theorem dX12_add_69 : decode cX12_add 69 = .ok (.iconst 0, 1) := by decide +kernel
theorem dX12_add_70 : decode cX12_add 70 = .ok (.bastore, 1) := by decide +kernel
theorem dX12_add_71 : decode cX12_add 71 = .ok (.aload_n 0, 1) := by decide +kernel
theorem dX12_add_72 : decode cX12_add 72 = .ok (.dup, 1) := by decide +kernel
theorem dX12_add_73 : decode cX12_add 73 = .ok (.getfield 293, 3) := by decide +kernel
theorem dX12_add_76 : decode cX12_add 76 = .ok (.iconst 1, 1) := by decide +kernel
theorem dX12_add_77 : decode cX12_add 77 = .ok (.iadd, 1) := by decide +kernel
theorem dX12_add_78 : decode cX12_add 78 = .ok (.putfield 293, 3) := by decide +kernel
theorem dX12_add_81 : decode cX12_add 81 = .ok (.iload 6, 2) := by decide +kernel
theorem dX12_add_83 : decode cX12_add 83 = .ok (.ireturn, 1) := by decide +kernel
theorem cc_add : Cond.code yX12_add cX12_add 7 (some .int) ∈ rf_tb := rf_at 1533 (by decide +kernel) (by decide +kernel)
theorem cw_add : rf_wV yX12_add cX12_add 7 (some .int) 299 5 := ⟨⟨rf_at 1530 (by decide +kernel) (by decide +kernel), rf_at 1532 (by decide +kernel) (by decide +kernel), rf_sel (q := (yX12_add, 122)) 79 (by decide +kernel) (by decide +kernel), cc_add⟩, rfl, by decide +kernel⟩
noncomputable def bq_add_0 (x1 : Int32) (x2 : Int32) (x3 : Int32) (x4 : Int32) (x5 : Int32) (ρ : rf_S) : Option (Int32 × rf_S) := vl (ρ.1 0 12) (fun x6_1 => ix x6_1 112000 (vl (rf_w ρ 1 x6_1.toNatClampNeg ((x1.toInt8.toInt32).toInt8.toInt32)) (fun ρ_2 => ix x6_1 112000 (vl (rf_w ρ_2 2 x6_1.toNatClampNeg x2) (fun ρ_3 => ix x6_1 112000 (vl (rf_w ρ_3 3 x6_1.toNatClampNeg x3) (fun ρ_4 => ix x6_1 112000 (vl (rf_w ρ_4 4 x6_1.toNatClampNeg x4) (fun ρ_5 => ix x5 16384 (ix x6_1 112000 (vl (rf_w ρ_5 5 x6_1.toNatClampNeg (ρ_5.1 11 x5.toNatClampNeg)) (fun ρ_6 => ix x5 16384 (vl (rf_w ρ_6 11 x5.toNatClampNeg x6_1) (fun ρ_7 => ix x6_1 112000 (vl (rf_w ρ_7 6 x6_1.toNatClampNeg (vp_nar .boolean (0:Int32))) (fun ρ_8 => vl (rf_w ρ_8 0 12 ((ρ_8.1 0 12) + (1:Int32))) (fun ρ_9 => some (x6_1, ρ_9))))))))))))))))))
set_option maxHeartbeats 4000000 in
theorem wq_add_0 (C : rf_C D p s m args meth c cX12_add 7 (some .int)) {r : Int32} {x1 : Int32} {x2 : Int32} {x3 : Int32} {x4 : Int32} {x5 : Int32} {ρ ρ' : rf_S} {H : Heap} {locs : List Loc} {ls : Array Slot} (h : bq_add_0 x1 x2 x3 x4 x5 ρ = some (r, ρ')) (G : rf_G D h0 s ρ H locs) (hl : lv_has ls 7 [(0, .ref h0), (1, .int x1), (2, .int x2), (3, .int x3), (4, .int x4), (5, .int x5)]) : W p l e ({ frames := 0, cells := 0, slots := 0, locals := 0 }) s m args below meth c H locs 0 0 (MQ below (rf_Q D h0 (some (.int r)) ρ') args s 0 0 (rf_A h0)) (F0 m 0 ls []) := by
  unfold bq_add_0 at h
  refine lv_aload_n C.1 C.2.1 dX12_add_0 rfl (lv_at hl 0 rfl) ?_
  refine gf_12 C G dX12_add_1 ?_
  refine vt_i h (fun x6_1 h => ?_)
  refine lv_istore (lv' := [(6, .int x6_1), (0, .ref h0), (1, .int x1), (2, .int x2), (3, .int x3), (4, .int x4), (5, .int x5)]) C.1 C.2.1 dX12_add_4 hl (by decide) rfl (fun ls hl => ?_)
  refine lv_aload_n C.1 C.2.1 dX12_add_6 rfl (lv_at hl 1 rfl) ?_
  refine gf_0 C G dX12_add_7 ?_
  refine lv_iload C.1 C.2.1 dX12_add_10 (lv_at hl 0 rfl) ?_
  refine lv_iload_n C.1 C.2.1 dX12_add_12 rfl (lv_at hl 2 rfl) ?_
  refine lv_i2b C.1 C.2.1 dX12_add_13 rfl ?_
  obtain ⟨hi, h⟩ := ix_some h
  refine rf_bast C G 1 rfl (by decide) rfl rfl hi dX12_add_14 (fun H locs G => ?_)
  refine rf_nm G h (fun ρ_2 G h => ?_)
  refine lv_aload_n C.1 C.2.1 dX12_add_15 rfl (lv_at hl 1 rfl) ?_
  refine gf_1 C G dX12_add_16 ?_
  refine lv_iload C.1 C.2.1 dX12_add_19 (lv_at hl 0 rfl) ?_
  refine lv_iload_n C.1 C.2.1 dX12_add_21 rfl (lv_at hl 3 rfl) ?_
  obtain ⟨hi, h⟩ := ix_some h
  refine rf_iast C G 2 rfl (by decide) rfl rfl hi dX12_add_22 (fun H locs G => ?_)
  refine rf_nm G h (fun ρ_3 G h => ?_)
  refine lv_aload_n C.1 C.2.1 dX12_add_23 rfl (lv_at hl 1 rfl) ?_
  refine gf_2 C G dX12_add_24 ?_
  refine lv_iload C.1 C.2.1 dX12_add_27 (lv_at hl 0 rfl) ?_
  refine lv_iload_n C.1 C.2.1 dX12_add_29 rfl (lv_at hl 4 rfl) ?_
  obtain ⟨hi, h⟩ := ix_some h
  refine rf_iast C G 3 rfl (by decide) rfl rfl hi dX12_add_30 (fun H locs G => ?_)
  refine rf_nm G h (fun ρ_4 G h => ?_)
  refine lv_aload_n C.1 C.2.1 dX12_add_31 rfl (lv_at hl 1 rfl) ?_
  refine gf_3 C G dX12_add_32 ?_
  refine lv_iload C.1 C.2.1 dX12_add_35 (lv_at hl 0 rfl) ?_
  refine lv_iload C.1 C.2.1 dX12_add_37 (lv_at hl 5 rfl) ?_
  obtain ⟨hi, h⟩ := ix_some h
  refine rf_iast C G 4 rfl (by decide) rfl rfl hi dX12_add_39 (fun H locs G => ?_)
  refine rf_nm G h (fun ρ_5 G h => ?_)
  refine lv_aload_n C.1 C.2.1 dX12_add_40 rfl (lv_at hl 1 rfl) ?_
  refine gf_4 C G dX12_add_41 ?_
  refine lv_iload C.1 C.2.1 dX12_add_44 (lv_at hl 0 rfl) ?_
  refine lv_aload_n C.1 C.2.1 dX12_add_46 rfl (lv_at hl 1 rfl) ?_
  refine gf_11 C G dX12_add_47 ?_
  refine lv_iload C.1 C.2.1 dX12_add_50 (lv_at hl 6 rfl) ?_
  obtain ⟨hi, h⟩ := ix_some h
  refine rf_iald C G 11 rfl (by decide) rfl rfl hi dX12_add_52 ?_
  obtain ⟨hi, h⟩ := ix_some h
  refine rf_iast C G 5 rfl (by decide) rfl rfl hi dX12_add_53 (fun H locs G => ?_)
  refine rf_nm G h (fun ρ_6 G h => ?_)
  refine lv_aload_n C.1 C.2.1 dX12_add_54 rfl (lv_at hl 1 rfl) ?_
  refine gf_11 C G dX12_add_55 ?_
  refine lv_iload C.1 C.2.1 dX12_add_58 (lv_at hl 6 rfl) ?_
  refine lv_iload C.1 C.2.1 dX12_add_60 (lv_at hl 0 rfl) ?_
  obtain ⟨hi, h⟩ := ix_some h
  refine rf_iast C G 11 rfl (by decide) rfl rfl hi dX12_add_62 (fun H locs G => ?_)
  refine rf_nm G h (fun ρ_7 G h => ?_)
  refine lv_aload_n C.1 C.2.1 dX12_add_63 rfl (lv_at hl 1 rfl) ?_
  refine gf_5 C G dX12_add_64 ?_
  refine lv_iload C.1 C.2.1 dX12_add_67 (lv_at hl 0 rfl) ?_
  refine lv_iconst (v := (0:Int32)) C.1 C.2.1 dX12_add_69 (by decide) ?_
  obtain ⟨hi, h⟩ := ix_some h
  refine rf_zast C G 6 rfl (by decide) rfl rfl hi dX12_add_70 (fun H locs G => ?_)
  refine rf_nm G h (fun ρ_8 G h => ?_)
  refine lv_aload_n C.1 C.2.1 dX12_add_71 rfl (lv_at hl 1 rfl) ?_
  refine lv_dup C.1 C.2.1 dX12_add_72 rfl ?_
  refine gf_12 C G dX12_add_73 ?_
  refine lv_iconst (v := (1:Int32)) C.1 C.2.1 dX12_add_76 (by decide) ?_
  refine lv_iadd C.1 C.2.1 dX12_add_77 ?_
  refine pf_12 C G dX12_add_78 (fun H locs G => ?_)
  refine rf_nm G h (fun ρ_9 G h => ?_)
  refine lv_iload C.1 C.2.1 dX12_add_81 (lv_at hl 0 rfl) ?_
  exact rf_iret C G h dX12_add_83
noncomputable def fq_add (x1 : Int32) (x2 : Int32) (x3 : Int32) (x4 : Int32) (x5 : Int32) (ρ : rf_S) : Option (Int32 × rf_S) := bq_add_0 x1 x2 x3 x4 x5 ρ
theorem kq_add (l : Launch) (D : rf_D) (h0 : Nat) {r : Int32} {x1 : Int32} {x2 : Int32} {x3 : Int32} {x4 : Int32} {x5 : Int32} {ρ ρ' : rf_S} (h : fq_add x1 x2 x3 x4 x5 ρ = some (r, ρ')) : rf_Met l D h0 yX12_add cX12_add 7 (some .int) 0 0 [.ref h0, .int x1, .int x2, .int x3, .int x4, .int x5] ρ (some (.int r)) ρ' :=
  rf_of rfl cc_add (Nat.le_of_ble_eq_true rfl) (fun p e s m args below meth c ls C G hl => wq_add_0 C h G hl)
abbrev cX12_term : ByteArray := prog_14_method_5_code
def yX12_term : MethodName := ⟨RX12, "term", "(IIII)I"⟩
theorem dX12_term_0 : decode cX12_term 0 = .ok (.aload_n 0, 1) := by decide +kernel
theorem dX12_term_1 : decode cX12_term 1 = .ok (.iload_n 1, 1) := by decide +kernel
theorem dX12_term_2 : decode cX12_term 2 = .ok (.iload_n 2, 1) := by decide +kernel
theorem dX12_term_3 : decode cX12_term 3 = .ok (.iload_n 3, 1) := by decide +kernel
theorem dX12_term_4 : decode cX12_term 4 = .ok (.iload 4, 2) := by decide +kernel
theorem dX12_term_6 : decode cX12_term 6 = .ok (.invokevirtual 296, 3) := by decide +kernel
theorem dX12_term_9 : decode cX12_term 9 = .ok (.istore 5, 2) := by decide +kernel
theorem dX12_term_11 : decode cX12_term 11 = .ok (.iload 5, 2) := by decide +kernel
theorem dX12_term_13 : decode cX12_term 13 = .ok (.ifCond .lt 8, 3) := by decide +kernel
theorem dX12_term_16 : decode cX12_term 16 = .ok (.iload 5, 2) := by decide +kernel
theorem dX12_term_18 : decode cX12_term 18 = .ok (.goto 20, 3) := by decide +kernel
theorem dX12_term_21 : decode cX12_term 21 = .ok (.aload_n 0, 1) := by decide +kernel
theorem dX12_term_22 : decode cX12_term 22 = .ok (.iload_n 1, 1) := by decide +kernel
theorem dX12_term_23 : decode cX12_term 23 = .ok (.iload_n 2, 1) := by decide +kernel
theorem dX12_term_24 : decode cX12_term 24 = .ok (.iload_n 3, 1) := by decide +kernel
theorem dX12_term_25 : decode cX12_term 25 = .ok (.iload 4, 2) := by decide +kernel
theorem dX12_term_27 : decode cX12_term 27 = .ok (.iload_n 1, 1) := by decide +kernel
theorem dX12_term_28 : decode cX12_term 28 = .ok (.iload_n 2, 1) := by decide +kernel
theorem dX12_term_29 : decode cX12_term 29 = .ok (.iload_n 3, 1) := by decide +kernel
theorem dX12_term_30 : decode cX12_term 30 = .ok (.iload 4, 2) := by decide +kernel
theorem dX12_term_32 : decode cX12_term 32 = .ok (.invokestatic 290, 3) := by decide +kernel
theorem dX12_term_35 : decode cX12_term 35 = .ok (.invokevirtual 299, 3) := by decide +kernel
theorem dX12_term_38 : decode cX12_term 38 = .ok (.ireturn, 1) := by decide +kernel
theorem cc_term : Cond.code yX12_term cX12_term 6 (some .int) ∈ rf_tb := rf_at 1519 (by decide +kernel) (by decide +kernel)
theorem cw_term : rf_wV yX12_term cX12_term 6 (some .int) 271 4 := ⟨⟨rf_at 1516 (by decide +kernel) (by decide +kernel), rf_at 1518 (by decide +kernel) (by decide +kernel), rf_sel (q := (yX12_term, 122)) 77 (by decide +kernel) (by decide +kernel), cc_term⟩, rfl, by decide +kernel⟩
noncomputable def bq_term_0 (x1 : Int32) (x2 : Int32) (x3 : Int32) (x4 : Int32) (ρ : rf_S) : Option (Int32 × rf_S) := bd2 (fq_peek x1 x2 x3 x4 ρ) (fun r_2 ρ_1 => (if r_2 < 0 then bd2 (fq_hash x1 x2 x3 x4 ρ_1) (fun r_4 ρ_3 => bd2 (fq_add x1 x2 x3 x4 r_4 ρ_3) (fun r_6 ρ_5 => some (r_6, ρ_5))) else some (r_2, ρ_1)))
set_option maxHeartbeats 4000000 in
theorem wq_term_0 (C : rf_C D p s m args meth c cX12_term 6 (some .int)) {r : Int32} {x1 : Int32} {x2 : Int32} {x3 : Int32} {x4 : Int32} {ρ ρ' : rf_S} {H : Heap} {locs : List Loc} {ls : Array Slot} (h : bq_term_0 x1 x2 x3 x4 ρ = some (r, ρ')) (G : rf_G D h0 s ρ H locs) (hl : lv_has ls 6 [(0, .ref h0), (1, .int x1), (2, .int x2), (3, .int x3), (4, .int x4)]) : W p l e ({ frames := 2, cells := 0, slots := 0, locals := 49 }) s m args below meth c H locs 0 0 (MQ below (rf_Q D h0 (some (.int r)) ρ') args s 0 0 (rf_A h0)) (F0 m 0 ls []) := by
  unfold bq_term_0 at h
  refine lv_aload_n C.1 C.2.1 dX12_term_0 rfl (lv_at hl 0 rfl) ?_
  refine lv_iload_n C.1 C.2.1 dX12_term_1 rfl (lv_at hl 1 rfl) ?_
  refine lv_iload_n C.1 C.2.1 dX12_term_2 rfl (lv_at hl 2 rfl) ?_
  refine lv_iload_n C.1 C.2.1 dX12_term_3 rfl (lv_at hl 3 rfl) ?_
  refine lv_iload C.1 C.2.1 dX12_term_4 (lv_at hl 4 rfl) ?_
  obtain ⟨r_2, ρ_1, hq, h⟩ := bd2_some h
  refine rf_callV (rest := []) C G cw_peek [.int x1, .int x2, .int x3, .int x4] _ (kq_peek l D h0 hq) (Nat.le_of_ble_eq_true rfl) (Nat.le_of_ble_eq_true rfl) rfl rfl hl.1 (Nat.le_of_ble_eq_true rfl) (Nat.zero_le _) (Nat.zero_le _) dX12_term_6 (fun H locs G => ?_)
  refine W.eq (g2 := F0 m 9 ls [.int r_2]) rfl ?_
  refine lv_istore (lv' := [(5, .int r_2), (0, .ref h0), (1, .int x1), (2, .int x2), (3, .int x3), (4, .int x4)]) C.1 C.2.1 dX12_term_9 hl (by decide) rfl (fun ls hl => ?_)
  refine lv_iload C.1 C.2.1 dX12_term_11 (lv_at hl 0 rfl) ?_
  refine lv_if_lt (tgt := 21) C.1 C.2.1 dX12_term_13 (by decide) (fun hc => ?_) (fun hc => ?_)
  · rw [if_pos hc] at h
    refine lv_aload_n C.1 C.2.1 dX12_term_21 rfl (lv_at hl 1 rfl) ?_
    refine lv_iload_n C.1 C.2.1 dX12_term_22 rfl (lv_at hl 2 rfl) ?_
    refine lv_iload_n C.1 C.2.1 dX12_term_23 rfl (lv_at hl 3 rfl) ?_
    refine lv_iload_n C.1 C.2.1 dX12_term_24 rfl (lv_at hl 4 rfl) ?_
    refine lv_iload C.1 C.2.1 dX12_term_25 (lv_at hl 5 rfl) ?_
    refine lv_iload_n C.1 C.2.1 dX12_term_27 rfl (lv_at hl 2 rfl) ?_
    refine lv_iload_n C.1 C.2.1 dX12_term_28 rfl (lv_at hl 3 rfl) ?_
    refine lv_iload_n C.1 C.2.1 dX12_term_29 rfl (lv_at hl 4 rfl) ?_
    refine lv_iload C.1 C.2.1 dX12_term_30 (lv_at hl 5 rfl) ?_
    obtain ⟨r_4, ρ_3, hq, h⟩ := bd2_some h
    refine rf_callS (rest := [.int x4, .int x3, .int x2, .int x1, .ref h0]) C G cw_hash [.int x1, .int x2, .int x3, .int x4] _ (kq_hash l D h0 hq) (Nat.le_of_ble_eq_true rfl) (Nat.le_of_ble_eq_true rfl) rfl rfl hl.1 (Nat.le_of_ble_eq_true rfl) (Nat.zero_le _) (Nat.zero_le _) dX12_term_32 (fun H locs G => ?_)
    refine W.eq (g2 := F0 m 35 ls [.int r_4, .int x4, .int x3, .int x2, .int x1, .ref h0]) rfl ?_
    obtain ⟨r_6, ρ_5, hq, h⟩ := bd2_some h
    refine rf_callV (rest := []) C G cw_add [.int x1, .int x2, .int x3, .int x4, .int r_4] _ (kq_add l D h0 hq) (Nat.le_of_ble_eq_true rfl) (Nat.le_of_ble_eq_true rfl) rfl rfl hl.1 (Nat.le_of_ble_eq_true rfl) (Nat.zero_le _) (Nat.zero_le _) dX12_term_35 (fun H locs G => ?_)
    refine W.eq (g2 := F0 m 38 ls [.int r_6]) rfl ?_
    exact rf_iret C G h dX12_term_38
  · rw [if_neg hc] at h
    refine lv_iload C.1 C.2.1 dX12_term_16 (lv_at hl 0 rfl) ?_
    refine lv_goto (tgt := 38) C.1 C.2.1 dX12_term_18 (by decide) ?_
    exact rf_iret C G h dX12_term_38
noncomputable def fq_term (x1 : Int32) (x2 : Int32) (x3 : Int32) (x4 : Int32) (ρ : rf_S) : Option (Int32 × rf_S) := bq_term_0 x1 x2 x3 x4 ρ
theorem kq_term (l : Launch) (D : rf_D) (h0 : Nat) {r : Int32} {x1 : Int32} {x2 : Int32} {x3 : Int32} {x4 : Int32} {ρ ρ' : rf_S} (h : fq_term x1 x2 x3 x4 ρ = some (r, ρ')) : rf_Met l D h0 yX12_term cX12_term 6 (some .int) 2 49 [.ref h0, .int x1, .int x2, .int x3, .int x4] ρ (some (.int r)) ρ' :=
  rf_of rfl cc_term (Nat.le_of_ble_eq_true rfl) (fun p e s m args below meth c ls C G hl => wq_term_0 C h G hl)
end RQ0
