section RQ0
variable {p : Program} {l : Launch} {e : Env} {s : State} {m : MethodId} {args : Array Value} {below : List Frame} {meth : Method} {c : Code} {D : rf_D} {h0 : Nat}
abbrev cX12_hash : ByteArray := prog_14_method_2_code
def yX12_hash : MethodName := ⟨RX12, "hash", "(IIII)I"⟩
theorem dX12_hash_0 : decode cX12_hash 0 = .ok (.iload_n 0, 1) := by decide +kernel
theorem dX12_hash_1 : decode cX12_hash 1 = .ok (.ldc_w 287, 3) := by decide +kernel
theorem dX12_hash_4 : decode cX12_hash 4 = .ok (.imul, 1) := by decide +kernel
theorem dX12_hash_5 : decode cX12_hash 5 = .ok (.iload_n 1, 1) := by decide +kernel
theorem dX12_hash_6 : decode cX12_hash 6 = .ok (.iadd, 1) := by decide +kernel
theorem dX12_hash_7 : decode cX12_hash 7 = .ok (.istore 4, 2) := by decide +kernel
theorem dX12_hash_9 : decode cX12_hash 9 = .ok (.iload 4, 2) := by decide +kernel
theorem dX12_hash_11 : decode cX12_hash 11 = .ok (.iload 4, 2) := by decide +kernel
theorem dX12_hash_13 : decode cX12_hash 13 = .ok (.bipush 15, 2) := by decide +kernel
theorem dX12_hash_15 : decode cX12_hash 15 = .ok (.iushr, 1) := by decide +kernel
theorem dX12_hash_16 : decode cX12_hash 16 = .ok (.ixor, 1) := by decide +kernel
theorem dX12_hash_17 : decode cX12_hash 17 = .ok (.ldc_w 288, 3) := by decide +kernel
theorem dX12_hash_20 : decode cX12_hash 20 = .ok (.imul, 1) := by decide +kernel
theorem dX12_hash_21 : decode cX12_hash 21 = .ok (.iload_n 2, 1) := by decide +kernel
theorem dX12_hash_22 : decode cX12_hash 22 = .ok (.iadd, 1) := by decide +kernel
theorem dX12_hash_23 : decode cX12_hash 23 = .ok (.istore 4, 2) := by decide +kernel
theorem dX12_hash_25 : decode cX12_hash 25 = .ok (.iload 4, 2) := by decide +kernel
theorem dX12_hash_27 : decode cX12_hash 27 = .ok (.iload 4, 2) := by decide +kernel
theorem dX12_hash_29 : decode cX12_hash 29 = .ok (.bipush 13, 2) := by decide +kernel
theorem dX12_hash_31 : decode cX12_hash 31 = .ok (.iushr, 1) := by decide +kernel
theorem dX12_hash_32 : decode cX12_hash 32 = .ok (.ixor, 1) := by decide +kernel
theorem dX12_hash_33 : decode cX12_hash 33 = .ok (.ldc_w 289, 3) := by decide +kernel
theorem dX12_hash_36 : decode cX12_hash 36 = .ok (.imul, 1) := by decide +kernel
theorem dX12_hash_37 : decode cX12_hash 37 = .ok (.iload_n 3, 1) := by decide +kernel
theorem dX12_hash_38 : decode cX12_hash 38 = .ok (.iadd, 1) := by decide +kernel
theorem dX12_hash_39 : decode cX12_hash 39 = .ok (.istore 4, 2) := by decide +kernel
theorem dX12_hash_41 : decode cX12_hash 41 = .ok (.iload 4, 2) := by decide +kernel
theorem dX12_hash_43 : decode cX12_hash 43 = .ok (.iload 4, 2) := by decide +kernel
theorem dX12_hash_45 : decode cX12_hash 45 = .ok (.bipush 16, 2) := by decide +kernel
theorem dX12_hash_47 : decode cX12_hash 47 = .ok (.iushr, 1) := by decide +kernel
theorem dX12_hash_48 : decode cX12_hash 48 = .ok (.ixor, 1) := by decide +kernel
theorem dX12_hash_49 : decode cX12_hash 49 = .ok (.sipush 16383, 3) := by decide +kernel
theorem dX12_hash_52 : decode cX12_hash 52 = .ok (.iand, 1) := by decide +kernel
theorem dX12_hash_53 : decode cX12_hash 53 = .ok (.ireturn, 1) := by decide +kernel
theorem cc_hash : Cond.code yX12_hash cX12_hash 5 (some .int) ∈ rf_tb := rf_at 1526 (by decide +kernel) (by decide +kernel)
theorem cw_hash : rf_wS yX12_hash cX12_hash 5 (some .int) 290 4 := ⟨⟨rf_at 1524 (by decide +kernel) (by decide +kernel), rf_at 1525 (by decide +kernel) (by decide +kernel), cc_hash⟩, rfl, by decide +kernel⟩
theorem kc_287 : Cond.constant RX12 287 (625341585 : Int32) ∈ rf_tb := rf_at 1527 (by decide +kernel) (by decide +kernel)
theorem kc_288 : Cond.constant RX12 288 (739982445 : Int32) ∈ rf_tb := rf_at 1528 (by decide +kernel) (by decide +kernel)
theorem kc_289 : Cond.constant RX12 289 (695872825 : Int32) ∈ rf_tb := rf_at 1529 (by decide +kernel) (by decide +kernel)
noncomputable def bq_hash_0 (x0 : Int32) (x1 : Int32) (x2 : Int32) (x3 : Int32) (ρ : rf_S) : Option (Int32 × rf_S) := vl ((x0 * (625341585:Int32)) + x1) (fun x4_1 => vl (((x4_1 ^^^ ((x4_1.toUInt32 >>> ((15:Int32).toUInt32 &&& Int32.toUInt32 31)).toInt32)) * (739982445:Int32)) + x2) (fun x4_2 => vl (((x4_2 ^^^ ((x4_2.toUInt32 >>> ((13:Int32).toUInt32 &&& Int32.toUInt32 31)).toInt32)) * (695872825:Int32)) + x3) (fun x4_3 => some (((x4_3 ^^^ ((x4_3.toUInt32 >>> ((16:Int32).toUInt32 &&& Int32.toUInt32 31)).toInt32)) &&& (16383:Int32)), ρ))))
set_option maxHeartbeats 4000000 in
theorem wq_hash_0 (C : rf_C D p s m args meth c cX12_hash 5 (some .int)) {r : Int32} {x0 : Int32} {x1 : Int32} {x2 : Int32} {x3 : Int32} {ρ ρ' : rf_S} {H : Heap} {locs : List Loc} {ls : Array Slot} (h : bq_hash_0 x0 x1 x2 x3 ρ = some (r, ρ')) (G : rf_G D h0 s ρ H locs) (hl : lv_has ls 5 [(0, .int x0), (1, .int x1), (2, .int x2), (3, .int x3)]) : W p l e ({ frames := 0, cells := 0, slots := 0, locals := 0 }) s m args below meth c H locs 0 0 (MQ below (rf_Q D h0 (some (.int r)) ρ') args s 0 0 (rf_A h0)) (F0 m 0 ls []) := by
  unfold bq_hash_0 at h
  refine lv_iload_n C.1 C.2.1 dX12_hash_0 rfl (lv_at hl 0 rfl) ?_
  refine lv_ldcw (v := (625341585:Int32)) C.1 C.2.1 C.2.2.2.1 (C.2.2.2.2.1 _ kc_287) dX12_hash_1 ?_
  refine lv_imul C.1 C.2.1 dX12_hash_4 ?_
  refine lv_iload_n C.1 C.2.1 dX12_hash_5 rfl (lv_at hl 1 rfl) ?_
  refine lv_iadd C.1 C.2.1 dX12_hash_6 ?_
  refine vt_i h (fun x4_1 h => ?_)
  refine lv_istore (lv' := [(4, .int x4_1), (0, .int x0), (1, .int x1), (2, .int x2), (3, .int x3)]) C.1 C.2.1 dX12_hash_7 hl (by decide) rfl (fun ls hl => ?_)
  refine lv_iload C.1 C.2.1 dX12_hash_9 (lv_at hl 0 rfl) ?_
  refine lv_iload C.1 C.2.1 dX12_hash_11 (lv_at hl 0 rfl) ?_
  refine lv_bipush (v := (15:Int32)) C.1 C.2.1 dX12_hash_13 (by decide) ?_
  refine lv_iushr C.1 C.2.1 dX12_hash_15 rfl ?_
  refine lv_ixor C.1 C.2.1 dX12_hash_16 ?_
  refine lv_ldcw (v := (739982445:Int32)) C.1 C.2.1 C.2.2.2.1 (C.2.2.2.2.1 _ kc_288) dX12_hash_17 ?_
  refine lv_imul C.1 C.2.1 dX12_hash_20 ?_
  refine lv_iload_n C.1 C.2.1 dX12_hash_21 rfl (lv_at hl 3 rfl) ?_
  refine lv_iadd C.1 C.2.1 dX12_hash_22 ?_
  refine vt_i h (fun x4_2 h => ?_)
  refine lv_istore (lv' := [(4, .int x4_2), (0, .int x0), (1, .int x1), (2, .int x2), (3, .int x3)]) C.1 C.2.1 dX12_hash_23 hl (by decide) rfl (fun ls hl => ?_)
  refine lv_iload C.1 C.2.1 dX12_hash_25 (lv_at hl 0 rfl) ?_
  refine lv_iload C.1 C.2.1 dX12_hash_27 (lv_at hl 0 rfl) ?_
  refine lv_bipush (v := (13:Int32)) C.1 C.2.1 dX12_hash_29 (by decide) ?_
  refine lv_iushr C.1 C.2.1 dX12_hash_31 rfl ?_
  refine lv_ixor C.1 C.2.1 dX12_hash_32 ?_
  refine lv_ldcw (v := (695872825:Int32)) C.1 C.2.1 C.2.2.2.1 (C.2.2.2.2.1 _ kc_289) dX12_hash_33 ?_
  refine lv_imul C.1 C.2.1 dX12_hash_36 ?_
  refine lv_iload_n C.1 C.2.1 dX12_hash_37 rfl (lv_at hl 4 rfl) ?_
  refine lv_iadd C.1 C.2.1 dX12_hash_38 ?_
  refine vt_i h (fun x4_3 h => ?_)
  refine lv_istore (lv' := [(4, .int x4_3), (0, .int x0), (1, .int x1), (2, .int x2), (3, .int x3)]) C.1 C.2.1 dX12_hash_39 hl (by decide) rfl (fun ls hl => ?_)
  refine lv_iload C.1 C.2.1 dX12_hash_41 (lv_at hl 0 rfl) ?_
  refine lv_iload C.1 C.2.1 dX12_hash_43 (lv_at hl 0 rfl) ?_
  refine lv_bipush (v := (16:Int32)) C.1 C.2.1 dX12_hash_45 (by decide) ?_
  refine lv_iushr C.1 C.2.1 dX12_hash_47 rfl ?_
  refine lv_ixor C.1 C.2.1 dX12_hash_48 ?_
  refine lv_sipush (v := (16383:Int32)) C.1 C.2.1 dX12_hash_49 (by decide) ?_
  refine lv_iand C.1 C.2.1 dX12_hash_52 ?_
  exact rf_iret C G h dX12_hash_53
noncomputable def fq_hash (x0 : Int32) (x1 : Int32) (x2 : Int32) (x3 : Int32) (ρ : rf_S) : Option (Int32 × rf_S) := bq_hash_0 x0 x1 x2 x3 ρ
theorem kq_hash (l : Launch) (D : rf_D) (h0 : Nat) {r : Int32} {x0 : Int32} {x1 : Int32} {x2 : Int32} {x3 : Int32} {ρ ρ' : rf_S} (h : fq_hash x0 x1 x2 x3 ρ = some (r, ρ')) : rf_Met l D h0 yX12_hash cX12_hash 5 (some .int) 0 0 [.int x0, .int x1, .int x2, .int x3] ρ (some (.int r)) ρ' :=
  rf_of rfl cc_hash (Nat.le_of_ble_eq_true rfl) (fun p e s m args below meth c ls C G hl => wq_hash_0 C h G hl)
abbrev cX12_peek : ByteArray := prog_14_method_3_code
def yX12_peek : MethodName := ⟨RX12, "peek", "(IIII)I"⟩
theorem dX12_peek_0 : decode cX12_peek 0 = .ok (.aload_n 0, 1) := by decide +kernel
theorem dX12_peek_1 : decode cX12_peek 1 = .ok (.getfield 44, 3) := by decide +kernel
theorem dX12_peek_4 : decode cX12_peek 4 = .ok (.iload_n 1, 1) := by decide +kernel
theorem dX12_peek_5 : decode cX12_peek 5 = .ok (.iload_n 2, 1) := by decide +kernel
theorem dX12_peek_6 : decode cX12_peek 6 = .ok (.iload_n 3, 1) := by decide +kernel
theorem dX12_peek_7 : decode cX12_peek 7 = .ok (.iload 4, 2) := by decide +kernel
theorem dX12_peek_9 : decode cX12_peek 9 = .ok (.invokestatic 290, 3) := by decide +kernel
theorem dX12_peek_12 : decode cX12_peek 12 = .ok (.iaload, 1) := by decide +kernel
theorem dX12_peek_13 : decode cX12_peek 13 = .ok (.istore 5, 2) := by decide +kernel
theorem dX12_peek_15 : decode cX12_peek 15 = .ok (.iload 5, 2) := by decide +kernel
theorem dX12_peek_17 : decode cX12_peek 17 = .ok (.ifCond .lt 60, 3) := by decide +kernel
theorem dX12_peek_20 : decode cX12_peek 20 = .ok (.aload_n 0, 1) := by decide +kernel
theorem dX12_peek_21 : decode cX12_peek 21 = .ok (.getfield 8, 3) := by decide +kernel
theorem dX12_peek_24 : decode cX12_peek 24 = .ok (.iload 5, 2) := by decide +kernel
theorem dX12_peek_26 : decode cX12_peek 26 = .ok (.baload, 1) := by decide +kernel
theorem dX12_peek_27 : decode cX12_peek 27 = .ok (.iload_n 1, 1) := by decide +kernel
theorem dX12_peek_28 : decode cX12_peek 28 = .ok (.if_icmp .ne 37, 3) := by decide +kernel
theorem dX12_peek_31 : decode cX12_peek 31 = .ok (.aload_n 0, 1) := by decide +kernel
theorem dX12_peek_32 : decode cX12_peek 32 = .ok (.getfield 14, 3) := by decide +kernel
theorem dX12_peek_35 : decode cX12_peek 35 = .ok (.iload 5, 2) := by decide +kernel
theorem dX12_peek_37 : decode cX12_peek 37 = .ok (.iaload, 1) := by decide +kernel
theorem dX12_peek_38 : decode cX12_peek 38 = .ok (.iload_n 2, 1) := by decide +kernel
theorem dX12_peek_39 : decode cX12_peek 39 = .ok (.if_icmp .ne 26, 3) := by decide +kernel
theorem dX12_peek_42 : decode cX12_peek 42 = .ok (.aload_n 0, 1) := by decide +kernel
theorem dX12_peek_43 : decode cX12_peek 43 = .ok (.getfield 18, 3) := by decide +kernel
theorem dX12_peek_46 : decode cX12_peek 46 = .ok (.iload 5, 2) := by decide +kernel
theorem dX12_peek_48 : decode cX12_peek 48 = .ok (.iaload, 1) := by decide +kernel
theorem dX12_peek_49 : decode cX12_peek 49 = .ok (.iload_n 3, 1) := by decide +kernel
theorem dX12_peek_50 : decode cX12_peek 50 = .ok (.if_icmp .ne 15, 3) := by decide +kernel
theorem dX12_peek_53 : decode cX12_peek 53 = .ok (.aload_n 0, 1) := by decide +kernel
theorem dX12_peek_54 : decode cX12_peek 54 = .ok (.getfield 21, 3) := by decide +kernel
theorem dX12_peek_57 : decode cX12_peek 57 = .ok (.iload 5, 2) := by decide +kernel
theorem dX12_peek_59 : decode cX12_peek 59 = .ok (.iaload, 1) := by decide +kernel
theorem dX12_peek_60 : decode cX12_peek 60 = .ok (.iload 4, 2) := by decide +kernel
theorem dX12_peek_62 : decode cX12_peek 62 = .ok (.if_icmp .eq 15, 3) := by decide +kernel
theorem dX12_peek_65 : decode cX12_peek 65 = .ok (.aload_n 0, 1) := by decide +kernel
theorem dX12_peek_66 : decode cX12_peek 66 = .ok (.getfield 24, 3) := by decide +kernel
theorem dX12_peek_69 : decode cX12_peek 69 = .ok (.iload 5, 2) := by decide +kernel
theorem dX12_peek_71 : decode cX12_peek 71 = .ok (.iaload, 1) := by decide +kernel
theorem dX12_peek_72 : decode cX12_peek 72 = .ok (.istore 5, 2) := by decide +kernel
theorem dX12_peek_74 : decode cX12_peek 74 = .ok (.goto (-59), 3) := by decide +kernel
theorem dX12_peek_77 : decode cX12_peek 77 = .ok (.iload 5, 2) := by decide +kernel
theorem dX12_peek_79 : decode cX12_peek 79 = .ok (.ireturn, 1) := by decide +kernel
theorem cc_peek : Cond.code yX12_peek cX12_peek 6 (some .int) ∈ rf_tb := rf_at 1523 (by decide +kernel) (by decide +kernel)
theorem cw_peek : rf_wV yX12_peek cX12_peek 6 (some .int) 296 4 := ⟨⟨rf_at 1520 (by decide +kernel) (by decide +kernel), rf_at 1522 (by decide +kernel) (by decide +kernel), rf_sel (q := (yX12_peek, 122)) 78 (by decide +kernel) (by decide +kernel), cc_peek⟩, rfl, by decide +kernel⟩
noncomputable def bq_peek_65i15 (x1 : Int32) (x2 : Int32) (x3 : Int32) (x4 : Int32) (x5 : Int32) (ρ : rf_S) : Option ((Int32 × rf_S) ⊕ (Int32 × rf_S)) := ix x5 112000 (vl (ρ.1 5 x5.toNatClampNeg) (fun x5_4 => some (.inl (x5_4, ρ))))
set_option maxHeartbeats 4000000 in
theorem wq_peek_65i15 (C : rf_C D p s m args meth c cX12_peek 6 (some .int)) {r : Int32} {x1 : Int32} {x2 : Int32} {x3 : Int32} {x4 : Int32} {x5 : Int32} {ρ ρ' : rf_S} {H : Heap} {locs : List Loc} {ls : Array Slot} {o : (Int32 × rf_S) ⊕ (Int32 × rf_S)} (h : bq_peek_65i15 x1 x2 x3 x4 x5 ρ = some o) (hP : Sum.elim (fun z : (Int32 × rf_S) => ∀ (H : Heap) (locs : List Loc) (ls : Array Slot), rf_G D h0 s z.2 H locs → lv_has ls 6 [(0, .ref h0), (1, .int x1), (2, .int x2), (3, .int x3), (4, .int x4), (5, .int z.1)] → W p l e ({ frames := 1, cells := 0, slots := 0, locals := 24 }) s m args below meth c H locs 0 0 (MQ below (rf_Q D h0 (some (.int r)) ρ') args s 0 0 (rf_A h0)) (F0 m 15 ls [])) (fun z : (Int32 × rf_S) => ∀ (H : Heap) (locs : List Loc) (ls : Array Slot), rf_G D h0 s z.2 H locs → lv_has ls 6 [(0, .ref h0), (1, .int x1), (2, .int x2), (3, .int x3), (4, .int x4), (5, .int z.1)] → W p l e ({ frames := 1, cells := 0, slots := 0, locals := 24 }) s m args below meth c H locs 0 0 (MQ below (rf_Q D h0 (some (.int r)) ρ') args s 0 0 (rf_A h0)) (F0 m 77 ls [])) o) (G : rf_G D h0 s ρ H locs) (hl : lv_has ls 6 [(0, .ref h0), (1, .int x1), (2, .int x2), (3, .int x3), (4, .int x4), (5, .int x5)]) : W p l e ({ frames := 1, cells := 0, slots := 0, locals := 24 }) s m args below meth c H locs 0 0 (MQ below (rf_Q D h0 (some (.int r)) ρ') args s 0 0 (rf_A h0)) (F0 m 65 ls []) := by
  unfold bq_peek_65i15 at h
  refine lv_aload_n C.1 C.2.1 dX12_peek_65 rfl (lv_at hl 0 rfl) ?_
  refine gf_4 C G dX12_peek_66 ?_
  refine lv_iload C.1 C.2.1 dX12_peek_69 (lv_at hl 5 rfl) ?_
  obtain ⟨hi, h⟩ := ix_some h
  refine rf_iald C G 5 rfl (by decide) rfl rfl hi dX12_peek_71 ?_
  refine vt_i h (fun x5_4 h => ?_)
  refine lv_istore (lv' := [(5, .int x5_4), (0, .ref h0), (1, .int x1), (2, .int x2), (3, .int x3), (4, .int x4)]) C.1 C.2.1 dX12_peek_72 hl (by decide) rfl (fun ls hl => ?_)
  refine lv_goto (tgt := 15) C.1 C.2.1 dX12_peek_74 (by decide) ?_
  cases h
  exact hP _ _ _ G (lv_sub hl [1, 2, 3, 4, 5, 0] rfl)
noncomputable def lq_peek_15 (x1 : Int32) (x2 : Int32) (x3 : Int32) (x4 : Int32) (x5 : Int32) (ρ : rf_S) : Option ((Int32 × rf_S) ⊕ (Int32 × rf_S)) := (if x5 < 0 then some (.inr (x5, ρ)) else ix x5 112000 ((if (ρ.1 1 x5.toNatClampNeg) = x1 then ix x5 112000 ((if (ρ.1 2 x5.toNatClampNeg) = x2 then ix x5 112000 ((if (ρ.1 3 x5.toNatClampNeg) = x3 then ix x5 112000 ((if (ρ.1 4 x5.toNatClampNeg) = x4 then some (.inr (x5, ρ)) else bq_peek_65i15 x1 x2 x3 x4 x5 ρ)) else bq_peek_65i15 x1 x2 x3 x4 x5 ρ)) else bq_peek_65i15 x1 x2 x3 x4 x5 ρ)) else bq_peek_65i15 x1 x2 x3 x4 x5 ρ)))
noncomputable def eq_peek_15 (x1 : Int32) (x2 : Int32) (x3 : Int32) (x4 : Int32) (x5 : Int32) (ρ : rf_S) : Option (Int32 × rf_S) := some (x5, ρ)
noncomputable def bq_peek_15 (x1 : Int32) (x2 : Int32) (x3 : Int32) (x4 : Int32) (x5 : Int32) (ρ : rf_S) : Option (Int32 × rf_S) := (lp (fun z : (Int32 × rf_S) => lq_peek_15 x1 x2 x3 x4 z.1 z.2) (x5, ρ)).bind (fun z => eq_peek_15 x1 x2 x3 x4 z.1 z.2)
set_option maxHeartbeats 4000000 in
theorem wq_peek_15 (C : rf_C D p s m args meth c cX12_peek 6 (some .int)) {r : Int32} {x1 : Int32} {x2 : Int32} {x3 : Int32} {x4 : Int32} {x5 : Int32} {ρ ρ' : rf_S} {H : Heap} {locs : List Loc} {ls : Array Slot} (h : bq_peek_15 x1 x2 x3 x4 x5 ρ = some (r, ρ')) (G : rf_G D h0 s ρ H locs) (hl : lv_has ls 6 [(0, .ref h0), (1, .int x1), (2, .int x2), (3, .int x3), (4, .int x4), (5, .int x5)]) : W p l e ({ frames := 1, cells := 0, slots := 0, locals := 24 }) s m args below meth c H locs 0 0 (MQ below (rf_Q D h0 (some (.int r)) ρ') args s 0 0 (rf_A h0)) (F0 m 15 ls []) := by
  unfold bq_peek_15 at h
  obtain ⟨y, hy, h⟩ := bd_some h
  have hE : (fun z : (Int32 × rf_S) => ∀ (H : Heap) (locs : List Loc) (ls : Array Slot), rf_G D h0 s z.2 H locs → lv_has ls 6 [(0, .ref h0), (1, .int x1), (2, .int x2), (3, .int x3), (4, .int x4), (5, .int z.1)] → W p l e ({ frames := 1, cells := 0, slots := 0, locals := 24 }) s m args below meth c H locs 0 0 (MQ below (rf_Q D h0 (some (.int r)) ρ') args s 0 0 (rf_A h0)) (F0 m 77 ls [])) y := by
    intro H locs ls G hl
    obtain ⟨x5, ρ⟩ := y
    dsimp only at h G hl
    unfold eq_peek_15 at h
    refine lv_iload C.1 C.2.1 dX12_peek_77 (lv_at hl 5 rfl) ?_
    exact rf_iret C G h dX12_peek_79
  refine lp_recE (fun z : (Int32 × rf_S) => ∀ (H : Heap) (locs : List Loc) (ls : Array Slot), rf_G D h0 s z.2 H locs → lv_has ls 6 [(0, .ref h0), (1, .int x1), (2, .int x2), (3, .int x3), (4, .int x4), (5, .int z.1)] → W p l e ({ frames := 1, cells := 0, slots := 0, locals := 24 }) s m args below meth c H locs 0 0 (MQ below (rf_Q D h0 (some (.int r)) ρ') args s 0 0 (rf_A h0)) (F0 m 15 ls [])) (fun z : (Int32 × rf_S) => ∀ (H : Heap) (locs : List Loc) (ls : Array Slot), rf_G D h0 s z.2 H locs → lv_has ls 6 [(0, .ref h0), (1, .int x1), (2, .int x2), (3, .int x3), (4, .int x4), (5, .int z.1)] → W p l e ({ frames := 1, cells := 0, slots := 0, locals := 24 }) s m args below meth c H locs 0 0 (MQ below (rf_Q D h0 (some (.int r)) ρ') args s 0 0 (rf_A h0)) (F0 m 77 ls [])) ?_ _ _ hy hE _ _ _ G hl
  clear hE hy G hl h
  intro z o h hP H locs ls G hl
  obtain ⟨x5, ρ⟩ := z
  dsimp only at h G hl
  unfold lq_peek_15 at h
  refine lv_iload C.1 C.2.1 dX12_peek_15 (lv_at hl 5 rfl) ?_
  refine lv_if_lt (tgt := 77) C.1 C.2.1 dX12_peek_17 (by decide) (fun hc => ?_) (fun hc => ?_)
  · rw [if_pos hc] at h
    cases h
    exact hP _ _ _ G (lv_sub hl [0, 1, 2, 3, 4, 5] rfl)
  · rw [if_neg hc] at h
    refine lv_aload_n C.1 C.2.1 dX12_peek_20 rfl (lv_at hl 0 rfl) ?_
    refine gf_0 C G dX12_peek_21 ?_
    refine lv_iload C.1 C.2.1 dX12_peek_24 (lv_at hl 5 rfl) ?_
    obtain ⟨hi, h⟩ := ix_some h
    refine rf_bald C G 1 rfl (by decide) rfl rfl hi dX12_peek_26 ?_
    refine lv_iload_n C.1 C.2.1 dX12_peek_27 rfl (lv_at hl 1 rfl) ?_
    refine lv_icmp_ne (tgt := 65) C.1 C.2.1 dX12_peek_28 (by decide) (fun hc => ?_) (fun hc => ?_)
    · rw [if_neg hc] at h
      exact wq_peek_65i15 C h hP G (lv_sub hl [0, 1, 2, 3, 4, 5] rfl)
    · rw [if_pos hc] at h
      refine lv_aload_n C.1 C.2.1 dX12_peek_31 rfl (lv_at hl 0 rfl) ?_
      refine gf_1 C G dX12_peek_32 ?_
      refine lv_iload C.1 C.2.1 dX12_peek_35 (lv_at hl 5 rfl) ?_
      obtain ⟨hi, h⟩ := ix_some h
      refine rf_iald C G 2 rfl (by decide) rfl rfl hi dX12_peek_37 ?_
      refine lv_iload_n C.1 C.2.1 dX12_peek_38 rfl (lv_at hl 2 rfl) ?_
      refine lv_icmp_ne (tgt := 65) C.1 C.2.1 dX12_peek_39 (by decide) (fun hc => ?_) (fun hc => ?_)
      · rw [if_neg hc] at h
        exact wq_peek_65i15 C h hP G (lv_sub hl [0, 1, 2, 3, 4, 5] rfl)
      · rw [if_pos hc] at h
        refine lv_aload_n C.1 C.2.1 dX12_peek_42 rfl (lv_at hl 0 rfl) ?_
        refine gf_2 C G dX12_peek_43 ?_
        refine lv_iload C.1 C.2.1 dX12_peek_46 (lv_at hl 5 rfl) ?_
        obtain ⟨hi, h⟩ := ix_some h
        refine rf_iald C G 3 rfl (by decide) rfl rfl hi dX12_peek_48 ?_
        refine lv_iload_n C.1 C.2.1 dX12_peek_49 rfl (lv_at hl 3 rfl) ?_
        refine lv_icmp_ne (tgt := 65) C.1 C.2.1 dX12_peek_50 (by decide) (fun hc => ?_) (fun hc => ?_)
        · rw [if_neg hc] at h
          exact wq_peek_65i15 C h hP G (lv_sub hl [0, 1, 2, 3, 4, 5] rfl)
        · rw [if_pos hc] at h
          refine lv_aload_n C.1 C.2.1 dX12_peek_53 rfl (lv_at hl 0 rfl) ?_
          refine gf_3 C G dX12_peek_54 ?_
          refine lv_iload C.1 C.2.1 dX12_peek_57 (lv_at hl 5 rfl) ?_
          obtain ⟨hi, h⟩ := ix_some h
          refine rf_iald C G 4 rfl (by decide) rfl rfl hi dX12_peek_59 ?_
          refine lv_iload C.1 C.2.1 dX12_peek_60 (lv_at hl 4 rfl) ?_
          refine lv_icmp_eq (tgt := 77) C.1 C.2.1 dX12_peek_62 (by decide) (fun hc => ?_) (fun hc => ?_)
          · rw [if_pos hc] at h
            cases h
            exact hP _ _ _ G (lv_sub hl [0, 1, 2, 3, 4, 5] rfl)
          · rw [if_neg hc] at h
            exact wq_peek_65i15 C h hP G (lv_sub hl [0, 1, 2, 3, 4, 5] rfl)
noncomputable def bq_peek_0 (x1 : Int32) (x2 : Int32) (x3 : Int32) (x4 : Int32) (ρ : rf_S) : Option (Int32 × rf_S) := bd2 (fq_hash x1 x2 x3 x4 ρ) (fun r_2 ρ_1 => ix r_2 16384 (vl (ρ_1.1 11 r_2.toNatClampNeg) (fun x5_3 => bq_peek_15 x1 x2 x3 x4 x5_3 ρ_1)))
set_option maxHeartbeats 4000000 in
theorem wq_peek_0 (C : rf_C D p s m args meth c cX12_peek 6 (some .int)) {r : Int32} {x1 : Int32} {x2 : Int32} {x3 : Int32} {x4 : Int32} {ρ ρ' : rf_S} {H : Heap} {locs : List Loc} {ls : Array Slot} (h : bq_peek_0 x1 x2 x3 x4 ρ = some (r, ρ')) (G : rf_G D h0 s ρ H locs) (hl : lv_has ls 6 [(0, .ref h0), (1, .int x1), (2, .int x2), (3, .int x3), (4, .int x4)]) : W p l e ({ frames := 1, cells := 0, slots := 0, locals := 24 }) s m args below meth c H locs 0 0 (MQ below (rf_Q D h0 (some (.int r)) ρ') args s 0 0 (rf_A h0)) (F0 m 0 ls []) := by
  unfold bq_peek_0 at h
  refine lv_aload_n C.1 C.2.1 dX12_peek_0 rfl (lv_at hl 0 rfl) ?_
  refine gf_11 C G dX12_peek_1 ?_
  refine lv_iload_n C.1 C.2.1 dX12_peek_4 rfl (lv_at hl 1 rfl) ?_
  refine lv_iload_n C.1 C.2.1 dX12_peek_5 rfl (lv_at hl 2 rfl) ?_
  refine lv_iload_n C.1 C.2.1 dX12_peek_6 rfl (lv_at hl 3 rfl) ?_
  refine lv_iload C.1 C.2.1 dX12_peek_7 (lv_at hl 4 rfl) ?_
  obtain ⟨r_2, ρ_1, hq, h⟩ := bd2_some h
  refine rf_callS (rest := [.ref (h0 + 11)]) C G cw_hash [.int x1, .int x2, .int x3, .int x4] _ (kq_hash l D h0 hq) (Nat.le_of_ble_eq_true rfl) (Nat.le_of_ble_eq_true rfl) rfl rfl hl.1 (Nat.le_of_ble_eq_true rfl) (Nat.zero_le _) (Nat.zero_le _) dX12_peek_9 (fun H locs G => ?_)
  refine W.eq (g2 := F0 m 12 ls [.int r_2, .ref (h0 + 11)]) rfl ?_
  obtain ⟨hi, h⟩ := ix_some h
  refine rf_iald C G 11 rfl (by decide) rfl rfl hi dX12_peek_12 ?_
  refine vt_i h (fun x5_3 h => ?_)
  refine lv_istore (lv' := [(5, .int x5_3), (0, .ref h0), (1, .int x1), (2, .int x2), (3, .int x3), (4, .int x4)]) C.1 C.2.1 dX12_peek_13 hl (by decide) rfl (fun ls hl => ?_)
  exact wq_peek_15 C h G (lv_sub hl [1, 2, 3, 4, 5, 0] rfl)
noncomputable def fq_peek (x1 : Int32) (x2 : Int32) (x3 : Int32) (x4 : Int32) (ρ : rf_S) : Option (Int32 × rf_S) := bq_peek_0 x1 x2 x3 x4 ρ
theorem kq_peek (l : Launch) (D : rf_D) (h0 : Nat) {r : Int32} {x1 : Int32} {x2 : Int32} {x3 : Int32} {x4 : Int32} {ρ ρ' : rf_S} (h : fq_peek x1 x2 x3 x4 ρ = some (r, ρ')) : rf_Met l D h0 yX12_peek cX12_peek 6 (some .int) 1 24 [.ref h0, .int x1, .int x2, .int x3, .int x4] ρ (some (.int r)) ρ' :=
  rf_of rfl cc_peek (Nat.le_of_ble_eq_true rfl) (fun p e s m args below meth c ls C G hl => wq_peek_0 C h G hl)
abbrev cX12_add : ByteArray := prog_14_method_4_code
def yX12_add : MethodName := ⟨RX12, "add", "(IIIII)I"⟩
theorem dX12_add_0 : decode cX12_add 0 = .ok (.aload_n 0, 1) := by decide +kernel
theorem dX12_add_1 : decode cX12_add 1 = .ok (.getfield 293, 3) := by decide +kernel
theorem dX12_add_4 : decode cX12_add 4 = .ok (.istore 6, 2) := by decide +kernel
theorem dX12_add_6 : decode cX12_add 6 = .ok (.aload_n 0, 1) := by decide +kernel
theorem dX12_add_7 : decode cX12_add 7 = .ok (.getfield 8, 3) := by decide +kernel
theorem dX12_add_10 : decode cX12_add 10 = .ok (.iload 6, 2) := by decide +kernel
theorem dX12_add_12 : decode cX12_add 12 = .ok (.iload_n 1, 1) := by decide +kernel
theorem dX12_add_13 : decode cX12_add 13 = .ok (.i2b, 1) := by decide +kernel
theorem dX12_add_14 : decode cX12_add 14 = .ok (.bastore, 1) := by decide +kernel
theorem dX12_add_15 : decode cX12_add 15 = .ok (.aload_n 0, 1) := by decide +kernel
theorem dX12_add_16 : decode cX12_add 16 = .ok (.getfield 14, 3) := by decide +kernel
theorem dX12_add_19 : decode cX12_add 19 = .ok (.iload 6, 2) := by decide +kernel
theorem dX12_add_21 : decode cX12_add 21 = .ok (.iload_n 2, 1) := by decide +kernel
theorem dX12_add_22 : decode cX12_add 22 = .ok (.iastore, 1) := by decide +kernel
theorem dX12_add_23 : decode cX12_add 23 = .ok (.aload_n 0, 1) := by decide +kernel
theorem dX12_add_24 : decode cX12_add 24 = .ok (.getfield 18, 3) := by decide +kernel
theorem dX12_add_27 : decode cX12_add 27 = .ok (.iload 6, 2) := by decide +kernel
theorem dX12_add_29 : decode cX12_add 29 = .ok (.iload_n 3, 1) := by decide +kernel
theorem dX12_add_30 : decode cX12_add 30 = .ok (.iastore, 1) := by decide +kernel
theorem dX12_add_31 : decode cX12_add 31 = .ok (.aload_n 0, 1) := by decide +kernel
theorem dX12_add_32 : decode cX12_add 32 = .ok (.getfield 21, 3) := by decide +kernel
theorem dX12_add_35 : decode cX12_add 35 = .ok (.iload 6, 2) := by decide +kernel
theorem dX12_add_37 : decode cX12_add 37 = .ok (.iload 4, 2) := by decide +kernel
theorem dX12_add_39 : decode cX12_add 39 = .ok (.iastore, 1) := by decide +kernel
theorem dX12_add_40 : decode cX12_add 40 = .ok (.aload_n 0, 1) := by decide +kernel
theorem dX12_add_41 : decode cX12_add 41 = .ok (.getfield 24, 3) := by decide +kernel
theorem dX12_add_44 : decode cX12_add 44 = .ok (.iload 6, 2) := by decide +kernel
theorem dX12_add_46 : decode cX12_add 46 = .ok (.aload_n 0, 1) := by decide +kernel
theorem dX12_add_47 : decode cX12_add 47 = .ok (.getfield 44, 3) := by decide +kernel
theorem dX12_add_50 : decode cX12_add 50 = .ok (.iload 5, 2) := by decide +kernel
theorem dX12_add_52 : decode cX12_add 52 = .ok (.iaload, 1) := by decide +kernel
theorem dX12_add_53 : decode cX12_add 53 = .ok (.iastore, 1) := by decide +kernel
theorem dX12_add_54 : decode cX12_add 54 = .ok (.aload_n 0, 1) := by decide +kernel
theorem dX12_add_55 : decode cX12_add 55 = .ok (.getfield 44, 3) := by decide +kernel
theorem dX12_add_58 : decode cX12_add 58 = .ok (.iload 5, 2) := by decide +kernel
theorem dX12_add_60 : decode cX12_add 60 = .ok (.iload 6, 2) := by decide +kernel
theorem dX12_add_62 : decode cX12_add 62 = .ok (.iastore, 1) := by decide +kernel
theorem dX12_add_63 : decode cX12_add 63 = .ok (.aload_n 0, 1) := by decide +kernel
theorem dX12_add_64 : decode cX12_add 64 = .ok (.getfield 27, 3) := by decide +kernel
theorem dX12_add_67 : decode cX12_add 67 = .ok (.iload 6, 2) := by decide +kernel
theorem dX12_add_69 : decode cX12_add 69 = .ok (.iconst 0, 1) := by decide +kernel
theorem dX12_add_70 : decode cX12_add 70 = .ok (.bastore, 1) := by decide +kernel
theorem dX12_add_71 : decode cX12_add 71 = .ok (.aload_n 0, 1) := by decide +kernel
theorem dX12_add_72 : decode cX12_add 72 = .ok (.dup, 1) := by decide +kernel
theorem dX12_add_73 : decode cX12_add 73 = .ok (.getfield 293, 3) := by decide +kernel
theorem dX12_add_76 : decode cX12_add 76 = .ok (.iconst 1, 1) := by decide +kernel
theorem dX12_add_77 : decode cX12_add 77 = .ok (.iadd, 1) := by decide +kernel
theorem dX12_add_78 : decode cX12_add 78 = .ok (.putfield 293, 3) := by decide +kernel
theorem dX12_add_81 : decode cX12_add 81 = .ok (.iload 6, 2) := by decide +kernel
theorem dX12_add_83 : decode cX12_add 83 = .ok (.ireturn, 1) := by decide +kernel
theorem cc_add : Cond.code yX12_add cX12_add 7 (some .int) ∈ rf_tb := rf_at 1533 (by decide +kernel) (by decide +kernel)
theorem cw_add : rf_wV yX12_add cX12_add 7 (some .int) 299 5 := ⟨⟨rf_at 1530 (by decide +kernel) (by decide +kernel), rf_at 1532 (by decide +kernel) (by decide +kernel), rf_sel (q := (yX12_add, 122)) 79 (by decide +kernel) (by decide +kernel), cc_add⟩, rfl, by decide +kernel⟩
noncomputable def bq_add_0 (x1 : Int32) (x2 : Int32) (x3 : Int32) (x4 : Int32) (x5 : Int32) (ρ : rf_S) : Option (Int32 × rf_S) := vl (ρ.1 0 12) (fun x6_1 => ix x6_1 112000 (vl (rf_w ρ 1 x6_1.toNatClampNeg ((x1.toInt8.toInt32).toInt8.toInt32)) (fun ρ_2 => ix x6_1 112000 (vl (rf_w ρ_2 2 x6_1.toNatClampNeg x2) (fun ρ_3 => ix x6_1 112000 (vl (rf_w ρ_3 3 x6_1.toNatClampNeg x3) (fun ρ_4 => ix x6_1 112000 (vl (rf_w ρ_4 4 x6_1.toNatClampNeg x4) (fun ρ_5 => ix x5 16384 (ix x6_1 112000 (vl (rf_w ρ_5 5 x6_1.toNatClampNeg (ρ_5.1 11 x5.toNatClampNeg)) (fun ρ_6 => ix x5 16384 (vl (rf_w ρ_6 11 x5.toNatClampNeg x6_1) (fun ρ_7 => ix x6_1 112000 (vl (rf_w ρ_7 6 x6_1.toNatClampNeg (vp_nar .boolean (0:Int32))) (fun ρ_8 => vl (rf_w ρ_8 0 12 ((ρ_8.1 0 12) + (1:Int32))) (fun ρ_9 => some (x6_1, ρ_9))))))))))))))))))
set_option maxHeartbeats 4000000 in
theorem wq_add_0 (C : rf_C D p s m args meth c cX12_add 7 (some .int)) {r : Int32} {x1 : Int32} {x2 : Int32} {x3 : Int32} {x4 : Int32} {x5 : Int32} {ρ ρ' : rf_S} {H : Heap} {locs : List Loc} {ls : Array Slot} (h : bq_add_0 x1 x2 x3 x4 x5 ρ = some (r, ρ')) (G : rf_G D h0 s ρ H locs) (hl : lv_has ls 7 [(0, .ref h0), (1, .int x1), (2, .int x2), (3, .int x3), (4, .int x4), (5, .int x5)]) : W p l e ({ frames := 0, cells := 0, slots := 0, locals := 0 }) s m args below meth c H locs 0 0 (MQ below (rf_Q D h0 (some (.int r)) ρ') args s 0 0 (rf_A h0)) (F0 m 0 ls []) := by
  unfold bq_add_0 at h
  refine lv_aload_n C.1 C.2.1 dX12_add_0 rfl (lv_at hl 0 rfl) ?_
  refine gf_12 C G dX12_add_1 ?_
  refine vt_i h (fun x6_1 h => ?_)
  refine lv_istore (lv' := [(6, .int x6_1), (0, .ref h0), (1, .int x1), (2, .int x2), (3, .int x3), (4, .int x4), (5, .int x5)]) C.1 C.2.1 dX12_add_4 hl (by decide) rfl (fun ls hl => ?_)
  refine lv_aload_n C.1 C.2.1 dX12_add_6 rfl (lv_at hl 1 rfl) ?_
  refine gf_0 C G dX12_add_7 ?_
  refine lv_iload C.1 C.2.1 dX12_add_10 (lv_at hl 0 rfl) ?_
  refine lv_iload_n C.1 C.2.1 dX12_add_12 rfl (lv_at hl 2 rfl) ?_
  refine lv_i2b C.1 C.2.1 dX12_add_13 rfl ?_
  obtain ⟨hi, h⟩ := ix_some h
  refine rf_bast C G 1 rfl (by decide) rfl rfl hi dX12_add_14 (fun H locs G => ?_)
  refine rf_nm G h (fun ρ_2 G h => ?_)
  refine lv_aload_n C.1 C.2.1 dX12_add_15 rfl (lv_at hl 1 rfl) ?_
  refine gf_1 C G dX12_add_16 ?_
  refine lv_iload C.1 C.2.1 dX12_add_19 (lv_at hl 0 rfl) ?_
  refine lv_iload_n C.1 C.2.1 dX12_add_21 rfl (lv_at hl 3 rfl) ?_
  obtain ⟨hi, h⟩ := ix_some h
  refine rf_iast C G 2 rfl (by decide) rfl rfl hi dX12_add_22 (fun H locs G => ?_)
  refine rf_nm G h (fun ρ_3 G h => ?_)
  refine lv_aload_n C.1 C.2.1 dX12_add_23 rfl (lv_at hl 1 rfl) ?_
  refine gf_2 C G dX12_add_24 ?_
  refine lv_iload C.1 C.2.1 dX12_add_27 (lv_at hl 0 rfl) ?_
  refine lv_iload_n C.1 C.2.1 dX12_add_29 rfl (lv_at hl 4 rfl) ?_
  obtain ⟨hi, h⟩ := ix_some h
  refine rf_iast C G 3 rfl (by decide) rfl rfl hi dX12_add_30 (fun H locs G => ?_)
  refine rf_nm G h (fun ρ_4 G h => ?_)
  refine lv_aload_n C.1 C.2.1 dX12_add_31 rfl (lv_at hl 1 rfl) ?_
  refine gf_3 C G dX12_add_32 ?_
  refine lv_iload C.1 C.2.1 dX12_add_35 (lv_at hl 0 rfl) ?_
  refine lv_iload C.1 C.2.1 dX12_add_37 (lv_at hl 5 rfl) ?_
  obtain ⟨hi, h⟩ := ix_some h
  refine rf_iast C G 4 rfl (by decide) rfl rfl hi dX12_add_39 (fun H locs G => ?_)
  refine rf_nm G h (fun ρ_5 G h => ?_)
  refine lv_aload_n C.1 C.2.1 dX12_add_40 rfl (lv_at hl 1 rfl) ?_
  refine gf_4 C G dX12_add_41 ?_
  refine lv_iload C.1 C.2.1 dX12_add_44 (lv_at hl 0 rfl) ?_
  refine lv_aload_n C.1 C.2.1 dX12_add_46 rfl (lv_at hl 1 rfl) ?_
  refine gf_11 C G dX12_add_47 ?_
  refine lv_iload C.1 C.2.1 dX12_add_50 (lv_at hl 6 rfl) ?_
  obtain ⟨hi, h⟩ := ix_some h
  refine rf_iald C G 11 rfl (by decide) rfl rfl hi dX12_add_52 ?_
  obtain ⟨hi, h⟩ := ix_some h
  refine rf_iast C G 5 rfl (by decide) rfl rfl hi dX12_add_53 (fun H locs G => ?_)
  refine rf_nm G h (fun ρ_6 G h => ?_)
  refine lv_aload_n C.1 C.2.1 dX12_add_54 rfl (lv_at hl 1 rfl) ?_
  refine gf_11 C G dX12_add_55 ?_
  refine lv_iload C.1 C.2.1 dX12_add_58 (lv_at hl 6 rfl) ?_
  refine lv_iload C.1 C.2.1 dX12_add_60 (lv_at hl 0 rfl) ?_
  obtain ⟨hi, h⟩ := ix_some h
  refine rf_iast C G 11 rfl (by decide) rfl rfl hi dX12_add_62 (fun H locs G => ?_)
  refine rf_nm G h (fun ρ_7 G h => ?_)
  refine lv_aload_n C.1 C.2.1 dX12_add_63 rfl (lv_at hl 1 rfl) ?_
  refine gf_5 C G dX12_add_64 ?_
  refine lv_iload C.1 C.2.1 dX12_add_67 (lv_at hl 0 rfl) ?_
  refine lv_iconst (v := (0:Int32)) C.1 C.2.1 dX12_add_69 (by decide) ?_
  obtain ⟨hi, h⟩ := ix_some h
  refine rf_zast C G 6 rfl (by decide) rfl rfl hi dX12_add_70 (fun H locs G => ?_)
  refine rf_nm G h (fun ρ_8 G h => ?_)
  refine lv_aload_n C.1 C.2.1 dX12_add_71 rfl (lv_at hl 1 rfl) ?_
  refine lv_dup C.1 C.2.1 dX12_add_72 rfl ?_
  refine gf_12 C G dX12_add_73 ?_
  refine lv_iconst (v := (1:Int32)) C.1 C.2.1 dX12_add_76 (by decide) ?_
  refine lv_iadd C.1 C.2.1 dX12_add_77 ?_
  refine pf_12 C G dX12_add_78 (fun H locs G => ?_)
  refine rf_nm G h (fun ρ_9 G h => ?_)
  refine lv_iload C.1 C.2.1 dX12_add_81 (lv_at hl 0 rfl) ?_
  exact rf_iret C G h dX12_add_83
noncomputable def fq_add (x1 : Int32) (x2 : Int32) (x3 : Int32) (x4 : Int32) (x5 : Int32) (ρ : rf_S) : Option (Int32 × rf_S) := bq_add_0 x1 x2 x3 x4 x5 ρ
theorem kq_add (l : Launch) (D : rf_D) (h0 : Nat) {r : Int32} {x1 : Int32} {x2 : Int32} {x3 : Int32} {x4 : Int32} {x5 : Int32} {ρ ρ' : rf_S} (h : fq_add x1 x2 x3 x4 x5 ρ = some (r, ρ')) : rf_Met l D h0 yX12_add cX12_add 7 (some .int) 0 0 [.ref h0, .int x1, .int x2, .int x3, .int x4, .int x5] ρ (some (.int r)) ρ' :=
  rf_of rfl cc_add (Nat.le_of_ble_eq_true rfl) (fun p e s m args below meth c ls C G hl => wq_add_0 C h G hl)
abbrev cX12_term : ByteArray := prog_14_method_5_code
def yX12_term : MethodName := ⟨RX12, "term", "(IIII)I"⟩
theorem dX12_term_0 : decode cX12_term 0 = .ok (.aload_n 0, 1) := by decide +kernel
theorem dX12_term_1 : decode cX12_term 1 = .ok (.iload_n 1, 1) := by decide +kernel
theorem dX12_term_2 : decode cX12_term 2 = .ok (.iload_n 2, 1) := by decide +kernel
theorem dX12_term_3 : decode cX12_term 3 = .ok (.iload_n 3, 1) := by decide +kernel
theorem dX12_term_4 : decode cX12_term 4 = .ok (.iload 4, 2) := by decide +kernel
theorem dX12_term_6 : decode cX12_term 6 = .ok (.invokevirtual 296, 3) := by decide +kernel
theorem dX12_term_9 : decode cX12_term 9 = .ok (.istore 5, 2) := by decide +kernel
theorem dX12_term_11 : decode cX12_term 11 = .ok (.iload 5, 2) := by decide +kernel
theorem dX12_term_13 : decode cX12_term 13 = .ok (.ifCond .lt 8, 3) := by decide +kernel
theorem dX12_term_16 : decode cX12_term 16 = .ok (.iload 5, 2) := by decide +kernel
theorem dX12_term_18 : decode cX12_term 18 = .ok (.goto 20, 3) := by decide +kernel
theorem dX12_term_21 : decode cX12_term 21 = .ok (.aload_n 0, 1) := by decide +kernel
theorem dX12_term_22 : decode cX12_term 22 = .ok (.iload_n 1, 1) := by decide +kernel
theorem dX12_term_23 : decode cX12_term 23 = .ok (.iload_n 2, 1) := by decide +kernel
theorem dX12_term_24 : decode cX12_term 24 = .ok (.iload_n 3, 1) := by decide +kernel
theorem dX12_term_25 : decode cX12_term 25 = .ok (.iload 4, 2) := by decide +kernel
theorem dX12_term_27 : decode cX12_term 27 = .ok (.iload_n 1, 1) := by decide +kernel
theorem dX12_term_28 : decode cX12_term 28 = .ok (.iload_n 2, 1) := by decide +kernel
theorem dX12_term_29 : decode cX12_term 29 = .ok (.iload_n 3, 1) := by decide +kernel
theorem dX12_term_30 : decode cX12_term 30 = .ok (.iload 4, 2) := by decide +kernel
theorem dX12_term_32 : decode cX12_term 32 = .ok (.invokestatic 290, 3) := by decide +kernel
theorem dX12_term_35 : decode cX12_term 35 = .ok (.invokevirtual 299, 3) := by decide +kernel
theorem dX12_term_38 : decode cX12_term 38 = .ok (.ireturn, 1) := by decide +kernel
theorem cc_term : Cond.code yX12_term cX12_term 6 (some .int) ∈ rf_tb := rf_at 1519 (by decide +kernel) (by decide +kernel)
theorem cw_term : rf_wV yX12_term cX12_term 6 (some .int) 271 4 := ⟨⟨rf_at 1516 (by decide +kernel) (by decide +kernel), rf_at 1518 (by decide +kernel) (by decide +kernel), rf_sel (q := (yX12_term, 122)) 77 (by decide +kernel) (by decide +kernel), cc_term⟩, rfl, by decide +kernel⟩
noncomputable def bq_term_0 (x1 : Int32) (x2 : Int32) (x3 : Int32) (x4 : Int32) (ρ : rf_S) : Option (Int32 × rf_S) := bd2 (fq_peek x1 x2 x3 x4 ρ) (fun r_2 ρ_1 => (if r_2 < 0 then bd2 (fq_hash x1 x2 x3 x4 ρ_1) (fun r_4 ρ_3 => bd2 (fq_add x1 x2 x3 x4 r_4 ρ_3) (fun r_6 ρ_5 => some (r_6, ρ_5))) else some (r_2, ρ_1)))
set_option maxHeartbeats 4000000 in
theorem wq_term_0 (C : rf_C D p s m args meth c cX12_term 6 (some .int)) {r : Int32} {x1 : Int32} {x2 : Int32} {x3 : Int32} {x4 : Int32} {ρ ρ' : rf_S} {H : Heap} {locs : List Loc} {ls : Array Slot} (h : bq_term_0 x1 x2 x3 x4 ρ = some (r, ρ')) (G : rf_G D h0 s ρ H locs) (hl : lv_has ls 6 [(0, .ref h0), (1, .int x1), (2, .int x2), (3, .int x3), (4, .int x4)]) : W p l e ({ frames := 2, cells := 0, slots := 0, locals := 49 }) s m args below meth c H locs 0 0 (MQ below (rf_Q D h0 (some (.int r)) ρ') args s 0 0 (rf_A h0)) (F0 m 0 ls []) := by
  unfold bq_term_0 at h
  refine lv_aload_n C.1 C.2.1 dX12_term_0 rfl (lv_at hl 0 rfl) ?_
  refine lv_iload_n C.1 C.2.1 dX12_term_1 rfl (lv_at hl 1 rfl) ?_
  refine lv_iload_n C.1 C.2.1 dX12_term_2 rfl (lv_at hl 2 rfl) ?_
  refine lv_iload_n C.1 C.2.1 dX12_term_3 rfl (lv_at hl 3 rfl) ?_
  refine lv_iload C.1 C.2.1 dX12_term_4 (lv_at hl 4 rfl) ?_
  obtain ⟨r_2, ρ_1, hq, h⟩ := bd2_some h
  refine rf_callV (rest := []) C G cw_peek [.int x1, .int x2, .int x3, .int x4] _ (kq_peek l D h0 hq) (Nat.le_of_ble_eq_true rfl) (Nat.le_of_ble_eq_true rfl) rfl rfl hl.1 (Nat.le_of_ble_eq_true rfl) (Nat.zero_le _) (Nat.zero_le _) dX12_term_6 (fun H locs G => ?_)
  refine W.eq (g2 := F0 m 9 ls [.int r_2]) rfl ?_
  refine lv_istore (lv' := [(5, .int r_2), (0, .ref h0), (1, .int x1), (2, .int x2), (3, .int x3), (4, .int x4)]) C.1 C.2.1 dX12_term_9 hl (by decide) rfl (fun ls hl => ?_)
  refine lv_iload C.1 C.2.1 dX12_term_11 (lv_at hl 0 rfl) ?_
  refine lv_if_lt (tgt := 21) C.1 C.2.1 dX12_term_13 (by decide) (fun hc => ?_) (fun hc => ?_)
  · rw [if_pos hc] at h
    refine lv_aload_n C.1 C.2.1 dX12_term_21 rfl (lv_at hl 1 rfl) ?_
    refine lv_iload_n C.1 C.2.1 dX12_term_22 rfl (lv_at hl 2 rfl) ?_
    refine lv_iload_n C.1 C.2.1 dX12_term_23 rfl (lv_at hl 3 rfl) ?_
    refine lv_iload_n C.1 C.2.1 dX12_term_24 rfl (lv_at hl 4 rfl) ?_
    refine lv_iload C.1 C.2.1 dX12_term_25 (lv_at hl 5 rfl) ?_
    refine lv_iload_n C.1 C.2.1 dX12_term_27 rfl (lv_at hl 2 rfl) ?_
    refine lv_iload_n C.1 C.2.1 dX12_term_28 rfl (lv_at hl 3 rfl) ?_
    refine lv_iload_n C.1 C.2.1 dX12_term_29 rfl (lv_at hl 4 rfl) ?_
    refine lv_iload C.1 C.2.1 dX12_term_30 (lv_at hl 5 rfl) ?_
    obtain ⟨r_4, ρ_3, hq, h⟩ := bd2_some h
    refine rf_callS (rest := [.int x4, .int x3, .int x2, .int x1, .ref h0]) C G cw_hash [.int x1, .int x2, .int x3, .int x4] _ (kq_hash l D h0 hq) (Nat.le_of_ble_eq_true rfl) (Nat.le_of_ble_eq_true rfl) rfl rfl hl.1 (Nat.le_of_ble_eq_true rfl) (Nat.zero_le _) (Nat.zero_le _) dX12_term_32 (fun H locs G => ?_)
    refine W.eq (g2 := F0 m 35 ls [.int r_4, .int x4, .int x3, .int x2, .int x1, .ref h0]) rfl ?_
    obtain ⟨r_6, ρ_5, hq, h⟩ := bd2_some h
    refine rf_callV (rest := []) C G cw_add [.int x1, .int x2, .int x3, .int x4, .int r_4] _ (kq_add l D h0 hq) (Nat.le_of_ble_eq_true rfl) (Nat.le_of_ble_eq_true rfl) rfl rfl hl.1 (Nat.le_of_ble_eq_true rfl) (Nat.zero_le _) (Nat.zero_le _) dX12_term_35 (fun H locs G => ?_)
    refine W.eq (g2 := F0 m 38 ls [.int r_6]) rfl ?_
    exact rf_iret C G h dX12_term_38
  · rw [if_neg hc] at h
    refine lv_iload C.1 C.2.1 dX12_term_16 (lv_at hl 0 rfl) ?_
    refine lv_goto (tgt := 38) C.1 C.2.1 dX12_term_18 (by decide) ?_
    exact rf_iret C G h dX12_term_38
noncomputable def fq_term (x1 : Int32) (x2 : Int32) (x3 : Int32) (x4 : Int32) (ρ : rf_S) : Option (Int32 × rf_S) := bq_term_0 x1 x2 x3 x4 ρ
theorem kq_term (l : Launch) (D : rf_D) (h0 : Nat) {r : Int32} {x1 : Int32} {x2 : Int32} {x3 : Int32} {x4 : Int32} {ρ ρ' : rf_S} (h : fq_term x1 x2 x3 x4 ρ = some (r, ρ')) : rf_Met l D h0 yX12_term cX12_term 6 (some .int) 2 49 [.ref h0, .int x1, .int x2, .int x3, .int x4] ρ (some (.int r)) ρ' :=
  rf_of rfl cc_term (Nat.le_of_ble_eq_true rfl) (fun p e s m args below meth c ls C G hl => wq_term_0 C h G hl)
abbrev cX12_rowTerm : ByteArray := prog_14_method_6_code
def yX12_rowTerm : MethodName := ⟨RX12, "rowTerm", "(II)I"⟩
theorem dX12_rowTerm_0 : decode cX12_rowTerm 0 = .ok (.iload_n 2, 1) := by decide +kernel
theorem dX12_rowTerm_1 : decode cX12_rowTerm 1 = .ok (.istore_n 3, 1) := by decide +kernel
theorem dX12_rowTerm_2 : decode cX12_rowTerm 2 = .ok (.iconst 0, 1) := by decide +kernel
theorem dX12_rowTerm_3 : decode cX12_rowTerm 3 = .ok (.istore 4, 2) := by decide +kernel
theorem dX12_rowTerm_5 : decode cX12_rowTerm 5 = .ok (.iload 4, 2) := by decide +kernel
theorem dX12_rowTerm_7 : decode cX12_rowTerm 7 = .ok (.iload_n 2, 1) := by decide +kernel
theorem dX12_rowTerm_8 : decode cX12_rowTerm 8 = .ok (.if_icmp .ge 24, 3) := by decide +kernel
theorem dX12_rowTerm_11 : decode cX12_rowTerm 11 = .ok (.iload_n 3, 1) := by decide +kernel
theorem dX12_rowTerm_12 : decode cX12_rowTerm 12 = .ok (.bipush 31, 2) := by decide +kernel
theorem dX12_rowTerm_14 : decode cX12_rowTerm 14 = .ok (.imul, 1) := by decide +kernel
theorem dX12_rowTerm_15 : decode cX12_rowTerm 15 = .ok (.aload_n 0, 1) := by decide +kernel
theorem dX12_rowTerm_16 : decode cX12_rowTerm 16 = .ok (.getfield 101, 3) := by decide +kernel
theorem dX12_rowTerm_19 : decode cX12_rowTerm 19 = .ok (.iload_n 1, 1) := by decide +kernel
theorem dX12_rowTerm_20 : decode cX12_rowTerm 20 = .ok (.iload 4, 2) := by decide +kernel
theorem dX12_rowTerm_22 : decode cX12_rowTerm 22 = .ok (.iadd, 1) := by decide +kernel
theorem dX12_rowTerm_23 : decode cX12_rowTerm 23 = .ok (.iaload, 1) := by decide +kernel
theorem dX12_rowTerm_24 : decode cX12_rowTerm 24 = .ok (.iadd, 1) := by decide +kernel
theorem dX12_rowTerm_25 : decode cX12_rowTerm 25 = .ok (.istore_n 3, 1) := by decide +kernel
theorem dX12_rowTerm_26 : decode cX12_rowTerm 26 = .ok (.iinc 4 1, 3) := by decide +kernel
theorem dX12_rowTerm_29 : decode cX12_rowTerm 29 = .ok (.goto (-24), 3) := by decide +kernel
theorem dX12_rowTerm_32 : decode cX12_rowTerm 32 = .ok (.iconst 1, 1) := by decide +kernel
theorem dX12_rowTerm_33 : decode cX12_rowTerm 33 = .ok (.iload_n 3, 1) := by decide +kernel
theorem dX12_rowTerm_34 : decode cX12_rowTerm 34 = .ok (.iload_n 2, 1) := by decide +kernel
theorem dX12_rowTerm_35 : decode cX12_rowTerm 35 = .ok (.iconst 0, 1) := by decide +kernel
theorem dX12_rowTerm_36 : decode cX12_rowTerm 36 = .ok (.invokestatic 290, 3) := by decide +kernel
theorem dX12_rowTerm_39 : decode cX12_rowTerm 39 = .ok (.istore_n 3, 1) := by decide +kernel
theorem dX12_rowTerm_40 : decode cX12_rowTerm 40 = .ok (.aload_n 0, 1) := by decide +kernel
theorem dX12_rowTerm_41 : decode cX12_rowTerm 41 = .ok (.getfield 44, 3) := by decide +kernel
theorem dX12_rowTerm_44 : decode cX12_rowTerm 44 = .ok (.iload_n 3, 1) := by decide +kernel
theorem dX12_rowTerm_45 : decode cX12_rowTerm 45 = .ok (.iaload, 1) := by decide +kernel
theorem dX12_rowTerm_46 : decode cX12_rowTerm 46 = .ok (.istore 4, 2) := by decide +kernel
theorem dX12_rowTerm_48 : decode cX12_rowTerm 48 = .ok (.iload 4, 2) := by decide +kernel
theorem dX12_rowTerm_50 : decode cX12_rowTerm 50 = .ok (.ifCond .lt 106, 3) := by decide +kernel
theorem dX12_rowTerm_53 : decode cX12_rowTerm 53 = .ok (.aload_n 0, 1) := by decide +kernel
theorem dX12_rowTerm_54 : decode cX12_rowTerm 54 = .ok (.getfield 8, 3) := by decide +kernel
theorem dX12_rowTerm_57 : decode cX12_rowTerm 57 = .ok (.iload 4, 2) := by decide +kernel
theorem dX12_rowTerm_59 : decode cX12_rowTerm 59 = .ok (.baload, 1) := by decide +kernel
theorem dX12_rowTerm_60 : decode cX12_rowTerm 60 = .ok (.iconst 1, 1) := by decide +kernel
theorem dX12_rowTerm_61 : decode cX12_rowTerm 61 = .ok (.if_icmp .ne 18, 3) := by decide +kernel
theorem dX12_rowTerm_64 : decode cX12_rowTerm 64 = .ok (.aload_n 0, 1) := by decide +kernel
theorem dX12_rowTerm_65 : decode cX12_rowTerm 65 = .ok (.getfield 18, 3) := by decide +kernel
theorem dX12_rowTerm_68 : decode cX12_rowTerm 68 = .ok (.iload 4, 2) := by decide +kernel
theorem dX12_rowTerm_70 : decode cX12_rowTerm 70 = .ok (.iaload, 1) := by decide +kernel
theorem dX12_rowTerm_71 : decode cX12_rowTerm 71 = .ok (.iload_n 2, 1) := by decide +kernel
theorem dX12_rowTerm_72 : decode cX12_rowTerm 72 = .ok (.if_icmp .ne 7, 3) := by decide +kernel
theorem dX12_rowTerm_75 : decode cX12_rowTerm 75 = .ok (.iconst 1, 1) := by decide +kernel
theorem dX12_rowTerm_76 : decode cX12_rowTerm 76 = .ok (.goto 4, 3) := by decide +kernel
theorem dX12_rowTerm_79 : decode cX12_rowTerm 79 = .ok (.iconst 0, 1) := by decide +kernel
theorem dX12_rowTerm_80 : decode cX12_rowTerm 80 = .ok (.istore 5, 2) := by decide +kernel
theorem dX12_rowTerm_82 : decode cX12_rowTerm 82 = .ok (.iconst 0, 1) := by decide +kernel
theorem dX12_rowTerm_83 : decode cX12_rowTerm 83 = .ok (.istore 6, 2) := by decide +kernel
theorem dX12_rowTerm_85 : decode cX12_rowTerm 85 = .ok (.iload 6, 2) := by decide +kernel
theorem dX12_rowTerm_87 : decode cX12_rowTerm 87 = .ok (.iload_n 2, 1) := by decide +kernel
theorem dX12_rowTerm_88 : decode cX12_rowTerm 88 = .ok (.if_icmp .ge 48, 3) := by decide +kernel
theorem dX12_rowTerm_91 : decode cX12_rowTerm 91 = .ok (.iload 5, 2) := by decide +kernel
theorem dX12_rowTerm_93 : decode cX12_rowTerm 93 = .ok (.ifCond .eq 43, 3) := by decide +kernel
theorem dX12_rowTerm_96 : decode cX12_rowTerm 96 = .ok (.aload_n 0, 1) := by decide +kernel
theorem dX12_rowTerm_97 : decode cX12_rowTerm 97 = .ok (.getfield 55, 3) := by decide +kernel
theorem dX12_rowTerm_100 : decode cX12_rowTerm 100 = .ok (.aload_n 0, 1) := by decide +kernel
theorem dX12_rowTerm_101 : decode cX12_rowTerm 101 = .ok (.getfield 14, 3) := by decide +kernel
theorem dX12_rowTerm_104 : decode cX12_rowTerm 104 = .ok (.iload 4, 2) := by decide +kernel
theorem dX12_rowTerm_106 : decode cX12_rowTerm 106 = .ok (.iaload, 1) := by decide +kernel
theorem dX12_rowTerm_107 : decode cX12_rowTerm 107 = .ok (.iload 6, 2) := by decide +kernel
theorem dX12_rowTerm_109 : decode cX12_rowTerm 109 = .ok (.iadd, 1) := by decide +kernel
theorem dX12_rowTerm_110 : decode cX12_rowTerm 110 = .ok (.iaload, 1) := by decide +kernel
theorem dX12_rowTerm_111 : decode cX12_rowTerm 111 = .ok (.aload_n 0, 1) := by decide +kernel
theorem dX12_rowTerm_112 : decode cX12_rowTerm 112 = .ok (.getfield 101, 3) := by decide +kernel
theorem dX12_rowTerm_115 : decode cX12_rowTerm 115 = .ok (.iload_n 1, 1) := by decide +kernel
theorem dX12_rowTerm_116 : decode cX12_rowTerm 116 = .ok (.iload 6, 2) := by decide +kernel
theorem dX12_rowTerm_118 : decode cX12_rowTerm 118 = .ok (.iadd, 1) := by decide +kernel
theorem dX12_rowTerm_119 : decode cX12_rowTerm 119 = .ok (.iaload, 1) := by decide +kernel
theorem dX12_rowTerm_120 : decode cX12_rowTerm 120 = .ok (.if_icmp .ne 7, 3) := by decide +kernel
theorem dX12_rowTerm_123 : decode cX12_rowTerm 123 = .ok (.iconst 1, 1) := by decide +kernel
theorem dX12_rowTerm_124 : decode cX12_rowTerm 124 = .ok (.goto 4, 3) := by decide +kernel
theorem dX12_rowTerm_127 : decode cX12_rowTerm 127 = .ok (.iconst 0, 1) := by decide +kernel
theorem dX12_rowTerm_128 : decode cX12_rowTerm 128 = .ok (.istore 5, 2) := by decide +kernel
theorem dX12_rowTerm_130 : decode cX12_rowTerm 130 = .ok (.iinc 6 1, 3) := by decide +kernel
theorem dX12_rowTerm_133 : decode cX12_rowTerm 133 = .ok (.goto (-48), 3) := by decide +kernel
theorem dX12_rowTerm_136 : decode cX12_rowTerm 136 = .ok (.iload 5, 2) := by decide +kernel
theorem dX12_rowTerm_138 : decode cX12_rowTerm 138 = .ok (.ifCond .eq 6, 3) := by decide +kernel
theorem dX12_rowTerm_141 : decode cX12_rowTerm 141 = .ok (.iload 4, 2) := by decide +kernel
theorem dX12_rowTerm_143 : decode cX12_rowTerm 143 = .ok (.ireturn, 1) := by decide +kernel
theorem dX12_rowTerm_144 : decode cX12_rowTerm 144 = .ok (.aload_n 0, 1) := by decide +kernel
theorem dX12_rowTerm_145 : decode cX12_rowTerm 145 = .ok (.getfield 24, 3) := by decide +kernel
theorem dX12_rowTerm_148 : decode cX12_rowTerm 148 = .ok (.iload 4, 2) := by decide +kernel
theorem dX12_rowTerm_150 : decode cX12_rowTerm 150 = .ok (.iaload, 1) := by decide +kernel
theorem dX12_rowTerm_151 : decode cX12_rowTerm 151 = .ok (.istore 4, 2) := by decide +kernel
theorem dX12_rowTerm_153 : decode cX12_rowTerm 153 = .ok (.goto (-105), 3) := by decide +kernel
theorem dX12_rowTerm_156 : decode cX12_rowTerm 156 = .ok (.iconst 0, 1) := by decide +kernel
theorem dX12_rowTerm_157 : decode cX12_rowTerm 157 = .ok (.istore 5, 2) := by decide +kernel
theorem dX12_rowTerm_159 : decode cX12_rowTerm 159 = .ok (.iload 5, 2) := by decide +kernel
theorem dX12_rowTerm_161 : decode cX12_rowTerm 161 = .ok (.iload_n 2, 1) := by decide +kernel
theorem dX12_rowTerm_162 : decode cX12_rowTerm 162 = .ok (.if_icmp .ge 30, 3) := by decide +kernel
theorem dX12_rowTerm_165 : decode cX12_rowTerm 165 = .ok (.aload_n 0, 1) := by decide +kernel
theorem dX12_rowTerm_166 : decode cX12_rowTerm 166 = .ok (.getfield 55, 3) := by decide +kernel
theorem dX12_rowTerm_169 : decode cX12_rowTerm 169 = .ok (.aload_n 0, 1) := by decide +kernel
theorem dX12_rowTerm_170 : decode cX12_rowTerm 170 = .ok (.getfield 303, 3) := by decide +kernel
theorem dX12_rowTerm_173 : decode cX12_rowTerm 173 = .ok (.iload 5, 2) := by decide +kernel
theorem dX12_rowTerm_175 : decode cX12_rowTerm 175 = .ok (.iadd, 1) := by decide +kernel
theorem dX12_rowTerm_176 : decode cX12_rowTerm 176 = .ok (.aload_n 0, 1) := by decide +kernel
theorem dX12_rowTerm_177 : decode cX12_rowTerm 177 = .ok (.getfield 101, 3) := by decide +kernel
theorem dX12_rowTerm_180 : decode cX12_rowTerm 180 = .ok (.iload_n 1, 1) := by decide +kernel
theorem dX12_rowTerm_181 : decode cX12_rowTerm 181 = .ok (.iload 5, 2) := by decide +kernel
theorem dX12_rowTerm_183 : decode cX12_rowTerm 183 = .ok (.iadd, 1) := by decide +kernel
theorem dX12_rowTerm_184 : decode cX12_rowTerm 184 = .ok (.iaload, 1) := by decide +kernel
theorem dX12_rowTerm_185 : decode cX12_rowTerm 185 = .ok (.iastore, 1) := by decide +kernel
theorem dX12_rowTerm_186 : decode cX12_rowTerm 186 = .ok (.iinc 5 1, 3) := by decide +kernel
theorem dX12_rowTerm_189 : decode cX12_rowTerm 189 = .ok (.goto (-30), 3) := by decide +kernel
theorem dX12_rowTerm_192 : decode cX12_rowTerm 192 = .ok (.aload_n 0, 1) := by decide +kernel
theorem dX12_rowTerm_193 : decode cX12_rowTerm 193 = .ok (.dup, 1) := by decide +kernel
theorem dX12_rowTerm_194 : decode cX12_rowTerm 194 = .ok (.getfield 303, 3) := by decide +kernel
theorem dX12_rowTerm_197 : decode cX12_rowTerm 197 = .ok (.iload_n 2, 1) := by decide +kernel
theorem dX12_rowTerm_198 : decode cX12_rowTerm 198 = .ok (.iadd, 1) := by decide +kernel
theorem dX12_rowTerm_199 : decode cX12_rowTerm 199 = .ok (.putfield 303, 3) := by decide +kernel
theorem dX12_rowTerm_202 : decode cX12_rowTerm 202 = .ok (.aload_n 0, 1) := by decide +kernel
theorem dX12_rowTerm_203 : decode cX12_rowTerm 203 = .ok (.iconst 1, 1) := by decide +kernel
theorem dX12_rowTerm_204 : decode cX12_rowTerm 204 = .ok (.aload_n 0, 1) := by decide +kernel
theorem dX12_rowTerm_205 : decode cX12_rowTerm 205 = .ok (.getfield 303, 3) := by decide +kernel
theorem dX12_rowTerm_208 : decode cX12_rowTerm 208 = .ok (.iload_n 2, 1) := by decide +kernel
theorem dX12_rowTerm_209 : decode cX12_rowTerm 209 = .ok (.isub, 1) := by decide +kernel
theorem dX12_rowTerm_210 : decode cX12_rowTerm 210 = .ok (.iload_n 2, 1) := by decide +kernel
theorem dX12_rowTerm_211 : decode cX12_rowTerm 211 = .ok (.iconst 0, 1) := by decide +kernel
theorem dX12_rowTerm_212 : decode cX12_rowTerm 212 = .ok (.iload_n 3, 1) := by decide +kernel
theorem dX12_rowTerm_213 : decode cX12_rowTerm 213 = .ok (.invokevirtual 299, 3) := by decide +kernel
theorem dX12_rowTerm_216 : decode cX12_rowTerm 216 = .ok (.ireturn, 1) := by decide +kernel
theorem cc_rowTerm : Cond.code yX12_rowTerm cX12_rowTerm 7 (some .int) ∈ rf_tb := rf_at 2087 (by decide +kernel) (by decide +kernel)
theorem cw_rowTerm : rf_wV yX12_rowTerm cX12_rowTerm 7 (some .int) 522 2 := ⟨⟨rf_at 2084 (by decide +kernel) (by decide +kernel), rf_at 2086 (by decide +kernel) (by decide +kernel), rf_sel (q := (yX12_rowTerm, 122)) 106 (by decide +kernel) (by decide +kernel), cc_rowTerm⟩, rfl, by decide +kernel⟩
noncomputable def lq_rowTerm_5 (x1 : Int32) (x2 : Int32) (x3 : Int32) (x4 : Int32) (ρ : rf_S) : Option ((Int32 × Int32 × rf_S) ⊕ (Int32 × Int32 × rf_S)) := (if x2 ≤ x4 then some (.inr (x3, x4, ρ)) else ix (x1 + x4) 17000 (vl ((x3 * (31:Int32)) + (ρ.1 26 (x1 + x4).toNatClampNeg)) (fun x3_1 => vl (x4 + (1:Int32)) (fun x4_2 => some (.inl (x3_1, x4_2, ρ))))))
noncomputable def bq_rowTerm_128i85 (x1 : Int32) (x2 : Int32) (x3 : Int32) (x4 : Int32) (x6 : Int32) (v0 : Int32) (ρ : rf_S) : Option ((Int32 × Int32 × rf_S) ⊕ (Int32 × Int32 × rf_S)) := vl (x6 + (1:Int32)) (fun x6_6 => some (.inl (v0, x6_6, ρ)))
set_option maxHeartbeats 4000000 in
theorem wq_rowTerm_128i85 (C : rf_C D p s m args meth c cX12_rowTerm 7 (some .int)) {r : Int32} {x1 : Int32} {x2 : Int32} {x3 : Int32} {x4 : Int32} {x6 : Int32} {v0 : Int32} {ρ ρ' : rf_S} {H : Heap} {locs : List Loc} {ls : Array Slot} {o : (Int32 × Int32 × rf_S) ⊕ (Int32 × Int32 × rf_S)} (h : bq_rowTerm_128i85 x1 x2 x3 x4 x6 v0 ρ = some o) (hP : Sum.elim (fun z : (Int32 × Int32 × rf_S) => ∀ (H : Heap) (locs : List Loc) (ls : Array Slot), rf_G D h0 s z.2.2 H locs → lv_has ls 7 [(0, .ref h0), (1, .int x1), (2, .int x2), (3, .int x3), (4, .int x4), (5, .int z.1), (6, .int z.2.1)] → W p l e ({ frames := 1, cells := 0, slots := 0, locals := 26 }) s m args below meth c H locs 0 0 (MQ below (rf_Q D h0 (some (.int r)) ρ') args s 0 0 (rf_A h0)) (F0 m 85 ls [])) (fun z : (Int32 × Int32 × rf_S) => ∀ (H : Heap) (locs : List Loc) (ls : Array Slot), rf_G D h0 s z.2.2 H locs → lv_has ls 7 [(0, .ref h0), (1, .int x1), (2, .int x2), (3, .int x3), (4, .int x4), (5, .int z.1), (6, .int z.2.1)] → W p l e ({ frames := 1, cells := 0, slots := 0, locals := 26 }) s m args below meth c H locs 0 0 (MQ below (rf_Q D h0 (some (.int r)) ρ') args s 0 0 (rf_A h0)) (F0 m 136 ls [])) o) (G : rf_G D h0 s ρ H locs) (hl : lv_has ls 7 [(0, .ref h0), (1, .int x1), (2, .int x2), (3, .int x3), (4, .int x4), (6, .int x6)]) : W p l e ({ frames := 1, cells := 0, slots := 0, locals := 26 }) s m args below meth c H locs 0 0 (MQ below (rf_Q D h0 (some (.int r)) ρ') args s 0 0 (rf_A h0)) (F0 m 128 ls [.int v0]) := by
  unfold bq_rowTerm_128i85 at h
  refine lv_istore (lv' := [(5, .int v0), (0, .ref h0), (1, .int x1), (2, .int x2), (3, .int x3), (4, .int x4), (6, .int x6)]) C.1 C.2.1 dX12_rowTerm_128 hl (by decide) rfl (fun ls hl => ?_)
  refine vl_ex h (fun x6_6 ey h => ?_)
  refine lv_iinc (v := x6_6) (lv' := [(6, .int x6_6), (5, .int v0), (0, .ref h0), (1, .int x1), (2, .int x2), (3, .int x3), (4, .int x4)]) C.1 C.2.1 dX12_rowTerm_130 hl (k := 6) rfl (by rw [ey]; rfl) (by decide) rfl (fun ls hl => ?_)
  refine lv_goto (tgt := 85) C.1 C.2.1 dX12_rowTerm_133 (by decide) ?_
  cases h
  exact hP _ _ _ G (lv_sub hl [2, 3, 4, 5, 6, 1, 0] rfl)
noncomputable def lq_rowTerm_85i48 (x1 : Int32) (x2 : Int32) (x3 : Int32) (x4 : Int32) (x5 : Int32) (x6 : Int32) (ρ : rf_S) : Option ((Int32 × Int32 × rf_S) ⊕ (Int32 × Int32 × rf_S)) := (if x2 ≤ x6 then some (.inr (x5, x6, ρ)) else (if x5 = 0 then some (.inr (x5, x6, ρ)) else ix x4 112000 (ix ((ρ.1 2 x4.toNatClampNeg) + x6) 690000 (ix (x1 + x6) 17000 ((if (ρ.1 12 ((ρ.1 2 x4.toNatClampNeg) + x6).toNatClampNeg) = (ρ.1 26 (x1 + x6).toNatClampNeg) then bq_rowTerm_128i85 x1 x2 x3 x4 x6 (1:Int32) ρ else bq_rowTerm_128i85 x1 x2 x3 x4 x6 (0:Int32) ρ))))))
noncomputable def bq_rowTerm_136i48 (x1 : Int32) (x2 : Int32) (x3 : Int32) (x4 : Int32) (x5 : Int32) (ρ : rf_S) : Option ((Int32 × rf_S) ⊕ ((Int32 × rf_S) ⊕ (Int32 × rf_S))) := (if x5 = 0 then ix x4 112000 (vl (ρ.1 5 x4.toNatClampNeg) (fun x4_7 => some (.inl (x4_7, ρ)))) else some (.inr (.inl (x4, ρ))))
set_option maxHeartbeats 4000000 in
theorem wq_rowTerm_136i48 (C : rf_C D p s m args meth c cX12_rowTerm 7 (some .int)) {r : Int32} {x1 : Int32} {x2 : Int32} {x3 : Int32} {x4 : Int32} {x5 : Int32} {ρ ρ' : rf_S} {H : Heap} {locs : List Loc} {ls : Array Slot} {o : (Int32 × rf_S) ⊕ ((Int32 × rf_S) ⊕ (Int32 × rf_S))} (h : bq_rowTerm_136i48 x1 x2 x3 x4 x5 ρ = some o) (hP : Sum.elim (fun z : (Int32 × rf_S) => ∀ (H : Heap) (locs : List Loc) (ls : Array Slot), rf_G D h0 s z.2 H locs → lv_has ls 7 [(0, .ref h0), (1, .int x1), (2, .int x2), (3, .int x3), (4, .int z.1)] → W p l e ({ frames := 1, cells := 0, slots := 0, locals := 26 }) s m args below meth c H locs 0 0 (MQ below (rf_Q D h0 (some (.int r)) ρ') args s 0 0 (rf_A h0)) (F0 m 48 ls [])) (Sum.elim (fun z : Int32 × rf_S => z = (r, ρ')) (fun z : (Int32 × rf_S) => ∀ (H : Heap) (locs : List Loc) (ls : Array Slot), rf_G D h0 s z.2 H locs → lv_has ls 7 [(0, .ref h0), (1, .int x1), (2, .int x2), (3, .int x3), (4, .int z.1)] → W p l e ({ frames := 1, cells := 0, slots := 0, locals := 26 }) s m args below meth c H locs 0 0 (MQ below (rf_Q D h0 (some (.int r)) ρ') args s 0 0 (rf_A h0)) (F0 m 156 ls []))) o) (G : rf_G D h0 s ρ H locs) (hl : lv_has ls 7 [(0, .ref h0), (1, .int x1), (2, .int x2), (3, .int x3), (4, .int x4), (5, .int x5)]) : W p l e ({ frames := 1, cells := 0, slots := 0, locals := 26 }) s m args below meth c H locs 0 0 (MQ below (rf_Q D h0 (some (.int r)) ρ') args s 0 0 (rf_A h0)) (F0 m 136 ls []) := by
  unfold bq_rowTerm_136i48 at h
  refine lv_iload C.1 C.2.1 dX12_rowTerm_136 (lv_at hl 5 rfl) ?_
  refine lv_if_eq (tgt := 144) C.1 C.2.1 dX12_rowTerm_138 (by decide) (fun hc => ?_) (fun hc => ?_)
  · rw [if_pos hc] at h
    refine lv_aload_n C.1 C.2.1 dX12_rowTerm_144 rfl (lv_at hl 0 rfl) ?_
    refine gf_4 C G dX12_rowTerm_145 ?_
    refine lv_iload C.1 C.2.1 dX12_rowTerm_148 (lv_at hl 4 rfl) ?_
    obtain ⟨hi, h⟩ := ix_some h
    refine rf_iald C G 5 rfl (by decide) rfl rfl hi dX12_rowTerm_150 ?_
    refine vt_i h (fun x4_7 h => ?_)
    refine lv_istore (lv' := [(4, .int x4_7), (0, .ref h0), (1, .int x1), (2, .int x2), (3, .int x3), (5, .int x5)]) C.1 C.2.1 dX12_rowTerm_151 hl (by decide) rfl (fun ls hl => ?_)
    refine lv_goto (tgt := 48) C.1 C.2.1 dX12_rowTerm_153 (by decide) ?_
    cases h
    exact hP _ _ _ G (lv_sub hl [1, 2, 3, 4, 0] rfl)
  · rw [if_neg hc] at h
    refine lv_iload C.1 C.2.1 dX12_rowTerm_141 (lv_at hl 4 rfl) ?_
    cases h
    have hP := congrArg some hP
    exact rf_iret C G hP dX12_rowTerm_143
noncomputable def eq_rowTerm_85i48 (x1 : Int32) (x2 : Int32) (x3 : Int32) (x4 : Int32) (x5 : Int32) (x6 : Int32) (ρ : rf_S) : Option ((Int32 × rf_S) ⊕ ((Int32 × rf_S) ⊕ (Int32 × rf_S))) := bq_rowTerm_136i48 x1 x2 x3 x4 x5 ρ
noncomputable def bq_rowTerm_85i48 (x1 : Int32) (x2 : Int32) (x3 : Int32) (x4 : Int32) (x5 : Int32) (x6 : Int32) (ρ : rf_S) : Option ((Int32 × rf_S) ⊕ ((Int32 × rf_S) ⊕ (Int32 × rf_S))) := (lp (fun z : (Int32 × Int32 × rf_S) => lq_rowTerm_85i48 x1 x2 x3 x4 z.1 z.2.1 z.2.2) (x5, x6, ρ)).bind (fun z => eq_rowTerm_85i48 x1 x2 x3 x4 z.1 z.2.1 z.2.2)
set_option maxHeartbeats 4000000 in
theorem wq_rowTerm_85i48 (C : rf_C D p s m args meth c cX12_rowTerm 7 (some .int)) {r : Int32} {x1 : Int32} {x2 : Int32} {x3 : Int32} {x4 : Int32} {x5 : Int32} {x6 : Int32} {ρ ρ' : rf_S} {H : Heap} {locs : List Loc} {ls : Array Slot} {o : (Int32 × rf_S) ⊕ ((Int32 × rf_S) ⊕ (Int32 × rf_S))} (h : bq_rowTerm_85i48 x1 x2 x3 x4 x5 x6 ρ = some o) (hP : Sum.elim (fun z : (Int32 × rf_S) => ∀ (H : Heap) (locs : List Loc) (ls : Array Slot), rf_G D h0 s z.2 H locs → lv_has ls 7 [(0, .ref h0), (1, .int x1), (2, .int x2), (3, .int x3), (4, .int z.1)] → W p l e ({ frames := 1, cells := 0, slots := 0, locals := 26 }) s m args below meth c H locs 0 0 (MQ below (rf_Q D h0 (some (.int r)) ρ') args s 0 0 (rf_A h0)) (F0 m 48 ls [])) (Sum.elim (fun z : Int32 × rf_S => z = (r, ρ')) (fun z : (Int32 × rf_S) => ∀ (H : Heap) (locs : List Loc) (ls : Array Slot), rf_G D h0 s z.2 H locs → lv_has ls 7 [(0, .ref h0), (1, .int x1), (2, .int x2), (3, .int x3), (4, .int z.1)] → W p l e ({ frames := 1, cells := 0, slots := 0, locals := 26 }) s m args below meth c H locs 0 0 (MQ below (rf_Q D h0 (some (.int r)) ρ') args s 0 0 (rf_A h0)) (F0 m 156 ls []))) o) (G : rf_G D h0 s ρ H locs) (hl : lv_has ls 7 [(0, .ref h0), (1, .int x1), (2, .int x2), (3, .int x3), (4, .int x4), (5, .int x5), (6, .int x6)]) : W p l e ({ frames := 1, cells := 0, slots := 0, locals := 26 }) s m args below meth c H locs 0 0 (MQ below (rf_Q D h0 (some (.int r)) ρ') args s 0 0 (rf_A h0)) (F0 m 85 ls []) := by
  unfold bq_rowTerm_85i48 at h
  obtain ⟨y, hy, h⟩ := bd_some h
  have hE : (fun z : (Int32 × Int32 × rf_S) => ∀ (H : Heap) (locs : List Loc) (ls : Array Slot), rf_G D h0 s z.2.2 H locs → lv_has ls 7 [(0, .ref h0), (1, .int x1), (2, .int x2), (3, .int x3), (4, .int x4), (5, .int z.1), (6, .int z.2.1)] → W p l e ({ frames := 1, cells := 0, slots := 0, locals := 26 }) s m args below meth c H locs 0 0 (MQ below (rf_Q D h0 (some (.int r)) ρ') args s 0 0 (rf_A h0)) (F0 m 136 ls [])) y := by
    intro H locs ls G hl
    obtain ⟨x5, x6, ρ⟩ := y
    dsimp only at h G hl
    unfold eq_rowTerm_85i48 at h
    exact wq_rowTerm_136i48 C h hP G (lv_sub hl [0, 1, 2, 3, 4, 5] rfl)
  refine lp_recE (fun z : (Int32 × Int32 × rf_S) => ∀ (H : Heap) (locs : List Loc) (ls : Array Slot), rf_G D h0 s z.2.2 H locs → lv_has ls 7 [(0, .ref h0), (1, .int x1), (2, .int x2), (3, .int x3), (4, .int x4), (5, .int z.1), (6, .int z.2.1)] → W p l e ({ frames := 1, cells := 0, slots := 0, locals := 26 }) s m args below meth c H locs 0 0 (MQ below (rf_Q D h0 (some (.int r)) ρ') args s 0 0 (rf_A h0)) (F0 m 85 ls [])) (fun z : (Int32 × Int32 × rf_S) => ∀ (H : Heap) (locs : List Loc) (ls : Array Slot), rf_G D h0 s z.2.2 H locs → lv_has ls 7 [(0, .ref h0), (1, .int x1), (2, .int x2), (3, .int x3), (4, .int x4), (5, .int z.1), (6, .int z.2.1)] → W p l e ({ frames := 1, cells := 0, slots := 0, locals := 26 }) s m args below meth c H locs 0 0 (MQ below (rf_Q D h0 (some (.int r)) ρ') args s 0 0 (rf_A h0)) (F0 m 136 ls [])) ?_ _ _ hy hE _ _ _ G hl
  clear hE hy G hl h hP
  intro z o h hP H locs ls G hl
  obtain ⟨x5, x6, ρ⟩ := z
  dsimp only at h G hl
  unfold lq_rowTerm_85i48 at h
  refine lv_iload C.1 C.2.1 dX12_rowTerm_85 (lv_at hl 6 rfl) ?_
  refine lv_iload_n C.1 C.2.1 dX12_rowTerm_87 rfl (lv_at hl 2 rfl) ?_
  refine lv_icmp_ge (tgt := 136) C.1 C.2.1 dX12_rowTerm_88 (by decide) (fun hc => ?_) (fun hc => ?_)
  · rw [if_pos hc] at h
    cases h
    exact hP _ _ _ G (lv_sub hl [0, 1, 2, 3, 4, 5, 6] rfl)
  · rw [if_neg hc] at h
    refine lv_iload C.1 C.2.1 dX12_rowTerm_91 (lv_at hl 5 rfl) ?_
    refine lv_if_eq (tgt := 136) C.1 C.2.1 dX12_rowTerm_93 (by decide) (fun hc => ?_) (fun hc => ?_)
    · rw [if_pos hc] at h
      cases h
      exact hP _ _ _ G (lv_sub hl [0, 1, 2, 3, 4, 5, 6] rfl)
    · rw [if_neg hc] at h
      refine lv_aload_n C.1 C.2.1 dX12_rowTerm_96 rfl (lv_at hl 0 rfl) ?_
      refine gf_17 C G dX12_rowTerm_97 ?_
      refine lv_aload_n C.1 C.2.1 dX12_rowTerm_100 rfl (lv_at hl 0 rfl) ?_
      refine gf_1 C G dX12_rowTerm_101 ?_
      refine lv_iload C.1 C.2.1 dX12_rowTerm_104 (lv_at hl 4 rfl) ?_
      obtain ⟨hi, h⟩ := ix_some h
      refine rf_iald C G 2 rfl (by decide) rfl rfl hi dX12_rowTerm_106 ?_
      refine lv_iload C.1 C.2.1 dX12_rowTerm_107 (lv_at hl 6 rfl) ?_
      refine lv_iadd C.1 C.2.1 dX12_rowTerm_109 ?_
      obtain ⟨hi, h⟩ := ix_some h
      refine rf_iald C G 12 rfl (by decide) rfl rfl hi dX12_rowTerm_110 ?_
      refine lv_aload_n C.1 C.2.1 dX12_rowTerm_111 rfl (lv_at hl 0 rfl) ?_
      refine gf_49 C G dX12_rowTerm_112 ?_
      refine lv_iload_n C.1 C.2.1 dX12_rowTerm_115 rfl (lv_at hl 1 rfl) ?_
      refine lv_iload C.1 C.2.1 dX12_rowTerm_116 (lv_at hl 6 rfl) ?_
      refine lv_iadd C.1 C.2.1 dX12_rowTerm_118 ?_
      obtain ⟨hi, h⟩ := ix_some h
      refine rf_iald C G 26 rfl (by decide) rfl rfl hi dX12_rowTerm_119 ?_
      refine lv_icmp_ne (tgt := 127) C.1 C.2.1 dX12_rowTerm_120 (by decide) (fun hc => ?_) (fun hc => ?_)
      · rw [if_neg hc] at h
        refine lv_iconst (v := (0:Int32)) C.1 C.2.1 dX12_rowTerm_127 (by decide) ?_
        exact wq_rowTerm_128i85 C h hP G (lv_sub hl [0, 1, 2, 3, 4, 6] rfl)
      · rw [if_pos hc] at h
        refine lv_iconst (v := (1:Int32)) C.1 C.2.1 dX12_rowTerm_123 (by decide) ?_
        refine lv_goto (tgt := 128) C.1 C.2.1 dX12_rowTerm_124 (by decide) ?_
        exact wq_rowTerm_128i85 C h hP G (lv_sub hl [0, 1, 2, 3, 4, 6] rfl)
noncomputable def bq_rowTerm_80i48 (x1 : Int32) (x2 : Int32) (x3 : Int32) (x4 : Int32) (v0 : Int32) (ρ : rf_S) : Option ((Int32 × rf_S) ⊕ ((Int32 × rf_S) ⊕ (Int32 × rf_S))) := bq_rowTerm_85i48 x1 x2 x3 x4 v0 (0:Int32) ρ
set_option maxHeartbeats 4000000 in
theorem wq_rowTerm_80i48 (C : rf_C D p s m args meth c cX12_rowTerm 7 (some .int)) {r : Int32} {x1 : Int32} {x2 : Int32} {x3 : Int32} {x4 : Int32} {v0 : Int32} {ρ ρ' : rf_S} {H : Heap} {locs : List Loc} {ls : Array Slot} {o : (Int32 × rf_S) ⊕ ((Int32 × rf_S) ⊕ (Int32 × rf_S))} (h : bq_rowTerm_80i48 x1 x2 x3 x4 v0 ρ = some o) (hP : Sum.elim (fun z : (Int32 × rf_S) => ∀ (H : Heap) (locs : List Loc) (ls : Array Slot), rf_G D h0 s z.2 H locs → lv_has ls 7 [(0, .ref h0), (1, .int x1), (2, .int x2), (3, .int x3), (4, .int z.1)] → W p l e ({ frames := 1, cells := 0, slots := 0, locals := 26 }) s m args below meth c H locs 0 0 (MQ below (rf_Q D h0 (some (.int r)) ρ') args s 0 0 (rf_A h0)) (F0 m 48 ls [])) (Sum.elim (fun z : Int32 × rf_S => z = (r, ρ')) (fun z : (Int32 × rf_S) => ∀ (H : Heap) (locs : List Loc) (ls : Array Slot), rf_G D h0 s z.2 H locs → lv_has ls 7 [(0, .ref h0), (1, .int x1), (2, .int x2), (3, .int x3), (4, .int z.1)] → W p l e ({ frames := 1, cells := 0, slots := 0, locals := 26 }) s m args below meth c H locs 0 0 (MQ below (rf_Q D h0 (some (.int r)) ρ') args s 0 0 (rf_A h0)) (F0 m 156 ls []))) o) (G : rf_G D h0 s ρ H locs) (hl : lv_has ls 7 [(0, .ref h0), (1, .int x1), (2, .int x2), (3, .int x3), (4, .int x4)]) : W p l e ({ frames := 1, cells := 0, slots := 0, locals := 26 }) s m args below meth c H locs 0 0 (MQ below (rf_Q D h0 (some (.int r)) ρ') args s 0 0 (rf_A h0)) (F0 m 80 ls [.int v0]) := by
  unfold bq_rowTerm_80i48 at h
  refine lv_istore (lv' := [(5, .int v0), (0, .ref h0), (1, .int x1), (2, .int x2), (3, .int x3), (4, .int x4)]) C.1 C.2.1 dX12_rowTerm_80 hl (by decide) rfl (fun ls hl => ?_)
  refine lv_iconst (v := (0:Int32)) C.1 C.2.1 dX12_rowTerm_82 (by decide) ?_
  refine lv_istore (lv' := [(6, .int (0:Int32)), (5, .int v0), (0, .ref h0), (1, .int x1), (2, .int x2), (3, .int x3), (4, .int x4)]) C.1 C.2.1 dX12_rowTerm_83 hl (by decide) rfl (fun ls hl => ?_)
  exact wq_rowTerm_85i48 C h hP G (lv_sub hl [2, 3, 4, 5, 6, 1, 0] rfl)
noncomputable def bq_rowTerm_79i48 (x1 : Int32) (x2 : Int32) (x3 : Int32) (x4 : Int32) (ρ : rf_S) : Option ((Int32 × rf_S) ⊕ ((Int32 × rf_S) ⊕ (Int32 × rf_S))) := bq_rowTerm_80i48 x1 x2 x3 x4 (0:Int32) ρ
set_option maxHeartbeats 4000000 in
theorem wq_rowTerm_79i48 (C : rf_C D p s m args meth c cX12_rowTerm 7 (some .int)) {r : Int32} {x1 : Int32} {x2 : Int32} {x3 : Int32} {x4 : Int32} {ρ ρ' : rf_S} {H : Heap} {locs : List Loc} {ls : Array Slot} {o : (Int32 × rf_S) ⊕ ((Int32 × rf_S) ⊕ (Int32 × rf_S))} (h : bq_rowTerm_79i48 x1 x2 x3 x4 ρ = some o) (hP : Sum.elim (fun z : (Int32 × rf_S) => ∀ (H : Heap) (locs : List Loc) (ls : Array Slot), rf_G D h0 s z.2 H locs → lv_has ls 7 [(0, .ref h0), (1, .int x1), (2, .int x2), (3, .int x3), (4, .int z.1)] → W p l e ({ frames := 1, cells := 0, slots := 0, locals := 26 }) s m args below meth c H locs 0 0 (MQ below (rf_Q D h0 (some (.int r)) ρ') args s 0 0 (rf_A h0)) (F0 m 48 ls [])) (Sum.elim (fun z : Int32 × rf_S => z = (r, ρ')) (fun z : (Int32 × rf_S) => ∀ (H : Heap) (locs : List Loc) (ls : Array Slot), rf_G D h0 s z.2 H locs → lv_has ls 7 [(0, .ref h0), (1, .int x1), (2, .int x2), (3, .int x3), (4, .int z.1)] → W p l e ({ frames := 1, cells := 0, slots := 0, locals := 26 }) s m args below meth c H locs 0 0 (MQ below (rf_Q D h0 (some (.int r)) ρ') args s 0 0 (rf_A h0)) (F0 m 156 ls []))) o) (G : rf_G D h0 s ρ H locs) (hl : lv_has ls 7 [(0, .ref h0), (1, .int x1), (2, .int x2), (3, .int x3), (4, .int x4)]) : W p l e ({ frames := 1, cells := 0, slots := 0, locals := 26 }) s m args below meth c H locs 0 0 (MQ below (rf_Q D h0 (some (.int r)) ρ') args s 0 0 (rf_A h0)) (F0 m 79 ls []) := by
  unfold bq_rowTerm_79i48 at h
  refine lv_iconst (v := (0:Int32)) C.1 C.2.1 dX12_rowTerm_79 (by decide) ?_
  exact wq_rowTerm_80i48 C h hP G (lv_sub hl [0, 1, 2, 3, 4] rfl)
noncomputable def lq_rowTerm_48 (x1 : Int32) (x2 : Int32) (x3 : Int32) (x4 : Int32) (ρ : rf_S) : Option ((Int32 × rf_S) ⊕ ((Int32 × rf_S) ⊕ (Int32 × rf_S))) := (if x4 < 0 then some (.inr (.inr (x4, ρ))) else ix x4 112000 ((if (ρ.1 1 x4.toNatClampNeg) = (1:Int32) then ix x4 112000 ((if (ρ.1 3 x4.toNatClampNeg) = x2 then bq_rowTerm_80i48 x1 x2 x3 x4 (1:Int32) ρ else bq_rowTerm_79i48 x1 x2 x3 x4 ρ)) else bq_rowTerm_79i48 x1 x2 x3 x4 ρ)))
noncomputable def lq_rowTerm_159 (x1 : Int32) (x2 : Int32) (x3 : Int32) (x5 : Int32) (ρ : rf_S) : Option ((Int32 × rf_S) ⊕ (Int32 × rf_S)) := (if x2 ≤ x5 then some (.inr (x5, ρ)) else ix (x1 + x5) 17000 (ix ((ρ.1 0 18) + x5) 690000 (vl (rf_w ρ 12 ((ρ.1 0 18) + x5).toNatClampNeg (ρ.1 26 (x1 + x5).toNatClampNeg)) (fun ρ_8 => vl (x5 + (1:Int32)) (fun x5_9 => some (.inl (x5_9, ρ_8)))))))
noncomputable def eq_rowTerm_159 (x1 : Int32) (x2 : Int32) (x3 : Int32) (x5 : Int32) (ρ : rf_S) : Option (Int32 × rf_S) := vl (rf_w ρ 0 18 ((ρ.1 0 18) + x2)) (fun ρ_10 => bd2 (fq_add (1:Int32) ((ρ_10.1 0 18) - x2) x2 (0:Int32) x3 ρ_10) (fun r_12 ρ_11 => some (r_12, ρ_11)))
noncomputable def bq_rowTerm_159 (x1 : Int32) (x2 : Int32) (x3 : Int32) (x5 : Int32) (ρ : rf_S) : Option (Int32 × rf_S) := (lp (fun z : (Int32 × rf_S) => lq_rowTerm_159 x1 x2 x3 z.1 z.2) (x5, ρ)).bind (fun z => eq_rowTerm_159 x1 x2 x3 z.1 z.2)
set_option maxHeartbeats 4000000 in
theorem wq_rowTerm_159 (C : rf_C D p s m args meth c cX12_rowTerm 7 (some .int)) {r : Int32} {x1 : Int32} {x2 : Int32} {x3 : Int32} {x5 : Int32} {ρ ρ' : rf_S} {H : Heap} {locs : List Loc} {ls : Array Slot} (h : bq_rowTerm_159 x1 x2 x3 x5 ρ = some (r, ρ')) (G : rf_G D h0 s ρ H locs) (hl : lv_has ls 7 [(0, .ref h0), (1, .int x1), (2, .int x2), (3, .int x3), (5, .int x5)]) : W p l e ({ frames := 1, cells := 0, slots := 0, locals := 26 }) s m args below meth c H locs 0 0 (MQ below (rf_Q D h0 (some (.int r)) ρ') args s 0 0 (rf_A h0)) (F0 m 159 ls []) := by
  unfold bq_rowTerm_159 at h
  obtain ⟨y, hy, h⟩ := bd_some h
  have hE : (fun z : (Int32 × rf_S) => ∀ (H : Heap) (locs : List Loc) (ls : Array Slot), rf_G D h0 s z.2 H locs → lv_has ls 7 [(0, .ref h0), (1, .int x1), (2, .int x2), (3, .int x3), (5, .int z.1)] → W p l e ({ frames := 1, cells := 0, slots := 0, locals := 26 }) s m args below meth c H locs 0 0 (MQ below (rf_Q D h0 (some (.int r)) ρ') args s 0 0 (rf_A h0)) (F0 m 192 ls [])) y := by
    intro H locs ls G hl
    obtain ⟨x5, ρ⟩ := y
    dsimp only at h G hl
    unfold eq_rowTerm_159 at h
    refine lv_aload_n C.1 C.2.1 dX12_rowTerm_192 rfl (lv_at hl 0 rfl) ?_
    refine lv_dup C.1 C.2.1 dX12_rowTerm_193 rfl ?_
    refine gf_18 C G dX12_rowTerm_194 ?_
    refine lv_iload_n C.1 C.2.1 dX12_rowTerm_197 rfl (lv_at hl 2 rfl) ?_
    refine lv_iadd C.1 C.2.1 dX12_rowTerm_198 ?_
    refine pf_18 C G dX12_rowTerm_199 (fun H locs G => ?_)
    refine rf_nm G h (fun ρ_10 G h => ?_)
    refine lv_aload_n C.1 C.2.1 dX12_rowTerm_202 rfl (lv_at hl 0 rfl) ?_
    refine lv_iconst (v := (1:Int32)) C.1 C.2.1 dX12_rowTerm_203 (by decide) ?_
    refine lv_aload_n C.1 C.2.1 dX12_rowTerm_204 rfl (lv_at hl 0 rfl) ?_
    refine gf_18 C G dX12_rowTerm_205 ?_
    refine lv_iload_n C.1 C.2.1 dX12_rowTerm_208 rfl (lv_at hl 2 rfl) ?_
    refine lv_isub C.1 C.2.1 dX12_rowTerm_209 ?_
    refine lv_iload_n C.1 C.2.1 dX12_rowTerm_210 rfl (lv_at hl 2 rfl) ?_
    refine lv_iconst (v := (0:Int32)) C.1 C.2.1 dX12_rowTerm_211 (by decide) ?_
    refine lv_iload_n C.1 C.2.1 dX12_rowTerm_212 rfl (lv_at hl 3 rfl) ?_
    obtain ⟨r_12, ρ_11, hq, h⟩ := bd2_some h
    refine rf_callV (rest := []) C G cw_add [.int (1:Int32), .int ((ρ_10.1 0 18) - x2), .int x2, .int (0:Int32), .int x3] _ (kq_add l D h0 hq) (Nat.le_of_ble_eq_true rfl) (Nat.le_of_ble_eq_true rfl) rfl rfl hl.1 (Nat.le_of_ble_eq_true rfl) (Nat.zero_le _) (Nat.zero_le _) dX12_rowTerm_213 (fun H locs G => ?_)
    refine W.eq (g2 := F0 m 216 ls [.int r_12]) rfl ?_
    exact rf_iret C G h dX12_rowTerm_216
  refine lp_recE (fun z : (Int32 × rf_S) => ∀ (H : Heap) (locs : List Loc) (ls : Array Slot), rf_G D h0 s z.2 H locs → lv_has ls 7 [(0, .ref h0), (1, .int x1), (2, .int x2), (3, .int x3), (5, .int z.1)] → W p l e ({ frames := 1, cells := 0, slots := 0, locals := 26 }) s m args below meth c H locs 0 0 (MQ below (rf_Q D h0 (some (.int r)) ρ') args s 0 0 (rf_A h0)) (F0 m 159 ls [])) (fun z : (Int32 × rf_S) => ∀ (H : Heap) (locs : List Loc) (ls : Array Slot), rf_G D h0 s z.2 H locs → lv_has ls 7 [(0, .ref h0), (1, .int x1), (2, .int x2), (3, .int x3), (5, .int z.1)] → W p l e ({ frames := 1, cells := 0, slots := 0, locals := 26 }) s m args below meth c H locs 0 0 (MQ below (rf_Q D h0 (some (.int r)) ρ') args s 0 0 (rf_A h0)) (F0 m 192 ls [])) ?_ _ _ hy hE _ _ _ G hl
  clear hE hy G hl h
  intro z o h hP H locs ls G hl
  obtain ⟨x5, ρ⟩ := z
  dsimp only at h G hl
  unfold lq_rowTerm_159 at h
  refine lv_iload C.1 C.2.1 dX12_rowTerm_159 (lv_at hl 4 rfl) ?_
  refine lv_iload_n C.1 C.2.1 dX12_rowTerm_161 rfl (lv_at hl 2 rfl) ?_
  refine lv_icmp_ge (tgt := 192) C.1 C.2.1 dX12_rowTerm_162 (by decide) (fun hc => ?_) (fun hc => ?_)
  · rw [if_pos hc] at h
    cases h
    exact hP _ _ _ G (lv_sub hl [0, 1, 2, 3, 4] rfl)
  · rw [if_neg hc] at h
    refine lv_aload_n C.1 C.2.1 dX12_rowTerm_165 rfl (lv_at hl 0 rfl) ?_
    refine gf_17 C G dX12_rowTerm_166 ?_
    refine lv_aload_n C.1 C.2.1 dX12_rowTerm_169 rfl (lv_at hl 0 rfl) ?_
    refine gf_18 C G dX12_rowTerm_170 ?_
    refine lv_iload C.1 C.2.1 dX12_rowTerm_173 (lv_at hl 4 rfl) ?_
    refine lv_iadd C.1 C.2.1 dX12_rowTerm_175 ?_
    refine lv_aload_n C.1 C.2.1 dX12_rowTerm_176 rfl (lv_at hl 0 rfl) ?_
    refine gf_49 C G dX12_rowTerm_177 ?_
    refine lv_iload_n C.1 C.2.1 dX12_rowTerm_180 rfl (lv_at hl 1 rfl) ?_
    refine lv_iload C.1 C.2.1 dX12_rowTerm_181 (lv_at hl 4 rfl) ?_
    refine lv_iadd C.1 C.2.1 dX12_rowTerm_183 ?_
    obtain ⟨hi, h⟩ := ix_some h
    refine rf_iald C G 26 rfl (by decide) rfl rfl hi dX12_rowTerm_184 ?_
    obtain ⟨hi, h⟩ := ix_some h
    refine rf_iast C G 12 rfl (by decide) rfl rfl hi dX12_rowTerm_185 (fun H locs G => ?_)
    refine rf_nm G h (fun ρ_8 G h => ?_)
    refine vl_ex h (fun x5_9 ey h => ?_)
    refine lv_iinc (v := x5_9) (lv' := [(5, .int x5_9), (0, .ref h0), (1, .int x1), (2, .int x2), (3, .int x3)]) C.1 C.2.1 dX12_rowTerm_186 hl (k := 4) rfl (by rw [ey]; rfl) (by decide) rfl (fun ls hl => ?_)
    refine lv_goto (tgt := 159) C.1 C.2.1 dX12_rowTerm_189 (by decide) ?_
    cases h
    exact hP _ _ _ G (lv_sub hl [1, 2, 3, 4, 0] rfl)
noncomputable def eq_rowTerm_48 (x1 : Int32) (x2 : Int32) (x3 : Int32) (x4 : Int32) (ρ : rf_S) : Option (Int32 × rf_S) := bq_rowTerm_159 x1 x2 x3 (0:Int32) ρ
noncomputable def bq_rowTerm_48 (x1 : Int32) (x2 : Int32) (x3 : Int32) (x4 : Int32) (ρ : rf_S) : Option (Int32 × rf_S) := (lp (fun z : (Int32 × rf_S) => lq_rowTerm_48 x1 x2 x3 z.1 z.2) (x4, ρ)).bind (fun y => Sum.elim (fun z => some z) (fun z => eq_rowTerm_48 x1 x2 x3 z.1 z.2) y)
set_option maxHeartbeats 4000000 in
theorem wq_rowTerm_48 (C : rf_C D p s m args meth c cX12_rowTerm 7 (some .int)) {r : Int32} {x1 : Int32} {x2 : Int32} {x3 : Int32} {x4 : Int32} {ρ ρ' : rf_S} {H : Heap} {locs : List Loc} {ls : Array Slot} (h : bq_rowTerm_48 x1 x2 x3 x4 ρ = some (r, ρ')) (G : rf_G D h0 s ρ H locs) (hl : lv_has ls 7 [(0, .ref h0), (1, .int x1), (2, .int x2), (3, .int x3), (4, .int x4)]) : W p l e ({ frames := 1, cells := 0, slots := 0, locals := 26 }) s m args below meth c H locs 0 0 (MQ below (rf_Q D h0 (some (.int r)) ρ') args s 0 0 (rf_A h0)) (F0 m 48 ls []) := by
  unfold bq_rowTerm_48 at h
  obtain ⟨y, hy, h⟩ := bd_some h
  have hE : (Sum.elim (fun z : Int32 × rf_S => z = (r, ρ')) (fun z : (Int32 × rf_S) => ∀ (H : Heap) (locs : List Loc) (ls : Array Slot), rf_G D h0 s z.2 H locs → lv_has ls 7 [(0, .ref h0), (1, .int x1), (2, .int x2), (3, .int x3), (4, .int z.1)] → W p l e ({ frames := 1, cells := 0, slots := 0, locals := 26 }) s m args below meth c H locs 0 0 (MQ below (rf_Q D h0 (some (.int r)) ρ') args s 0 0 (rf_A h0)) (F0 m 156 ls []))) y := by
    cases y with
    | inl z =>
      exact Option.some.inj h
    | inr z =>
      intro H locs ls G hl
      have h := se_r h
      obtain ⟨x4, ρ⟩ := z
      dsimp only at h G hl
      unfold eq_rowTerm_48 at h
      refine lv_iconst (v := (0:Int32)) C.1 C.2.1 dX12_rowTerm_156 (by decide) ?_
      refine lv_istore (lv' := [(5, .int (0:Int32)), (0, .ref h0), (1, .int x1), (2, .int x2), (3, .int x3), (4, .int x4)]) C.1 C.2.1 dX12_rowTerm_157 hl (by decide) rfl (fun ls hl => ?_)
      exact wq_rowTerm_159 C h G (lv_sub hl [1, 2, 3, 4, 0] rfl)
  refine lp_recE (fun z : (Int32 × rf_S) => ∀ (H : Heap) (locs : List Loc) (ls : Array Slot), rf_G D h0 s z.2 H locs → lv_has ls 7 [(0, .ref h0), (1, .int x1), (2, .int x2), (3, .int x3), (4, .int z.1)] → W p l e ({ frames := 1, cells := 0, slots := 0, locals := 26 }) s m args below meth c H locs 0 0 (MQ below (rf_Q D h0 (some (.int r)) ρ') args s 0 0 (rf_A h0)) (F0 m 48 ls [])) (Sum.elim (fun z : Int32 × rf_S => z = (r, ρ')) (fun z : (Int32 × rf_S) => ∀ (H : Heap) (locs : List Loc) (ls : Array Slot), rf_G D h0 s z.2 H locs → lv_has ls 7 [(0, .ref h0), (1, .int x1), (2, .int x2), (3, .int x3), (4, .int z.1)] → W p l e ({ frames := 1, cells := 0, slots := 0, locals := 26 }) s m args below meth c H locs 0 0 (MQ below (rf_Q D h0 (some (.int r)) ρ') args s 0 0 (rf_A h0)) (F0 m 156 ls []))) ?_ _ _ hy hE _ _ _ G hl
  clear hE hy G hl h
  intro z o h hP H locs ls G hl
  obtain ⟨x4, ρ⟩ := z
  dsimp only at h G hl
  unfold lq_rowTerm_48 at h
  refine lv_iload C.1 C.2.1 dX12_rowTerm_48 (lv_at hl 4 rfl) ?_
  refine lv_if_lt (tgt := 156) C.1 C.2.1 dX12_rowTerm_50 (by decide) (fun hc => ?_) (fun hc => ?_)
  · rw [if_pos hc] at h
    cases h
    exact hP _ _ _ G (lv_sub hl [0, 1, 2, 3, 4] rfl)
  · rw [if_neg hc] at h
    refine lv_aload_n C.1 C.2.1 dX12_rowTerm_53 rfl (lv_at hl 0 rfl) ?_
    refine gf_0 C G dX12_rowTerm_54 ?_
    refine lv_iload C.1 C.2.1 dX12_rowTerm_57 (lv_at hl 4 rfl) ?_
    obtain ⟨hi, h⟩ := ix_some h
    refine rf_bald C G 1 rfl (by decide) rfl rfl hi dX12_rowTerm_59 ?_
    refine lv_iconst (v := (1:Int32)) C.1 C.2.1 dX12_rowTerm_60 (by decide) ?_
    refine lv_icmp_ne (tgt := 79) C.1 C.2.1 dX12_rowTerm_61 (by decide) (fun hc => ?_) (fun hc => ?_)
    · rw [if_neg hc] at h
      exact wq_rowTerm_79i48 C h hP G (lv_sub hl [0, 1, 2, 3, 4] rfl)
    · rw [if_pos hc] at h
      refine lv_aload_n C.1 C.2.1 dX12_rowTerm_64 rfl (lv_at hl 0 rfl) ?_
      refine gf_2 C G dX12_rowTerm_65 ?_
      refine lv_iload C.1 C.2.1 dX12_rowTerm_68 (lv_at hl 4 rfl) ?_
      obtain ⟨hi, h⟩ := ix_some h
      refine rf_iald C G 3 rfl (by decide) rfl rfl hi dX12_rowTerm_70 ?_
      refine lv_iload_n C.1 C.2.1 dX12_rowTerm_71 rfl (lv_at hl 2 rfl) ?_
      refine lv_icmp_ne (tgt := 79) C.1 C.2.1 dX12_rowTerm_72 (by decide) (fun hc => ?_) (fun hc => ?_)
      · rw [if_neg hc] at h
        exact wq_rowTerm_79i48 C h hP G (lv_sub hl [0, 1, 2, 3, 4] rfl)
      · rw [if_pos hc] at h
        refine lv_iconst (v := (1:Int32)) C.1 C.2.1 dX12_rowTerm_75 (by decide) ?_
        refine lv_goto (tgt := 80) C.1 C.2.1 dX12_rowTerm_76 (by decide) ?_
        exact wq_rowTerm_80i48 C h hP G (lv_sub hl [0, 1, 2, 3, 4] rfl)
noncomputable def eq_rowTerm_5 (x1 : Int32) (x2 : Int32) (x3 : Int32) (x4 : Int32) (ρ : rf_S) : Option (Int32 × rf_S) := bd2 (fq_hash (1:Int32) x3 x2 (0:Int32) ρ) (fun r_4 ρ_3 => ix r_4 16384 (vl (ρ_3.1 11 r_4.toNatClampNeg) (fun x4_5 => bq_rowTerm_48 x1 x2 r_4 x4_5 ρ_3)))
noncomputable def bq_rowTerm_5 (x1 : Int32) (x2 : Int32) (x3 : Int32) (x4 : Int32) (ρ : rf_S) : Option (Int32 × rf_S) := (lp (fun z : (Int32 × Int32 × rf_S) => lq_rowTerm_5 x1 x2 z.1 z.2.1 z.2.2) (x3, x4, ρ)).bind (fun z => eq_rowTerm_5 x1 x2 z.1 z.2.1 z.2.2)
set_option maxHeartbeats 4000000 in
theorem wq_rowTerm_5 (C : rf_C D p s m args meth c cX12_rowTerm 7 (some .int)) {r : Int32} {x1 : Int32} {x2 : Int32} {x3 : Int32} {x4 : Int32} {ρ ρ' : rf_S} {H : Heap} {locs : List Loc} {ls : Array Slot} (h : bq_rowTerm_5 x1 x2 x3 x4 ρ = some (r, ρ')) (G : rf_G D h0 s ρ H locs) (hl : lv_has ls 7 [(0, .ref h0), (1, .int x1), (2, .int x2), (3, .int x3), (4, .int x4)]) : W p l e ({ frames := 1, cells := 0, slots := 0, locals := 26 }) s m args below meth c H locs 0 0 (MQ below (rf_Q D h0 (some (.int r)) ρ') args s 0 0 (rf_A h0)) (F0 m 5 ls []) := by
  unfold bq_rowTerm_5 at h
  obtain ⟨y, hy, h⟩ := bd_some h
  have hE : (fun z : (Int32 × Int32 × rf_S) => ∀ (H : Heap) (locs : List Loc) (ls : Array Slot), rf_G D h0 s z.2.2 H locs → lv_has ls 7 [(0, .ref h0), (1, .int x1), (2, .int x2), (3, .int z.1), (4, .int z.2.1)] → W p l e ({ frames := 1, cells := 0, slots := 0, locals := 26 }) s m args below meth c H locs 0 0 (MQ below (rf_Q D h0 (some (.int r)) ρ') args s 0 0 (rf_A h0)) (F0 m 32 ls [])) y := by
    intro H locs ls G hl
    obtain ⟨x3, x4, ρ⟩ := y
    dsimp only at h G hl
    unfold eq_rowTerm_5 at h
    refine lv_iconst (v := (1:Int32)) C.1 C.2.1 dX12_rowTerm_32 (by decide) ?_
    refine lv_iload_n C.1 C.2.1 dX12_rowTerm_33 rfl (lv_at hl 3 rfl) ?_
    refine lv_iload_n C.1 C.2.1 dX12_rowTerm_34 rfl (lv_at hl 2 rfl) ?_
    refine lv_iconst (v := (0:Int32)) C.1 C.2.1 dX12_rowTerm_35 (by decide) ?_
    obtain ⟨r_4, ρ_3, hq, h⟩ := bd2_some h
    refine rf_callS (rest := []) C G cw_hash [.int (1:Int32), .int x3, .int x2, .int (0:Int32)] _ (kq_hash l D h0 hq) (Nat.le_of_ble_eq_true rfl) (Nat.le_of_ble_eq_true rfl) rfl rfl hl.1 (Nat.le_of_ble_eq_true rfl) (Nat.zero_le _) (Nat.zero_le _) dX12_rowTerm_36 (fun H locs G => ?_)
    refine W.eq (g2 := F0 m 39 ls [.int r_4]) rfl ?_
    refine lv_istore_n (lv' := [(3, .int r_4), (0, .ref h0), (1, .int x1), (2, .int x2), (4, .int x4)]) C.1 C.2.1 dX12_rowTerm_39 rfl hl (by decide) rfl (fun ls hl => ?_)
    refine lv_aload_n C.1 C.2.1 dX12_rowTerm_40 rfl (lv_at hl 1 rfl) ?_
    refine gf_11 C G dX12_rowTerm_41 ?_
    refine lv_iload_n C.1 C.2.1 dX12_rowTerm_44 rfl (lv_at hl 0 rfl) ?_
    obtain ⟨hi, h⟩ := ix_some h
    refine rf_iald C G 11 rfl (by decide) rfl rfl hi dX12_rowTerm_45 ?_
    refine vt_i h (fun x4_5 h => ?_)
    refine lv_istore (lv' := [(4, .int x4_5), (3, .int r_4), (0, .ref h0), (1, .int x1), (2, .int x2)]) C.1 C.2.1 dX12_rowTerm_46 hl (by decide) rfl (fun ls hl => ?_)
    exact wq_rowTerm_48 C h G (lv_sub hl [2, 3, 4, 1, 0] rfl)
  refine lp_recE (fun z : (Int32 × Int32 × rf_S) => ∀ (H : Heap) (locs : List Loc) (ls : Array Slot), rf_G D h0 s z.2.2 H locs → lv_has ls 7 [(0, .ref h0), (1, .int x1), (2, .int x2), (3, .int z.1), (4, .int z.2.1)] → W p l e ({ frames := 1, cells := 0, slots := 0, locals := 26 }) s m args below meth c H locs 0 0 (MQ below (rf_Q D h0 (some (.int r)) ρ') args s 0 0 (rf_A h0)) (F0 m 5 ls [])) (fun z : (Int32 × Int32 × rf_S) => ∀ (H : Heap) (locs : List Loc) (ls : Array Slot), rf_G D h0 s z.2.2 H locs → lv_has ls 7 [(0, .ref h0), (1, .int x1), (2, .int x2), (3, .int z.1), (4, .int z.2.1)] → W p l e ({ frames := 1, cells := 0, slots := 0, locals := 26 }) s m args below meth c H locs 0 0 (MQ below (rf_Q D h0 (some (.int r)) ρ') args s 0 0 (rf_A h0)) (F0 m 32 ls [])) ?_ _ _ hy hE _ _ _ G hl
  clear hE hy G hl h
  intro z o h hP H locs ls G hl
  obtain ⟨x3, x4, ρ⟩ := z
  dsimp only at h G hl
  unfold lq_rowTerm_5 at h
  refine lv_iload C.1 C.2.1 dX12_rowTerm_5 (lv_at hl 4 rfl) ?_
  refine lv_iload_n C.1 C.2.1 dX12_rowTerm_7 rfl (lv_at hl 2 rfl) ?_
  refine lv_icmp_ge (tgt := 32) C.1 C.2.1 dX12_rowTerm_8 (by decide) (fun hc => ?_) (fun hc => ?_)
  · rw [if_pos hc] at h
    cases h
    exact hP _ _ _ G (lv_sub hl [0, 1, 2, 3, 4] rfl)
  · rw [if_neg hc] at h
    refine lv_iload_n C.1 C.2.1 dX12_rowTerm_11 rfl (lv_at hl 3 rfl) ?_
    refine lv_bipush (v := (31:Int32)) C.1 C.2.1 dX12_rowTerm_12 (by decide) ?_
    refine lv_imul C.1 C.2.1 dX12_rowTerm_14 ?_
    refine lv_aload_n C.1 C.2.1 dX12_rowTerm_15 rfl (lv_at hl 0 rfl) ?_
    refine gf_49 C G dX12_rowTerm_16 ?_
    refine lv_iload_n C.1 C.2.1 dX12_rowTerm_19 rfl (lv_at hl 1 rfl) ?_
    refine lv_iload C.1 C.2.1 dX12_rowTerm_20 (lv_at hl 4 rfl) ?_
    refine lv_iadd C.1 C.2.1 dX12_rowTerm_22 ?_
    obtain ⟨hi, h⟩ := ix_some h
    refine rf_iald C G 26 rfl (by decide) rfl rfl hi dX12_rowTerm_23 ?_
    refine lv_iadd C.1 C.2.1 dX12_rowTerm_24 ?_
    refine vt_i h (fun x3_1 h => ?_)
    refine lv_istore_n (lv' := [(3, .int x3_1), (0, .ref h0), (1, .int x1), (2, .int x2), (4, .int x4)]) C.1 C.2.1 dX12_rowTerm_25 rfl hl (by decide) rfl (fun ls hl => ?_)
    refine vl_ex h (fun x4_2 ey h => ?_)
    refine lv_iinc (v := x4_2) (lv' := [(4, .int x4_2), (3, .int x3_1), (0, .ref h0), (1, .int x1), (2, .int x2)]) C.1 C.2.1 dX12_rowTerm_26 hl (k := 4) rfl (by rw [ey]; rfl) (by decide) rfl (fun ls hl => ?_)
    refine lv_goto (tgt := 5) C.1 C.2.1 dX12_rowTerm_29 (by decide) ?_
    cases h
    exact hP _ _ _ G (lv_sub hl [2, 3, 4, 1, 0] rfl)
noncomputable def bq_rowTerm_0 (x1 : Int32) (x2 : Int32) (ρ : rf_S) : Option (Int32 × rf_S) := bq_rowTerm_5 x1 x2 x2 (0:Int32) ρ
set_option maxHeartbeats 4000000 in
theorem wq_rowTerm_0 (C : rf_C D p s m args meth c cX12_rowTerm 7 (some .int)) {r : Int32} {x1 : Int32} {x2 : Int32} {ρ ρ' : rf_S} {H : Heap} {locs : List Loc} {ls : Array Slot} (h : bq_rowTerm_0 x1 x2 ρ = some (r, ρ')) (G : rf_G D h0 s ρ H locs) (hl : lv_has ls 7 [(0, .ref h0), (1, .int x1), (2, .int x2)]) : W p l e ({ frames := 1, cells := 0, slots := 0, locals := 26 }) s m args below meth c H locs 0 0 (MQ below (rf_Q D h0 (some (.int r)) ρ') args s 0 0 (rf_A h0)) (F0 m 0 ls []) := by
  unfold bq_rowTerm_0 at h
  refine lv_iload_n C.1 C.2.1 dX12_rowTerm_0 rfl (lv_at hl 2 rfl) ?_
  refine lv_istore_n (lv' := [(3, .int x2), (0, .ref h0), (1, .int x1), (2, .int x2)]) C.1 C.2.1 dX12_rowTerm_1 rfl hl (by decide) rfl (fun ls hl => ?_)
  refine lv_iconst (v := (0:Int32)) C.1 C.2.1 dX12_rowTerm_2 (by decide) ?_
  refine lv_istore (lv' := [(4, .int (0:Int32)), (3, .int x2), (0, .ref h0), (1, .int x1), (2, .int x2)]) C.1 C.2.1 dX12_rowTerm_3 hl (by decide) rfl (fun ls hl => ?_)
  exact wq_rowTerm_5 C h G (lv_sub hl [2, 3, 4, 1, 0] rfl)
noncomputable def fq_rowTerm (x1 : Int32) (x2 : Int32) (ρ : rf_S) : Option (Int32 × rf_S) := bq_rowTerm_0 x1 x2 ρ
theorem kq_rowTerm (l : Launch) (D : rf_D) (h0 : Nat) {r : Int32} {x1 : Int32} {x2 : Int32} {ρ ρ' : rf_S} (h : fq_rowTerm x1 x2 ρ = some (r, ρ')) : rf_Met l D h0 yX12_rowTerm cX12_rowTerm 7 (some .int) 1 26 [.ref h0, .int x1, .int x2] ρ (some (.int r)) ρ' :=
  rf_of rfl cc_rowTerm (Nat.le_of_ble_eq_true rfl) (fun p e s m args below meth c ls C G hl => wq_rowTerm_0 C h G hl)
abbrev cX12_forget : ByteArray := prog_14_method_7_code
def yX12_forget : MethodName := ⟨RX12, "forget", "(I)V"⟩
theorem dX12_forget_0 : decode cX12_forget 0 = .ok (.aload_n 0, 1) := by decide +kernel
theorem dX12_forget_1 : decode cX12_forget 1 = .ok (.getfield 293, 3) := by decide +kernel
theorem dX12_forget_4 : decode cX12_forget 4 = .ok (.iload_n 1, 1) := by decide +kernel
theorem dX12_forget_5 : decode cX12_forget 5 = .ok (.if_icmp .le 69, 3) := by decide +kernel
theorem dX12_forget_8 : decode cX12_forget 8 = .ok (.aload_n 0, 1) := by decide +kernel
theorem dX12_forget_9 : decode cX12_forget 9 = .ok (.dup, 1) := by decide +kernel
theorem dX12_forget_10 : decode cX12_forget 10 = .ok (.getfield 293, 3) := by decide +kernel
theorem dX12_forget_13 : decode cX12_forget 13 = .ok (.iconst 1, 1) := by decide +kernel
theorem dX12_forget_14 : decode cX12_forget 14 = .ok (.isub, 1) := by decide +kernel
theorem dX12_forget_15 : decode cX12_forget 15 = .ok (.putfield 293, 3) := by decide +kernel
theorem dX12_forget_18 : decode cX12_forget 18 = .ok (.aload_n 0, 1) := by decide +kernel
theorem dX12_forget_19 : decode cX12_forget 19 = .ok (.getfield 44, 3) := by decide +kernel
theorem dX12_forget_22 : decode cX12_forget 22 = .ok (.aload_n 0, 1) := by decide +kernel
theorem dX12_forget_23 : decode cX12_forget 23 = .ok (.getfield 8, 3) := by decide +kernel
theorem dX12_forget_26 : decode cX12_forget 26 = .ok (.aload_n 0, 1) := by decide +kernel
theorem dX12_forget_27 : decode cX12_forget 27 = .ok (.getfield 293, 3) := by decide +kernel
theorem dX12_forget_30 : decode cX12_forget 30 = .ok (.baload, 1) := by decide +kernel
theorem dX12_forget_31 : decode cX12_forget 31 = .ok (.aload_n 0, 1) := by decide +kernel
theorem dX12_forget_32 : decode cX12_forget 32 = .ok (.getfield 14, 3) := by decide +kernel
theorem dX12_forget_35 : decode cX12_forget 35 = .ok (.aload_n 0, 1) := by decide +kernel
theorem dX12_forget_36 : decode cX12_forget 36 = .ok (.getfield 293, 3) := by decide +kernel
theorem dX12_forget_39 : decode cX12_forget 39 = .ok (.iaload, 1) := by decide +kernel
theorem dX12_forget_40 : decode cX12_forget 40 = .ok (.aload_n 0, 1) := by decide +kernel
theorem dX12_forget_41 : decode cX12_forget 41 = .ok (.getfield 18, 3) := by decide +kernel
theorem dX12_forget_44 : decode cX12_forget 44 = .ok (.aload_n 0, 1) := by decide +kernel
theorem dX12_forget_45 : decode cX12_forget 45 = .ok (.getfield 293, 3) := by decide +kernel
theorem dX12_forget_48 : decode cX12_forget 48 = .ok (.iaload, 1) := by decide +kernel
theorem dX12_forget_49 : decode cX12_forget 49 = .ok (.aload_n 0, 1) := by decide +kernel
theorem dX12_forget_50 : decode cX12_forget 50 = .ok (.getfield 21, 3) := by decide +kernel
theorem dX12_forget_53 : decode cX12_forget 53 = .ok (.aload_n 0, 1) := by decide +kernel
theorem dX12_forget_54 : decode cX12_forget 54 = .ok (.getfield 293, 3) := by decide +kernel
theorem dX12_forget_57 : decode cX12_forget 57 = .ok (.iaload, 1) := by decide +kernel
theorem dX12_forget_58 : decode cX12_forget 58 = .ok (.invokestatic 290, 3) := by decide +kernel
theorem dX12_forget_61 : decode cX12_forget 61 = .ok (.aload_n 0, 1) := by decide +kernel
theorem dX12_forget_62 : decode cX12_forget 62 = .ok (.getfield 24, 3) := by decide +kernel
theorem dX12_forget_65 : decode cX12_forget 65 = .ok (.aload_n 0, 1) := by decide +kernel
theorem dX12_forget_66 : decode cX12_forget 66 = .ok (.getfield 293, 3) := by decide +kernel
theorem dX12_forget_69 : decode cX12_forget 69 = .ok (.iaload, 1) := by decide +kernel
theorem dX12_forget_70 : decode cX12_forget 70 = .ok (.iastore, 1) := by decide +kernel
theorem dX12_forget_71 : decode cX12_forget 71 = .ok (.goto (-71), 3) := by decide +kernel
theorem dX12_forget_74 : decode cX12_forget 74 = .ok (.return_, 1) := by decide +kernel
theorem cc_forget : Cond.code yX12_forget cX12_forget 2 none ∈ rf_tb := rf_at 2384 (by decide +kernel) (by decide +kernel)
theorem cw_forget : rf_wV yX12_forget cX12_forget 2 none 711 1 := ⟨⟨rf_at 2381 (by decide +kernel) (by decide +kernel), rf_at 2383 (by decide +kernel) (by decide +kernel), rf_sel (q := (yX12_forget, 122)) 155 (by decide +kernel) (by decide +kernel), cc_forget⟩, rfl, by decide +kernel⟩
noncomputable def lq_forget_0 (x1 : Int32) (ρ : rf_S) : Option ((rf_S) ⊕ (rf_S)) := (if (ρ.1 0 12) ≤ x1 then some (.inr ρ) else vl (rf_w ρ 0 12 ((ρ.1 0 12) - (1:Int32))) (fun ρ_1 => ix (ρ_1.1 0 12) 112000 (ix (ρ_1.1 0 12) 112000 (ix (ρ_1.1 0 12) 112000 (ix (ρ_1.1 0 12) 112000 (bd2 (fq_hash (ρ_1.1 1 (ρ_1.1 0 12).toNatClampNeg) (ρ_1.1 2 (ρ_1.1 0 12).toNatClampNeg) (ρ_1.1 3 (ρ_1.1 0 12).toNatClampNeg) (ρ_1.1 4 (ρ_1.1 0 12).toNatClampNeg) ρ_1) (fun r_3 ρ_2 => ix (ρ_2.1 0 12) 112000 (ix r_3 16384 (vl (rf_w ρ_2 11 r_3.toNatClampNeg (ρ_2.1 5 (ρ_2.1 0 12).toNatClampNeg)) (fun ρ_4 => some (.inl ρ_4)))))))))))
noncomputable def eq_forget_0 (x1 : Int32) (ρ : rf_S) : Option (rf_S) := some ρ
noncomputable def bq_forget_0 (x1 : Int32) (ρ : rf_S) : Option (rf_S) := (lp (fun z : (rf_S) => lq_forget_0 x1 z) ρ).bind (fun z => eq_forget_0 x1 z)
set_option maxHeartbeats 4000000 in
theorem wq_forget_0 (C : rf_C D p s m args meth c cX12_forget 2 none) {x1 : Int32} {ρ ρ' : rf_S} {H : Heap} {locs : List Loc} {ls : Array Slot} (h : bq_forget_0 x1 ρ = some ρ') (G : rf_G D h0 s ρ H locs) (hl : lv_has ls 2 [(0, .ref h0), (1, .int x1)]) : W p l e ({ frames := 1, cells := 0, slots := 0, locals := 24 }) s m args below meth c H locs 0 0 (MQ below (rf_Q D h0 none ρ') args s 0 0 (rf_A h0)) (F0 m 0 ls []) := by
  unfold bq_forget_0 at h
  obtain ⟨ρy, hy, h⟩ := bd_some h
  have hE : (fun z : (rf_S) => ∀ (H : Heap) (locs : List Loc) (ls : Array Slot), rf_G D h0 s z H locs → lv_has ls 2 [(0, .ref h0), (1, .int x1)] → W p l e ({ frames := 1, cells := 0, slots := 0, locals := 24 }) s m args below meth c H locs 0 0 (MQ below (rf_Q D h0 none ρ') args s 0 0 (rf_A h0)) (F0 m 74 ls [])) ρy := by
    intro H locs ls G hl
    unfold eq_forget_0 at h
    revert h G hl; generalize ρy = ρ; intro h G hl
    exact rf_vret C G h dX12_forget_74
  refine lp_recE (fun z : (rf_S) => ∀ (H : Heap) (locs : List Loc) (ls : Array Slot), rf_G D h0 s z H locs → lv_has ls 2 [(0, .ref h0), (1, .int x1)] → W p l e ({ frames := 1, cells := 0, slots := 0, locals := 24 }) s m args below meth c H locs 0 0 (MQ below (rf_Q D h0 none ρ') args s 0 0 (rf_A h0)) (F0 m 0 ls [])) (fun z : (rf_S) => ∀ (H : Heap) (locs : List Loc) (ls : Array Slot), rf_G D h0 s z H locs → lv_has ls 2 [(0, .ref h0), (1, .int x1)] → W p l e ({ frames := 1, cells := 0, slots := 0, locals := 24 }) s m args below meth c H locs 0 0 (MQ below (rf_Q D h0 none ρ') args s 0 0 (rf_A h0)) (F0 m 74 ls [])) ?_ _ _ hy hE _ _ _ G hl
  clear hE hy G hl h
  intro ρ o h hP H locs ls G hl
  unfold lq_forget_0 at h
  refine lv_aload_n C.1 C.2.1 dX12_forget_0 rfl (lv_at hl 0 rfl) ?_
  refine gf_12 C G dX12_forget_1 ?_
  refine lv_iload_n C.1 C.2.1 dX12_forget_4 rfl (lv_at hl 1 rfl) ?_
  refine lv_icmp_le (tgt := 74) C.1 C.2.1 dX12_forget_5 (by decide) (fun hc => ?_) (fun hc => ?_)
  · rw [if_pos hc] at h
    cases h
    exact hP _ _ _ G (lv_sub hl [0, 1] rfl)
  · rw [if_neg hc] at h
    refine lv_aload_n C.1 C.2.1 dX12_forget_8 rfl (lv_at hl 0 rfl) ?_
    refine lv_dup C.1 C.2.1 dX12_forget_9 rfl ?_
    refine gf_12 C G dX12_forget_10 ?_
    refine lv_iconst (v := (1:Int32)) C.1 C.2.1 dX12_forget_13 (by decide) ?_
    refine lv_isub C.1 C.2.1 dX12_forget_14 ?_
    refine pf_12 C G dX12_forget_15 (fun H locs G => ?_)
    refine rf_nm G h (fun ρ_1 G h => ?_)
    refine lv_aload_n C.1 C.2.1 dX12_forget_18 rfl (lv_at hl 0 rfl) ?_
    refine gf_11 C G dX12_forget_19 ?_
    refine lv_aload_n C.1 C.2.1 dX12_forget_22 rfl (lv_at hl 0 rfl) ?_
    refine gf_0 C G dX12_forget_23 ?_
    refine lv_aload_n C.1 C.2.1 dX12_forget_26 rfl (lv_at hl 0 rfl) ?_
    refine gf_12 C G dX12_forget_27 ?_
    obtain ⟨hi, h⟩ := ix_some h
    refine rf_bald C G 1 rfl (by decide) rfl rfl hi dX12_forget_30 ?_
    refine lv_aload_n C.1 C.2.1 dX12_forget_31 rfl (lv_at hl 0 rfl) ?_
    refine gf_1 C G dX12_forget_32 ?_
    refine lv_aload_n C.1 C.2.1 dX12_forget_35 rfl (lv_at hl 0 rfl) ?_
    refine gf_12 C G dX12_forget_36 ?_
    obtain ⟨hi, h⟩ := ix_some h
    refine rf_iald C G 2 rfl (by decide) rfl rfl hi dX12_forget_39 ?_
    refine lv_aload_n C.1 C.2.1 dX12_forget_40 rfl (lv_at hl 0 rfl) ?_
    refine gf_2 C G dX12_forget_41 ?_
    refine lv_aload_n C.1 C.2.1 dX12_forget_44 rfl (lv_at hl 0 rfl) ?_
    refine gf_12 C G dX12_forget_45 ?_
    obtain ⟨hi, h⟩ := ix_some h
    refine rf_iald C G 3 rfl (by decide) rfl rfl hi dX12_forget_48 ?_
    refine lv_aload_n C.1 C.2.1 dX12_forget_49 rfl (lv_at hl 0 rfl) ?_
    refine gf_3 C G dX12_forget_50 ?_
    refine lv_aload_n C.1 C.2.1 dX12_forget_53 rfl (lv_at hl 0 rfl) ?_
    refine gf_12 C G dX12_forget_54 ?_
    obtain ⟨hi, h⟩ := ix_some h
    refine rf_iald C G 4 rfl (by decide) rfl rfl hi dX12_forget_57 ?_
    obtain ⟨r_3, ρ_2, hq, h⟩ := bd2_some h
    refine rf_callS (rest := [.ref (h0 + 11)]) C G cw_hash [.int (ρ_1.1 1 (ρ_1.1 0 12).toNatClampNeg), .int (ρ_1.1 2 (ρ_1.1 0 12).toNatClampNeg), .int (ρ_1.1 3 (ρ_1.1 0 12).toNatClampNeg), .int (ρ_1.1 4 (ρ_1.1 0 12).toNatClampNeg)] _ (kq_hash l D h0 hq) (Nat.le_of_ble_eq_true rfl) (Nat.le_of_ble_eq_true rfl) rfl rfl hl.1 (Nat.le_of_ble_eq_true rfl) (Nat.zero_le _) (Nat.zero_le _) dX12_forget_58 (fun H locs G => ?_)
    refine W.eq (g2 := F0 m 61 ls [.int r_3, .ref (h0 + 11)]) rfl ?_
    refine lv_aload_n C.1 C.2.1 dX12_forget_61 rfl (lv_at hl 0 rfl) ?_
    refine gf_4 C G dX12_forget_62 ?_
    refine lv_aload_n C.1 C.2.1 dX12_forget_65 rfl (lv_at hl 0 rfl) ?_
    refine gf_12 C G dX12_forget_66 ?_
    obtain ⟨hi, h⟩ := ix_some h
    refine rf_iald C G 5 rfl (by decide) rfl rfl hi dX12_forget_69 ?_
    obtain ⟨hi, h⟩ := ix_some h
    refine rf_iast C G 11 rfl (by decide) rfl rfl hi dX12_forget_70 (fun H locs G => ?_)
    refine rf_nm G h (fun ρ_4 G h => ?_)
    refine lv_goto (tgt := 0) C.1 C.2.1 dX12_forget_71 (by decide) ?_
    cases h
    exact hP _ _ _ G (lv_sub hl [0, 1] rfl)
noncomputable def fq_forget (x1 : Int32) (ρ : rf_S) : Option (rf_S) := bq_forget_0 x1 ρ
theorem kq_forget (l : Launch) (D : rf_D) (h0 : Nat) {x1 : Int32} {ρ ρ' : rf_S} (h : fq_forget x1 ρ = some ρ') : rf_Met l D h0 yX12_forget cX12_forget 2 none 1 24 [.ref h0, .int x1] ρ none ρ' :=
  rf_of rfl cc_forget (Nat.le_of_ble_eq_true rfl) (fun p e s m args below meth c ls C G hl => wq_forget_0 C h G hl)
abbrev cX12_wentOut : ByteArray := prog_14_method_8_code
def yX12_wentOut : MethodName := ⟨RX12, "wentOut", "(I)V"⟩
theorem dX12_wentOut_0 : decode cX12_wentOut 0 = .ok (.aload_n 0, 1) := by decide +kernel
theorem dX12_wentOut_1 : decode cX12_wentOut 1 = .ok (.getfield 27, 3) := by decide +kernel
theorem dX12_wentOut_4 : decode cX12_wentOut 4 = .ok (.iload_n 1, 1) := by decide +kernel
theorem dX12_wentOut_5 : decode cX12_wentOut 5 = .ok (.baload, 1) := by decide +kernel
theorem dX12_wentOut_6 : decode cX12_wentOut 6 = .ok (.ifCond .ne 20, 3) := by decide +kernel
theorem dX12_wentOut_9 : decode cX12_wentOut 9 = .ok (.aload_n 0, 1) := by decide +kernel
theorem dX12_wentOut_10 : decode cX12_wentOut 10 = .ok (.getfield 27, 3) := by decide +kernel
theorem dX12_wentOut_13 : decode cX12_wentOut 13 = .ok (.iload_n 1, 1) := by decide +kernel
theorem dX12_wentOut_14 : decode cX12_wentOut 14 = .ok (.iconst 1, 1) := by decide +kernel
theorem dX12_wentOut_15 : decode cX12_wentOut 15 = .ok (.bastore, 1) := by decide +kernel
theorem dX12_wentOut_16 : decode cX12_wentOut 16 = .ok (.aload_n 0, 1) := by decide +kernel
theorem dX12_wentOut_17 : decode cX12_wentOut 17 = .ok (.dup, 1) := by decide +kernel
theorem dX12_wentOut_18 : decode cX12_wentOut 18 = .ok (.getfield 306, 3) := by decide +kernel
theorem dX12_wentOut_21 : decode cX12_wentOut 21 = .ok (.iconst 1, 1) := by decide +kernel
theorem dX12_wentOut_22 : decode cX12_wentOut 22 = .ok (.iadd, 1) := by decide +kernel
theorem dX12_wentOut_23 : decode cX12_wentOut 23 = .ok (.putfield 306, 3) := by decide +kernel
theorem dX12_wentOut_26 : decode cX12_wentOut 26 = .ok (.return_, 1) := by decide +kernel
theorem cc_wentOut : Cond.code yX12_wentOut cX12_wentOut 2 none ∈ rf_tb := rf_at 2163 (by decide +kernel) (by decide +kernel)
theorem cw_wentOut : rf_wV yX12_wentOut cX12_wentOut 2 none 648 1 := ⟨⟨rf_at 2160 (by decide +kernel) (by decide +kernel), rf_at 2162 (by decide +kernel) (by decide +kernel), rf_sel (q := (yX12_wentOut, 122)) 119 (by decide +kernel) (by decide +kernel), cc_wentOut⟩, rfl, by decide +kernel⟩
noncomputable def bq_wentOut_0 (x1 : Int32) (ρ : rf_S) : Option (rf_S) := ix x1 112000 ((if (ρ.1 6 x1.toNatClampNeg) = 0 then ix x1 112000 (vl (rf_w ρ 6 x1.toNatClampNeg (vp_nar .boolean (1:Int32))) (fun ρ_1 => vl (rf_w ρ_1 0 14 ((ρ_1.1 0 14) + (1:Int32))) (fun ρ_2 => some ρ_2))) else some ρ))
set_option maxHeartbeats 4000000 in
theorem wq_wentOut_0 (C : rf_C D p s m args meth c cX12_wentOut 2 none) {x1 : Int32} {ρ ρ' : rf_S} {H : Heap} {locs : List Loc} {ls : Array Slot} (h : bq_wentOut_0 x1 ρ = some ρ') (G : rf_G D h0 s ρ H locs) (hl : lv_has ls 2 [(0, .ref h0), (1, .int x1)]) : W p l e ({ frames := 0, cells := 0, slots := 0, locals := 0 }) s m args below meth c H locs 0 0 (MQ below (rf_Q D h0 none ρ') args s 0 0 (rf_A h0)) (F0 m 0 ls []) := by
  unfold bq_wentOut_0 at h
  refine lv_aload_n C.1 C.2.1 dX12_wentOut_0 rfl (lv_at hl 0 rfl) ?_
  refine gf_5 C G dX12_wentOut_1 ?_
  refine lv_iload_n C.1 C.2.1 dX12_wentOut_4 rfl (lv_at hl 1 rfl) ?_
  obtain ⟨hi, h⟩ := ix_some h
  refine rf_zald C G 6 rfl (by decide) rfl rfl hi dX12_wentOut_5 ?_
  refine lv_if_ne (tgt := 26) C.1 C.2.1 dX12_wentOut_6 (by decide) (fun hc => ?_) (fun hc => ?_)
  · rw [if_neg hc] at h
    exact rf_vret C G h dX12_wentOut_26
  · rw [if_pos hc] at h
    refine lv_aload_n C.1 C.2.1 dX12_wentOut_9 rfl (lv_at hl 0 rfl) ?_
    refine gf_5 C G dX12_wentOut_10 ?_
    refine lv_iload_n C.1 C.2.1 dX12_wentOut_13 rfl (lv_at hl 1 rfl) ?_
    refine lv_iconst (v := (1:Int32)) C.1 C.2.1 dX12_wentOut_14 (by decide) ?_
    obtain ⟨hi, h⟩ := ix_some h
    refine rf_zast C G 6 rfl (by decide) rfl rfl hi dX12_wentOut_15 (fun H locs G => ?_)
    refine rf_nm G h (fun ρ_1 G h => ?_)
    refine lv_aload_n C.1 C.2.1 dX12_wentOut_16 rfl (lv_at hl 0 rfl) ?_
    refine lv_dup C.1 C.2.1 dX12_wentOut_17 rfl ?_
    refine gf_14 C G dX12_wentOut_18 ?_
    refine lv_iconst (v := (1:Int32)) C.1 C.2.1 dX12_wentOut_21 (by decide) ?_
    refine lv_iadd C.1 C.2.1 dX12_wentOut_22 ?_
    refine pf_14 C G dX12_wentOut_23 (fun H locs G => ?_)
    refine rf_nm G h (fun ρ_2 G h => ?_)
    exact rf_vret C G h dX12_wentOut_26
noncomputable def fq_wentOut (x1 : Int32) (ρ : rf_S) : Option (rf_S) := bq_wentOut_0 x1 ρ
theorem kq_wentOut (l : Launch) (D : rf_D) (h0 : Nat) {x1 : Int32} {ρ ρ' : rf_S} (h : fq_wentOut x1 ρ = some ρ') : rf_Met l D h0 yX12_wentOut cX12_wentOut 2 none 0 0 [.ref h0, .int x1] ρ none ρ' :=
  rf_of rfl cc_wentOut (Nat.le_of_ble_eq_true rfl) (fun p e s m args below meth c ls C G hl => wq_wentOut_0 C h G hl)
abbrev cX12_later : ByteArray := prog_14_method_9_code
def yX12_later : MethodName := ⟨RX12, "later", "(II)I"⟩
theorem dX12_later_0 : decode cX12_later 0 = .ok (.aload_n 0, 1) := by decide +kernel
theorem dX12_later_1 : decode cX12_later 1 = .ok (.getfield 31, 3) := by decide +kernel
theorem dX12_later_4 : decode cX12_later 4 = .ok (.iload_n 1, 1) := by decide +kernel
theorem dX12_later_5 : decode cX12_later 5 = .ok (.iaload, 1) := by decide +kernel
theorem dX12_later_6 : decode cX12_later 6 = .ok (.istore_n 3, 1) := by decide +kernel
theorem dX12_later_7 : decode cX12_later 7 = .ok (.aload_n 0, 1) := by decide +kernel
theorem dX12_later_8 : decode cX12_later 8 = .ok (.getfield 31, 3) := by decide +kernel
theorem dX12_later_11 : decode cX12_later 11 = .ok (.iload_n 2, 1) := by decide +kernel
theorem dX12_later_12 : decode cX12_later 12 = .ok (.iaload, 1) := by decide +kernel
theorem dX12_later_13 : decode cX12_later 13 = .ok (.istore 4, 2) := by decide +kernel
theorem dX12_later_15 : decode cX12_later 15 = .ok (.iload_n 3, 1) := by decide +kernel
theorem dX12_later_16 : decode cX12_later 16 = .ok (.iload 4, 2) := by decide +kernel
theorem dX12_later_18 : decode cX12_later 18 = .ok (.if_icmp .le 7, 3) := by decide +kernel
theorem dX12_later_21 : decode cX12_later 21 = .ok (.iload_n 3, 1) := by decide +kernel
theorem dX12_later_22 : decode cX12_later 22 = .ok (.goto 5, 3) := by decide +kernel
theorem dX12_later_25 : decode cX12_later 25 = .ok (.iload 4, 2) := by decide +kernel
theorem dX12_later_27 : decode cX12_later 27 = .ok (.ireturn, 1) := by decide +kernel
theorem cc_later : Cond.code yX12_later cX12_later 5 (some .int) ∈ rf_tb := rf_at 2352 (by decide +kernel) (by decide +kernel)
theorem cw_later : rf_wV yX12_later cX12_later 5 (some .int) 310 2 := ⟨⟨rf_at 2349 (by decide +kernel) (by decide +kernel), rf_at 2351 (by decide +kernel) (by decide +kernel), rf_sel (q := (yX12_later, 122)) 151 (by decide +kernel) (by decide +kernel), cc_later⟩, rfl, by decide +kernel⟩
noncomputable def bq_later_0 (x1 : Int32) (x2 : Int32) (ρ : rf_S) : Option (Int32 × rf_S) := ix x1 112000 (vl (ρ.1 7 x1.toNatClampNeg) (fun x3_1 => ix x2 112000 (vl (ρ.1 7 x2.toNatClampNeg) (fun x4_2 => (if x3_1 ≤ x4_2 then some (x4_2, ρ) else some (x3_1, ρ))))))
set_option maxHeartbeats 4000000 in
theorem wq_later_0 (C : rf_C D p s m args meth c cX12_later 5 (some .int)) {r : Int32} {x1 : Int32} {x2 : Int32} {ρ ρ' : rf_S} {H : Heap} {locs : List Loc} {ls : Array Slot} (h : bq_later_0 x1 x2 ρ = some (r, ρ')) (G : rf_G D h0 s ρ H locs) (hl : lv_has ls 5 [(0, .ref h0), (1, .int x1), (2, .int x2)]) : W p l e ({ frames := 0, cells := 0, slots := 0, locals := 0 }) s m args below meth c H locs 0 0 (MQ below (rf_Q D h0 (some (.int r)) ρ') args s 0 0 (rf_A h0)) (F0 m 0 ls []) := by
  unfold bq_later_0 at h
  refine lv_aload_n C.1 C.2.1 dX12_later_0 rfl (lv_at hl 0 rfl) ?_
  refine gf_6 C G dX12_later_1 ?_
  refine lv_iload_n C.1 C.2.1 dX12_later_4 rfl (lv_at hl 1 rfl) ?_
  obtain ⟨hi, h⟩ := ix_some h
  refine rf_iald C G 7 rfl (by decide) rfl rfl hi dX12_later_5 ?_
  refine vt_i h (fun x3_1 h => ?_)
  refine lv_istore_n (lv' := [(3, .int x3_1), (0, .ref h0), (1, .int x1), (2, .int x2)]) C.1 C.2.1 dX12_later_6 rfl hl (by decide) rfl (fun ls hl => ?_)
  refine lv_aload_n C.1 C.2.1 dX12_later_7 rfl (lv_at hl 1 rfl) ?_
  refine gf_6 C G dX12_later_8 ?_
  refine lv_iload_n C.1 C.2.1 dX12_later_11 rfl (lv_at hl 3 rfl) ?_
  obtain ⟨hi, h⟩ := ix_some h
  refine rf_iald C G 7 rfl (by decide) rfl rfl hi dX12_later_12 ?_
  refine vt_i h (fun x4_2 h => ?_)
  refine lv_istore (lv' := [(4, .int x4_2), (3, .int x3_1), (0, .ref h0), (1, .int x1), (2, .int x2)]) C.1 C.2.1 dX12_later_13 hl (by decide) rfl (fun ls hl => ?_)
  refine lv_iload_n C.1 C.2.1 dX12_later_15 rfl (lv_at hl 1 rfl) ?_
  refine lv_iload C.1 C.2.1 dX12_later_16 (lv_at hl 0 rfl) ?_
  refine lv_icmp_le (tgt := 25) C.1 C.2.1 dX12_later_18 (by decide) (fun hc => ?_) (fun hc => ?_)
  · rw [if_pos hc] at h
    refine lv_iload C.1 C.2.1 dX12_later_25 (lv_at hl 0 rfl) ?_
    exact rf_iret C G h dX12_later_27
  · rw [if_neg hc] at h
    refine lv_iload_n C.1 C.2.1 dX12_later_21 rfl (lv_at hl 1 rfl) ?_
    refine lv_goto (tgt := 27) C.1 C.2.1 dX12_later_22 (by decide) ?_
    exact rf_iret C G h dX12_later_27
noncomputable def fq_later (x1 : Int32) (x2 : Int32) (ρ : rf_S) : Option (Int32 × rf_S) := bq_later_0 x1 x2 ρ
theorem kq_later (l : Launch) (D : rf_D) (h0 : Nat) {r : Int32} {x1 : Int32} {x2 : Int32} {ρ ρ' : rf_S} (h : fq_later x1 x2 ρ = some (r, ρ')) : rf_Met l D h0 yX12_later cX12_later 5 (some .int) 0 0 [.ref h0, .int x1, .int x2] ρ (some (.int r)) ρ' :=
  rf_of rfl cc_later (Nat.le_of_ble_eq_true rfl) (fun p e s m args below meth c ls C G hl => wq_later_0 C h G hl)
abbrev cX12_nearer : ByteArray := prog_14_method_10_code
def yX12_nearer : MethodName := ⟨RX12, "nearer", "(II)Z"⟩
theorem dX12_nearer_0 : decode cX12_nearer 0 = .ok (.iload_n 2, 1) := by decide +kernel
theorem dX12_nearer_1 : decode cX12_nearer 1 = .ok (.aload_n 0, 1) := by decide +kernel
theorem dX12_nearer_2 : decode cX12_nearer 2 = .ok (.getfield 31, 3) := by decide +kernel
theorem dX12_nearer_5 : decode cX12_nearer 5 = .ok (.iload_n 1, 1) := by decide +kernel
theorem dX12_nearer_6 : decode cX12_nearer 6 = .ok (.iaload, 1) := by decide +kernel
theorem dX12_nearer_7 : decode cX12_nearer 7 = .ok (.if_icmp .lt 5, 3) := by decide +kernel
theorem dX12_nearer_10 : decode cX12_nearer 10 = .ok (.iconst 0, 1) := by decide +kernel
theorem dX12_nearer_11 : decode cX12_nearer 11 = .ok (.ireturn, 1) := by decide +kernel
theorem dX12_nearer_12 : decode cX12_nearer 12 = .ok (.aload_n 0, 1) := by decide +kernel
theorem dX12_nearer_13 : decode cX12_nearer 13 = .ok (.getfield 31, 3) := by decide +kernel
theorem dX12_nearer_16 : decode cX12_nearer 16 = .ok (.iload_n 1, 1) := by decide +kernel
theorem dX12_nearer_17 : decode cX12_nearer 17 = .ok (.iload_n 2, 1) := by decide +kernel
theorem dX12_nearer_18 : decode cX12_nearer 18 = .ok (.iastore, 1) := by decide +kernel
theorem dX12_nearer_19 : decode cX12_nearer 19 = .ok (.iconst 1, 1) := by decide +kernel
theorem dX12_nearer_20 : decode cX12_nearer 20 = .ok (.ireturn, 1) := by decide +kernel
theorem cc_nearer : Cond.code yX12_nearer cX12_nearer 3 (some .boolean) ∈ rf_tb := rf_at 2340 (by decide +kernel) (by decide +kernel)
theorem cw_nearer : rf_wV yX12_nearer cX12_nearer 3 (some .boolean) 314 2 := ⟨⟨rf_at 2337 (by decide +kernel) (by decide +kernel), rf_at 2339 (by decide +kernel) (by decide +kernel), rf_sel (q := (yX12_nearer, 122)) 148 (by decide +kernel) (by decide +kernel), cc_nearer⟩, rfl, by decide +kernel⟩
noncomputable def bq_nearer_0 (x1 : Int32) (x2 : Int32) (ρ : rf_S) : Option (Int32 × rf_S) := ix x1 112000 ((if x2 < (ρ.1 7 x1.toNatClampNeg) then ix x1 112000 (vl (rf_w ρ 7 x1.toNatClampNeg x2) (fun ρ_1 => some ((1:Int32), ρ_1))) else some ((0:Int32), ρ)))
set_option maxHeartbeats 4000000 in
theorem wq_nearer_0 (C : rf_C D p s m args meth c cX12_nearer 3 (some .boolean)) {r : Int32} {x1 : Int32} {x2 : Int32} {ρ ρ' : rf_S} {H : Heap} {locs : List Loc} {ls : Array Slot} (h : bq_nearer_0 x1 x2 ρ = some (r, ρ')) (G : rf_G D h0 s ρ H locs) (hl : lv_has ls 3 [(0, .ref h0), (1, .int x1), (2, .int x2)]) : W p l e ({ frames := 0, cells := 0, slots := 0, locals := 0 }) s m args below meth c H locs 0 0 (MQ below (rf_Q D h0 (some (.int r)) ρ') args s 0 0 (rf_A h0)) (F0 m 0 ls []) := by
  unfold bq_nearer_0 at h
  refine lv_iload_n C.1 C.2.1 dX12_nearer_0 rfl (lv_at hl 2 rfl) ?_
  refine lv_aload_n C.1 C.2.1 dX12_nearer_1 rfl (lv_at hl 0 rfl) ?_
  refine gf_6 C G dX12_nearer_2 ?_
  refine lv_iload_n C.1 C.2.1 dX12_nearer_5 rfl (lv_at hl 1 rfl) ?_
  obtain ⟨hi, h⟩ := ix_some h
  refine rf_iald C G 7 rfl (by decide) rfl rfl hi dX12_nearer_6 ?_
  refine lv_icmp_lt (tgt := 12) C.1 C.2.1 dX12_nearer_7 (by decide) (fun hc => ?_) (fun hc => ?_)
  · rw [if_pos hc] at h
    refine lv_aload_n C.1 C.2.1 dX12_nearer_12 rfl (lv_at hl 0 rfl) ?_
    refine gf_6 C G dX12_nearer_13 ?_
    refine lv_iload_n C.1 C.2.1 dX12_nearer_16 rfl (lv_at hl 1 rfl) ?_
    refine lv_iload_n C.1 C.2.1 dX12_nearer_17 rfl (lv_at hl 2 rfl) ?_
    obtain ⟨hi, h⟩ := ix_some h
    refine rf_iast C G 7 rfl (by decide) rfl rfl hi dX12_nearer_18 (fun H locs G => ?_)
    refine rf_nm G h (fun ρ_1 G h => ?_)
    refine lv_iconst (v := (1:Int32)) C.1 C.2.1 dX12_nearer_19 (by decide) ?_
    exact rf_zret C G h rfl dX12_nearer_20
  · rw [if_neg hc] at h
    refine lv_iconst (v := (0:Int32)) C.1 C.2.1 dX12_nearer_10 (by decide) ?_
    exact rf_zret C G h rfl dX12_nearer_11
noncomputable def fq_nearer (x1 : Int32) (x2 : Int32) (ρ : rf_S) : Option (Int32 × rf_S) := bq_nearer_0 x1 x2 ρ
theorem kq_nearer (l : Launch) (D : rf_D) (h0 : Nat) {r : Int32} {x1 : Int32} {x2 : Int32} {ρ ρ' : rf_S} (h : fq_nearer x1 x2 ρ = some (r, ρ')) : rf_Met l D h0 yX12_nearer cX12_nearer 3 (some .boolean) 0 0 [.ref h0, .int x1, .int x2] ρ (some (.int r)) ρ' :=
  rf_of rfl cc_nearer (Nat.le_of_ble_eq_true rfl) (fun p e s m args below meth c ls C G hl => wq_nearer_0 C h G hl)
abbrev cX12_partsOf : ByteArray := prog_14_method_11_code
def yX12_partsOf : MethodName := ⟨RX12, "partsOf", "(I)I"⟩
theorem dX12_partsOf_0 : decode cX12_partsOf 0 = .ok (.aload_n 0, 1) := by decide +kernel
theorem dX12_partsOf_1 : decode cX12_partsOf 1 = .ok (.getfield 8, 3) := by decide +kernel
theorem dX12_partsOf_4 : decode cX12_partsOf 4 = .ok (.iload_n 1, 1) := by decide +kernel
theorem dX12_partsOf_5 : decode cX12_partsOf 5 = .ok (.baload, 1) := by decide +kernel
theorem dX12_partsOf_6 : decode cX12_partsOf 6 = .ok (.istore_n 2, 1) := by decide +kernel
theorem dX12_partsOf_7 : decode cX12_partsOf 7 = .ok (.iload_n 2, 1) := by decide +kernel
theorem dX12_partsOf_8 : decode cX12_partsOf 8 = .ok (.iconst 3, 1) := by decide +kernel
theorem dX12_partsOf_9 : decode cX12_partsOf 9 = .ok (.if_icmp .ge 7, 3) := by decide +kernel
theorem dX12_partsOf_12 : decode cX12_partsOf 12 = .ok (.ldc_w 309, 3) := by decide +kernel
theorem dX12_partsOf_15 : decode cX12_partsOf 15 = .ok (.ireturn, 1) := by decide +kernel
theorem dX12_partsOf_16 : decode cX12_partsOf 16 = .ok (.iload_n 2, 1) := by decide +kernel
theorem dX12_partsOf_17 : decode cX12_partsOf 17 = .ok (.iconst 4, 1) := by decide +kernel
theorem dX12_partsOf_18 : decode cX12_partsOf 18 = .ok (.if_icmp .eq 9, 3) := by decide +kernel
theorem dX12_partsOf_21 : decode cX12_partsOf 21 = .ok (.iload_n 2, 1) := by decide +kernel
theorem dX12_partsOf_22 : decode cX12_partsOf 22 = .ok (.bipush 6, 2) := by decide +kernel
theorem dX12_partsOf_24 : decode cX12_partsOf 24 = .ok (.if_icmp .ne 15, 3) := by decide +kernel
theorem dX12_partsOf_27 : decode cX12_partsOf 27 = .ok (.aload_n 0, 1) := by decide +kernel
theorem dX12_partsOf_28 : decode cX12_partsOf 28 = .ok (.getfield 31, 3) := by decide +kernel
theorem dX12_partsOf_31 : decode cX12_partsOf 31 = .ok (.aload_n 0, 1) := by decide +kernel
theorem dX12_partsOf_32 : decode cX12_partsOf 32 = .ok (.getfield 14, 3) := by decide +kernel
theorem dX12_partsOf_35 : decode cX12_partsOf 35 = .ok (.iload_n 1, 1) := by decide +kernel
theorem dX12_partsOf_36 : decode cX12_partsOf 36 = .ok (.iaload, 1) := by decide +kernel
theorem dX12_partsOf_37 : decode cX12_partsOf 37 = .ok (.iaload, 1) := by decide +kernel
theorem dX12_partsOf_38 : decode cX12_partsOf 38 = .ok (.ireturn, 1) := by decide +kernel
theorem dX12_partsOf_39 : decode cX12_partsOf 39 = .ok (.aload_n 0, 1) := by decide +kernel
theorem dX12_partsOf_40 : decode cX12_partsOf 40 = .ok (.aload_n 0, 1) := by decide +kernel
theorem dX12_partsOf_41 : decode cX12_partsOf 41 = .ok (.getfield 14, 3) := by decide +kernel
theorem dX12_partsOf_44 : decode cX12_partsOf 44 = .ok (.iload_n 1, 1) := by decide +kernel
theorem dX12_partsOf_45 : decode cX12_partsOf 45 = .ok (.iaload, 1) := by decide +kernel
theorem dX12_partsOf_46 : decode cX12_partsOf 46 = .ok (.aload_n 0, 1) := by decide +kernel
theorem dX12_partsOf_47 : decode cX12_partsOf 47 = .ok (.getfield 18, 3) := by decide +kernel
theorem dX12_partsOf_50 : decode cX12_partsOf 50 = .ok (.iload_n 1, 1) := by decide +kernel
theorem dX12_partsOf_51 : decode cX12_partsOf 51 = .ok (.iaload, 1) := by decide +kernel
theorem dX12_partsOf_52 : decode cX12_partsOf 52 = .ok (.invokevirtual 310, 3) := by decide +kernel
theorem dX12_partsOf_55 : decode cX12_partsOf 55 = .ok (.istore_n 3, 1) := by decide +kernel
theorem dX12_partsOf_56 : decode cX12_partsOf 56 = .ok (.iload_n 2, 1) := by decide +kernel
theorem dX12_partsOf_57 : decode cX12_partsOf 57 = .ok (.bipush 8, 2) := by decide +kernel
theorem dX12_partsOf_59 : decode cX12_partsOf 59 = .ok (.if_icmp .ne 32, 3) := by decide +kernel
theorem dX12_partsOf_62 : decode cX12_partsOf 62 = .ok (.aload_n 0, 1) := by decide +kernel
theorem dX12_partsOf_63 : decode cX12_partsOf 63 = .ok (.getfield 31, 3) := by decide +kernel
theorem dX12_partsOf_66 : decode cX12_partsOf 66 = .ok (.aload_n 0, 1) := by decide +kernel
theorem dX12_partsOf_67 : decode cX12_partsOf 67 = .ok (.getfield 21, 3) := by decide +kernel
theorem dX12_partsOf_70 : decode cX12_partsOf 70 = .ok (.iload_n 1, 1) := by decide +kernel
theorem dX12_partsOf_71 : decode cX12_partsOf 71 = .ok (.iaload, 1) := by decide +kernel
theorem dX12_partsOf_72 : decode cX12_partsOf 72 = .ok (.iaload, 1) := by decide +kernel
theorem dX12_partsOf_73 : decode cX12_partsOf 73 = .ok (.iload_n 3, 1) := by decide +kernel
theorem dX12_partsOf_74 : decode cX12_partsOf 74 = .ok (.if_icmp .le 17, 3) := by decide +kernel
theorem dX12_partsOf_77 : decode cX12_partsOf 77 = .ok (.aload_n 0, 1) := by decide +kernel
theorem dX12_partsOf_78 : decode cX12_partsOf 78 = .ok (.getfield 31, 3) := by decide +kernel
theorem dX12_partsOf_81 : decode cX12_partsOf 81 = .ok (.aload_n 0, 1) := by decide +kernel
theorem dX12_partsOf_82 : decode cX12_partsOf 82 = .ok (.getfield 21, 3) := by decide +kernel
theorem dX12_partsOf_85 : decode cX12_partsOf 85 = .ok (.iload_n 1, 1) := by decide +kernel
theorem dX12_partsOf_86 : decode cX12_partsOf 86 = .ok (.iaload, 1) := by decide +kernel
theorem dX12_partsOf_87 : decode cX12_partsOf 87 = .ok (.iaload, 1) := by decide +kernel
theorem dX12_partsOf_88 : decode cX12_partsOf 88 = .ok (.goto 4, 3) := by decide +kernel
theorem dX12_partsOf_91 : decode cX12_partsOf 91 = .ok (.iload_n 3, 1) := by decide +kernel
theorem dX12_partsOf_92 : decode cX12_partsOf 92 = .ok (.ireturn, 1) := by decide +kernel
theorem cc_partsOf : Cond.code yX12_partsOf cX12_partsOf 4 (some .int) ∈ rf_tb := rf_at 2348 (by decide +kernel) (by decide +kernel)
theorem cw_partsOf : rf_wV yX12_partsOf cX12_partsOf 4 (some .int) 334 1 := ⟨⟨rf_at 2345 (by decide +kernel) (by decide +kernel), rf_at 2347 (by decide +kernel) (by decide +kernel), rf_sel (q := (yX12_partsOf, 122)) 150 (by decide +kernel) (by decide +kernel), cc_partsOf⟩, rfl, by decide +kernel⟩
theorem kc_309 : Cond.constant RX12 309 (1000000000 : Int32) ∈ rf_tb := rf_at 2332 (by decide +kernel) (by decide +kernel)
noncomputable def bq_partsOf_27 (x1 : Int32) (ρ : rf_S) : Option (Int32 × rf_S) := ix x1 112000 (ix (ρ.1 2 x1.toNatClampNeg) 112000 (some ((ρ.1 7 (ρ.1 2 x1.toNatClampNeg).toNatClampNeg), ρ)))
set_option maxHeartbeats 4000000 in
theorem wq_partsOf_27 (C : rf_C D p s m args meth c cX12_partsOf 4 (some .int)) {r : Int32} {x1 : Int32} {ρ ρ' : rf_S} {H : Heap} {locs : List Loc} {ls : Array Slot} (h : bq_partsOf_27 x1 ρ = some (r, ρ')) (G : rf_G D h0 s ρ H locs) (hl : lv_has ls 4 [(0, .ref h0), (1, .int x1)]) : W p l e ({ frames := 1, cells := 0, slots := 0, locals := 24 }) s m args below meth c H locs 0 0 (MQ below (rf_Q D h0 (some (.int r)) ρ') args s 0 0 (rf_A h0)) (F0 m 27 ls []) := by
  unfold bq_partsOf_27 at h
  refine lv_aload_n C.1 C.2.1 dX12_partsOf_27 rfl (lv_at hl 0 rfl) ?_
  refine gf_6 C G dX12_partsOf_28 ?_
  refine lv_aload_n C.1 C.2.1 dX12_partsOf_31 rfl (lv_at hl 0 rfl) ?_
  refine gf_1 C G dX12_partsOf_32 ?_
  refine lv_iload_n C.1 C.2.1 dX12_partsOf_35 rfl (lv_at hl 1 rfl) ?_
  obtain ⟨hi, h⟩ := ix_some h
  refine rf_iald C G 2 rfl (by decide) rfl rfl hi dX12_partsOf_36 ?_
  obtain ⟨hi, h⟩ := ix_some h
  refine rf_iald C G 7 rfl (by decide) rfl rfl hi dX12_partsOf_37 ?_
  exact rf_iret C G h dX12_partsOf_38
noncomputable def bq_partsOf_0 (x1 : Int32) (ρ : rf_S) : Option (Int32 × rf_S) := ix x1 112000 (vl (ρ.1 1 x1.toNatClampNeg) (fun x2_1 => (if (3:Int32) ≤ x2_1 then (if x2_1 = (4:Int32) then bq_partsOf_27 x1 ρ else (if x2_1 = (6:Int32) then bq_partsOf_27 x1 ρ else ix x1 112000 (ix x1 112000 (bd2 (fq_later (ρ.1 2 x1.toNatClampNeg) (ρ.1 3 x1.toNatClampNeg) ρ) (fun r_3 ρ_2 => (if x2_1 = (8:Int32) then ix x1 112000 (ix (ρ_2.1 4 x1.toNatClampNeg) 112000 ((if (ρ_2.1 7 (ρ_2.1 4 x1.toNatClampNeg).toNatClampNeg) ≤ r_3 then some (r_3, ρ_2) else ix x1 112000 (ix (ρ_2.1 4 x1.toNatClampNeg) 112000 (some ((ρ_2.1 7 (ρ_2.1 4 x1.toNatClampNeg).toNatClampNeg), ρ_2)))))) else some (r_3, ρ_2))))))) else some ((1000000000:Int32), ρ))))
set_option maxHeartbeats 4000000 in
theorem wq_partsOf_0 (C : rf_C D p s m args meth c cX12_partsOf 4 (some .int)) {r : Int32} {x1 : Int32} {ρ ρ' : rf_S} {H : Heap} {locs : List Loc} {ls : Array Slot} (h : bq_partsOf_0 x1 ρ = some (r, ρ')) (G : rf_G D h0 s ρ H locs) (hl : lv_has ls 4 [(0, .ref h0), (1, .int x1)]) : W p l e ({ frames := 1, cells := 0, slots := 0, locals := 24 }) s m args below meth c H locs 0 0 (MQ below (rf_Q D h0 (some (.int r)) ρ') args s 0 0 (rf_A h0)) (F0 m 0 ls []) := by
  unfold bq_partsOf_0 at h
  refine lv_aload_n C.1 C.2.1 dX12_partsOf_0 rfl (lv_at hl 0 rfl) ?_
  refine gf_0 C G dX12_partsOf_1 ?_
  refine lv_iload_n C.1 C.2.1 dX12_partsOf_4 rfl (lv_at hl 1 rfl) ?_
  obtain ⟨hi, h⟩ := ix_some h
  refine rf_bald C G 1 rfl (by decide) rfl rfl hi dX12_partsOf_5 ?_
  refine vt_i h (fun x2_1 h => ?_)
  refine lv_istore_n (lv' := [(2, .int x2_1), (0, .ref h0), (1, .int x1)]) C.1 C.2.1 dX12_partsOf_6 rfl hl (by decide) rfl (fun ls hl => ?_)
  refine lv_iload_n C.1 C.2.1 dX12_partsOf_7 rfl (lv_at hl 0 rfl) ?_
  refine lv_iconst (v := (3:Int32)) C.1 C.2.1 dX12_partsOf_8 (by decide) ?_
  refine lv_icmp_ge (tgt := 16) C.1 C.2.1 dX12_partsOf_9 (by decide) (fun hc => ?_) (fun hc => ?_)
  · rw [if_pos hc] at h
    refine lv_iload_n C.1 C.2.1 dX12_partsOf_16 rfl (lv_at hl 0 rfl) ?_
    refine lv_iconst (v := (4:Int32)) C.1 C.2.1 dX12_partsOf_17 (by decide) ?_
    refine lv_icmp_eq (tgt := 27) C.1 C.2.1 dX12_partsOf_18 (by decide) (fun hc => ?_) (fun hc => ?_)
    · rw [if_pos hc] at h
      exact wq_partsOf_27 C h G (lv_sub hl [1, 2] rfl)
    · rw [if_neg hc] at h
      refine lv_iload_n C.1 C.2.1 dX12_partsOf_21 rfl (lv_at hl 0 rfl) ?_
      refine lv_bipush (v := (6:Int32)) C.1 C.2.1 dX12_partsOf_22 (by decide) ?_
      refine lv_icmp_ne (tgt := 39) C.1 C.2.1 dX12_partsOf_24 (by decide) (fun hc => ?_) (fun hc => ?_)
      · rw [if_neg hc] at h
        refine lv_aload_n C.1 C.2.1 dX12_partsOf_39 rfl (lv_at hl 1 rfl) ?_
        refine lv_aload_n C.1 C.2.1 dX12_partsOf_40 rfl (lv_at hl 1 rfl) ?_
        refine gf_1 C G dX12_partsOf_41 ?_
        refine lv_iload_n C.1 C.2.1 dX12_partsOf_44 rfl (lv_at hl 2 rfl) ?_
        obtain ⟨hi, h⟩ := ix_some h
        refine rf_iald C G 2 rfl (by decide) rfl rfl hi dX12_partsOf_45 ?_
        refine lv_aload_n C.1 C.2.1 dX12_partsOf_46 rfl (lv_at hl 1 rfl) ?_
        refine gf_2 C G dX12_partsOf_47 ?_
        refine lv_iload_n C.1 C.2.1 dX12_partsOf_50 rfl (lv_at hl 2 rfl) ?_
        obtain ⟨hi, h⟩ := ix_some h
        refine rf_iald C G 3 rfl (by decide) rfl rfl hi dX12_partsOf_51 ?_
        obtain ⟨r_3, ρ_2, hq, h⟩ := bd2_some h
        refine rf_callV (rest := []) C G cw_later [.int (ρ.1 2 x1.toNatClampNeg), .int (ρ.1 3 x1.toNatClampNeg)] _ (kq_later l D h0 hq) (Nat.le_of_ble_eq_true rfl) (Nat.le_of_ble_eq_true rfl) rfl rfl hl.1 (Nat.le_of_ble_eq_true rfl) (Nat.zero_le _) (Nat.zero_le _) dX12_partsOf_52 (fun H locs G => ?_)
        refine W.eq (g2 := F0 m 55 ls [.int r_3]) rfl ?_
        refine lv_istore_n (lv' := [(3, .int r_3), (2, .int x2_1), (0, .ref h0), (1, .int x1)]) C.1 C.2.1 dX12_partsOf_55 rfl hl (by decide) rfl (fun ls hl => ?_)
        refine lv_iload_n C.1 C.2.1 dX12_partsOf_56 rfl (lv_at hl 1 rfl) ?_
        refine lv_bipush (v := (8:Int32)) C.1 C.2.1 dX12_partsOf_57 (by decide) ?_
        refine lv_icmp_ne (tgt := 91) C.1 C.2.1 dX12_partsOf_59 (by decide) (fun hc => ?_) (fun hc => ?_)
        · rw [if_neg hc] at h
          refine lv_iload_n C.1 C.2.1 dX12_partsOf_91 rfl (lv_at hl 0 rfl) ?_
          exact rf_iret C G h dX12_partsOf_92
        · rw [if_pos hc] at h
          refine lv_aload_n C.1 C.2.1 dX12_partsOf_62 rfl (lv_at hl 2 rfl) ?_
          refine gf_6 C G dX12_partsOf_63 ?_
          refine lv_aload_n C.1 C.2.1 dX12_partsOf_66 rfl (lv_at hl 2 rfl) ?_
          refine gf_3 C G dX12_partsOf_67 ?_
          refine lv_iload_n C.1 C.2.1 dX12_partsOf_70 rfl (lv_at hl 3 rfl) ?_
          obtain ⟨hi, h⟩ := ix_some h
          refine rf_iald C G 4 rfl (by decide) rfl rfl hi dX12_partsOf_71 ?_
          obtain ⟨hi, h⟩ := ix_some h
          refine rf_iald C G 7 rfl (by decide) rfl rfl hi dX12_partsOf_72 ?_
          refine lv_iload_n C.1 C.2.1 dX12_partsOf_73 rfl (lv_at hl 0 rfl) ?_
          refine lv_icmp_le (tgt := 91) C.1 C.2.1 dX12_partsOf_74 (by decide) (fun hc => ?_) (fun hc => ?_)
          · rw [if_pos hc] at h
            refine lv_iload_n C.1 C.2.1 dX12_partsOf_91 rfl (lv_at hl 0 rfl) ?_
            exact rf_iret C G h dX12_partsOf_92
          · rw [if_neg hc] at h
            refine lv_aload_n C.1 C.2.1 dX12_partsOf_77 rfl (lv_at hl 2 rfl) ?_
            refine gf_6 C G dX12_partsOf_78 ?_
            refine lv_aload_n C.1 C.2.1 dX12_partsOf_81 rfl (lv_at hl 2 rfl) ?_
            refine gf_3 C G dX12_partsOf_82 ?_
            refine lv_iload_n C.1 C.2.1 dX12_partsOf_85 rfl (lv_at hl 3 rfl) ?_
            obtain ⟨hi, h⟩ := ix_some h
            refine rf_iald C G 4 rfl (by decide) rfl rfl hi dX12_partsOf_86 ?_
            obtain ⟨hi, h⟩ := ix_some h
            refine rf_iald C G 7 rfl (by decide) rfl rfl hi dX12_partsOf_87 ?_
            refine lv_goto (tgt := 92) C.1 C.2.1 dX12_partsOf_88 (by decide) ?_
            exact rf_iret C G h dX12_partsOf_92
      · rw [if_pos hc] at h
        exact wq_partsOf_27 C h G (lv_sub hl [1, 2] rfl)
  · rw [if_neg hc] at h
    refine lv_ldcw (v := (1000000000:Int32)) C.1 C.2.1 C.2.2.2.1 (C.2.2.2.2.1 _ kc_309) dX12_partsOf_12 ?_
    exact rf_iret C G h dX12_partsOf_15
noncomputable def fq_partsOf (x1 : Int32) (ρ : rf_S) : Option (Int32 × rf_S) := bq_partsOf_0 x1 ρ
theorem kq_partsOf (l : Launch) (D : rf_D) (h0 : Nat) {r : Int32} {x1 : Int32} {ρ ρ' : rf_S} (h : fq_partsOf x1 ρ = some (r, ρ')) : rf_Met l D h0 yX12_partsOf cX12_partsOf 4 (some .int) 1 24 [.ref h0, .int x1] ρ (some (.int r)) ρ' :=
  rf_of rfl cc_partsOf (Nat.le_of_ble_eq_true rfl) (fun p e s m args below meth c ls C G hl => wq_partsOf_0 C h G hl)
abbrev cX12_hadBy : ByteArray := prog_14_method_12_code
def yX12_hadBy : MethodName := ⟨RX12, "hadBy", "(II)V"⟩
theorem dX12_hadBy_0 : decode cX12_hadBy 0 = .ok (.aload_n 0, 1) := by decide +kernel
theorem dX12_hadBy_1 : decode cX12_hadBy 1 = .ok (.iload_n 1, 1) := by decide +kernel
theorem dX12_hadBy_2 : decode cX12_hadBy 2 = .ok (.iload_n 2, 1) := by decide +kernel
theorem dX12_hadBy_3 : decode cX12_hadBy 3 = .ok (.invokevirtual 314, 3) := by decide +kernel
theorem dX12_hadBy_6 : decode cX12_hadBy 6 = .ok (.ifCond .eq 23, 3) := by decide +kernel
theorem dX12_hadBy_9 : decode cX12_hadBy 9 = .ok (.aload_n 0, 1) := by decide +kernel
theorem dX12_hadBy_10 : decode cX12_hadBy 10 = .ok (.getfield 41, 3) := by decide +kernel
theorem dX12_hadBy_13 : decode cX12_hadBy 13 = .ok (.aload_n 0, 1) := by decide +kernel
theorem dX12_hadBy_14 : decode cX12_hadBy 14 = .ok (.getfield 318, 3) := by decide +kernel
theorem dX12_hadBy_17 : decode cX12_hadBy 17 = .ok (.iload_n 1, 1) := by decide +kernel
theorem dX12_hadBy_18 : decode cX12_hadBy 18 = .ok (.iastore, 1) := by decide +kernel
theorem dX12_hadBy_19 : decode cX12_hadBy 19 = .ok (.aload_n 0, 1) := by decide +kernel
theorem dX12_hadBy_20 : decode cX12_hadBy 20 = .ok (.dup, 1) := by decide +kernel
theorem dX12_hadBy_21 : decode cX12_hadBy 21 = .ok (.getfield 318, 3) := by decide +kernel
theorem dX12_hadBy_24 : decode cX12_hadBy 24 = .ok (.iconst 1, 1) := by decide +kernel
theorem dX12_hadBy_25 : decode cX12_hadBy 25 = .ok (.iadd, 1) := by decide +kernel
theorem dX12_hadBy_26 : decode cX12_hadBy 26 = .ok (.putfield 318, 3) := by decide +kernel
theorem dX12_hadBy_29 : decode cX12_hadBy 29 = .ok (.return_, 1) := by decide +kernel
theorem cc_hadBy : Cond.code yX12_hadBy cX12_hadBy 3 none ∈ rf_tb := rf_at 2336 (by decide +kernel) (by decide +kernel)
theorem cw_hadBy : rf_wV yX12_hadBy cX12_hadBy 3 none 325 2 := ⟨⟨rf_at 2333 (by decide +kernel) (by decide +kernel), rf_at 2335 (by decide +kernel) (by decide +kernel), rf_sel (q := (yX12_hadBy, 122)) 147 (by decide +kernel) (by decide +kernel), cc_hadBy⟩, rfl, by decide +kernel⟩
noncomputable def bq_hadBy_0 (x1 : Int32) (x2 : Int32) (ρ : rf_S) : Option (rf_S) := bd2 (fq_nearer x1 x2 ρ) (fun r_2 ρ_1 => (if r_2 = 0 then some ρ_1 else ix (ρ_1.1 0 10) 112000 (vl (rf_w ρ_1 10 (ρ_1.1 0 10).toNatClampNeg x1) (fun ρ_3 => vl (rf_w ρ_3 0 10 ((ρ_3.1 0 10) + (1:Int32))) (fun ρ_4 => some ρ_4)))))
set_option maxHeartbeats 4000000 in
theorem wq_hadBy_0 (C : rf_C D p s m args meth c cX12_hadBy 3 none) {x1 : Int32} {x2 : Int32} {ρ ρ' : rf_S} {H : Heap} {locs : List Loc} {ls : Array Slot} (h : bq_hadBy_0 x1 x2 ρ = some ρ') (G : rf_G D h0 s ρ H locs) (hl : lv_has ls 3 [(0, .ref h0), (1, .int x1), (2, .int x2)]) : W p l e ({ frames := 1, cells := 0, slots := 0, locals := 22 }) s m args below meth c H locs 0 0 (MQ below (rf_Q D h0 none ρ') args s 0 0 (rf_A h0)) (F0 m 0 ls []) := by
  unfold bq_hadBy_0 at h
  refine lv_aload_n C.1 C.2.1 dX12_hadBy_0 rfl (lv_at hl 0 rfl) ?_
  refine lv_iload_n C.1 C.2.1 dX12_hadBy_1 rfl (lv_at hl 1 rfl) ?_
  refine lv_iload_n C.1 C.2.1 dX12_hadBy_2 rfl (lv_at hl 2 rfl) ?_
  obtain ⟨r_2, ρ_1, hq, h⟩ := bd2_some h
  refine rf_callV (rest := []) C G cw_nearer [.int x1, .int x2] _ (kq_nearer l D h0 hq) (Nat.le_of_ble_eq_true rfl) (Nat.le_of_ble_eq_true rfl) rfl rfl hl.1 (Nat.le_of_ble_eq_true rfl) (Nat.zero_le _) (Nat.zero_le _) dX12_hadBy_3 (fun H locs G => ?_)
  refine W.eq (g2 := F0 m 6 ls [.int r_2]) rfl ?_
  refine lv_if_eq (tgt := 29) C.1 C.2.1 dX12_hadBy_6 (by decide) (fun hc => ?_) (fun hc => ?_)
  · rw [if_pos hc] at h
    exact rf_vret C G h dX12_hadBy_29
  · rw [if_neg hc] at h
    refine lv_aload_n C.1 C.2.1 dX12_hadBy_9 rfl (lv_at hl 0 rfl) ?_
    refine gf_9 C G dX12_hadBy_10 ?_
    refine lv_aload_n C.1 C.2.1 dX12_hadBy_13 rfl (lv_at hl 0 rfl) ?_
    refine gf_10 C G dX12_hadBy_14 ?_
    refine lv_iload_n C.1 C.2.1 dX12_hadBy_17 rfl (lv_at hl 1 rfl) ?_
    obtain ⟨hi, h⟩ := ix_some h
    refine rf_iast C G 10 rfl (by decide) rfl rfl hi dX12_hadBy_18 (fun H locs G => ?_)
    refine rf_nm G h (fun ρ_3 G h => ?_)
    refine lv_aload_n C.1 C.2.1 dX12_hadBy_19 rfl (lv_at hl 0 rfl) ?_
    refine lv_dup C.1 C.2.1 dX12_hadBy_20 rfl ?_
    refine gf_10 C G dX12_hadBy_21 ?_
    refine lv_iconst (v := (1:Int32)) C.1 C.2.1 dX12_hadBy_24 (by decide) ?_
    refine lv_iadd C.1 C.2.1 dX12_hadBy_25 ?_
    refine pf_10 C G dX12_hadBy_26 (fun H locs G => ?_)
    refine rf_nm G h (fun ρ_4 G h => ?_)
    exact rf_vret C G h dX12_hadBy_29
noncomputable def fq_hadBy (x1 : Int32) (x2 : Int32) (ρ : rf_S) : Option (rf_S) := bq_hadBy_0 x1 x2 ρ
theorem kq_hadBy (l : Launch) (D : rf_D) (h0 : Nat) {x1 : Int32} {x2 : Int32} {ρ ρ' : rf_S} (h : fq_hadBy x1 x2 ρ = some ρ') : rf_Met l D h0 yX12_hadBy cX12_hadBy 3 none 1 22 [.ref h0, .int x1, .int x2] ρ none ρ' :=
  rf_of rfl cc_hadBy (Nat.le_of_ble_eq_true rfl) (fun p e s m args below meth c ls C G hl => wq_hadBy_0 C h G hl)
end RQ0
