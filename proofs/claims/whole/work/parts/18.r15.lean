section RQ14
variable {p : Program} {l : Launch} {e : Env} {s : State} {m : MethodId} {args : Array Value} {below : List Frame} {meth : Method} {c : Code} {D : rf_D} {h0 : Nat}
abbrev cX12_note : ByteArray := prog_14_method_98_code
def yX12_note : MethodName := ⟨RX12, "note", "(IIZ)V"⟩
theorem dX12_note_0 : decode cX12_note 0 = .ok (.aload_n 0, 1) := by decide +kernel
theorem dX12_note_1 : decode cX12_note 1 = .ok (.getfield 547, 3) := by decide +kernel
theorem dX12_note_4 : decode cX12_note 4 = .ok (.sipush 500, 3) := by decide +kernel
theorem dX12_note_7 : decode cX12_note 7 = .ok (.if_icmp .ge 48, 3) := by decide +kernel
theorem dX12_note_10 : decode cX12_note 10 = .ok (.aload_n 0, 1) := by decide +kernel
theorem dX12_note_11 : decode cX12_note 11 = .ok (.getfield 155, 3) := by decide +kernel
theorem dX12_note_14 : decode cX12_note 14 = .ok (.aload_n 0, 1) := by decide +kernel
theorem dX12_note_15 : decode cX12_note 15 = .ok (.getfield 547, 3) := by decide +kernel
theorem dX12_note_18 : decode cX12_note 18 = .ok (.aload_n 0, 1) := by decide +kernel
theorem dX12_note_19 : decode cX12_note 19 = .ok (.getfield 167, 3) := by decide +kernel
theorem dX12_note_22 : decode cX12_note 22 = .ok (.iconst 0, 1) := by decide +kernel
theorem dX12_note_23 : decode cX12_note 23 = .ok (.iaload, 1) := by decide +kernel
theorem dX12_note_24 : decode cX12_note 24 = .ok (.iastore, 1) := by decide +kernel
theorem dX12_note_25 : decode cX12_note 25 = .ok (.aload_n 0, 1) := by decide +kernel
theorem dX12_note_26 : decode cX12_note 26 = .ok (.getfield 158, 3) := by decide +kernel
theorem dX12_note_29 : decode cX12_note 29 = .ok (.aload_n 0, 1) := by decide +kernel
theorem dX12_note_30 : decode cX12_note 30 = .ok (.getfield 547, 3) := by decide +kernel
theorem dX12_note_33 : decode cX12_note 33 = .ok (.iload_n 1, 1) := by decide +kernel
theorem dX12_note_34 : decode cX12_note 34 = .ok (.iastore, 1) := by decide +kernel
theorem dX12_note_35 : decode cX12_note 35 = .ok (.aload_n 0, 1) := by decide +kernel
theorem dX12_note_36 : decode cX12_note 36 = .ok (.getfield 161, 3) := by decide +kernel
theorem dX12_note_39 : decode cX12_note 39 = .ok (.aload_n 0, 1) := by decide +kernel
theorem dX12_note_40 : decode cX12_note 40 = .ok (.getfield 547, 3) := by decide +kernel
theorem dX12_note_43 : decode cX12_note 43 = .ok (.iload_n 3, 1) := by decide +kernel
theorem dX12_note_44 : decode cX12_note 44 = .ok (.bastore, 1) := by decide +kernel
theorem dX12_note_45 : decode cX12_note 45 = .ok (.aload_n 0, 1) := by decide +kernel
theorem dX12_note_46 : decode cX12_note 46 = .ok (.getfield 164, 3) := by decide +kernel
theorem dX12_note_49 : decode cX12_note 49 = .ok (.aload_n 0, 1) := by decide +kernel
theorem dX12_note_50 : decode cX12_note 50 = .ok (.getfield 547, 3) := by decide +kernel
theorem dX12_note_53 : decode cX12_note 53 = .ok (.iload_n 2, 1) := by decide +kernel
theorem dX12_note_54 : decode cX12_note 54 = .ok (.iastore, 1) := by decide +kernel
theorem dX12_note_55 : decode cX12_note 55 = .ok (.aload_n 0, 1) := by decide +kernel
theorem dX12_note_56 : decode cX12_note 56 = .ok (.dup, 1) := by decide +kernel
theorem dX12_note_57 : decode cX12_note 57 = .ok (.getfield 547, 3) := by decide +kernel
theorem dX12_note_60 : decode cX12_note 60 = .ok (.iconst 1, 1) := by decide +kernel
theorem dX12_note_61 : decode cX12_note 61 = .ok (.iadd, 1) := by decide +kernel
theorem dX12_note_62 : decode cX12_note 62 = .ok (.putfield 547, 3) := by decide +kernel
theorem dX12_note_65 : decode cX12_note 65 = .ok (.return_, 1) := by decide +kernel
theorem cc_note : Cond.code yX12_note cX12_note 4 none ∈ rf_tb := rf_at 2243 (by decide +kernel) (by decide +kernel)
theorem cw_note : rf_wV yX12_note cX12_note 4 none 677 3 := ⟨⟨rf_at 2240 (by decide +kernel) (by decide +kernel), rf_at 2242 (by decide +kernel) (by decide +kernel), rf_sel (q := (yX12_note, 122)) 138 (by decide +kernel) (by decide +kernel), cc_note⟩, rfl, by decide +kernel⟩
noncomputable def bq_note_55  (ρ : rf_S) : Option (rf_S) := vl (rf_w ρ 0 78 ((ρ.1 0 78) + (1:Int32))) (fun ρ_1 => some ρ_1)
set_option maxHeartbeats 4000000 in
theorem wq_note_55 (C : rf_C D p s m args meth c cX12_note 4 none) {ρ ρ' : rf_S} {H : Heap} {locs : List Loc} {ls : Array Slot} (h : bq_note_55 ρ = some ρ') (G : rf_G D h0 s ρ H locs) (hl : lv_has ls 4 [(0, .ref h0)]) : W p l e ({ frames := 0, cells := 0, slots := 0, locals := 0 }) s m args below meth c H locs 0 0 (MQ below (rf_Q D h0 none ρ') args s 0 0 (rf_A h0)) (F0 m 55 ls []) := by
  unfold bq_note_55 at h
  refine lv_aload_n C.1 C.2.1 dX12_note_55 rfl (lv_at hl 0 rfl) ?_
  refine lv_dup C.1 C.2.1 dX12_note_56 rfl ?_
  refine gf_78 C G dX12_note_57 ?_
  refine lv_iconst (v := (1:Int32)) C.1 C.2.1 dX12_note_60 (by decide) ?_
  refine lv_iadd C.1 C.2.1 dX12_note_61 ?_
  refine pf_78 C G dX12_note_62 (fun H locs G => ?_)
  refine rf_nm G h (fun ρ_1 G h => ?_)
  exact rf_vret C G h dX12_note_65
noncomputable def bq_note_0 (x1 : Int32) (x2 : Int32) (x3 : Int32) (ρ : rf_S) : Option (rf_S) := (if (500:Int32) ≤ (ρ.1 0 78) then bq_note_55 ρ else ix (0:Int32) 2 (ix (ρ.1 0 78) 500 (vl (rf_w ρ 44 (ρ.1 0 78).toNatClampNeg (ρ.1 48 (0:Int32).toNatClampNeg)) (fun ρ_2 => ix (ρ_2.1 0 78) 500 (vl (rf_w ρ_2 45 (ρ_2.1 0 78).toNatClampNeg x1) (fun ρ_3 => ix (ρ_3.1 0 78) 500 (vl (rf_w ρ_3 46 (ρ_3.1 0 78).toNatClampNeg (vp_nar .boolean x3)) (fun ρ_4 => ix (ρ_4.1 0 78) 500 (vl (rf_w ρ_4 47 (ρ_4.1 0 78).toNatClampNeg x2) (fun ρ_5 => bq_note_55 ρ_5))))))))))
set_option maxHeartbeats 4000000 in
theorem wq_note_0 (C : rf_C D p s m args meth c cX12_note 4 none) {x1 : Int32} {x2 : Int32} {x3 : Int32} {ρ ρ' : rf_S} {H : Heap} {locs : List Loc} {ls : Array Slot} (h : bq_note_0 x1 x2 x3 ρ = some ρ') (G : rf_G D h0 s ρ H locs) (hl : lv_has ls 4 [(0, .ref h0), (1, .int x1), (2, .int x2), (3, .int x3)]) : W p l e ({ frames := 0, cells := 0, slots := 0, locals := 0 }) s m args below meth c H locs 0 0 (MQ below (rf_Q D h0 none ρ') args s 0 0 (rf_A h0)) (F0 m 0 ls []) := by
  unfold bq_note_0 at h
  refine lv_aload_n C.1 C.2.1 dX12_note_0 rfl (lv_at hl 0 rfl) ?_
  refine gf_78 C G dX12_note_1 ?_
  refine lv_sipush (v := (500:Int32)) C.1 C.2.1 dX12_note_4 (by decide) ?_
  refine lv_icmp_ge (tgt := 55) C.1 C.2.1 dX12_note_7 (by decide) (fun hc => ?_) (fun hc => ?_)
  · rw [if_pos hc] at h
    exact wq_note_55 C h G (lv_sub hl [0] rfl)
  · rw [if_neg hc] at h
    refine lv_aload_n C.1 C.2.1 dX12_note_10 rfl (lv_at hl 0 rfl) ?_
    refine gf_74 C G dX12_note_11 ?_
    refine lv_aload_n C.1 C.2.1 dX12_note_14 rfl (lv_at hl 0 rfl) ?_
    refine gf_78 C G dX12_note_15 ?_
    refine lv_aload_n C.1 C.2.1 dX12_note_18 rfl (lv_at hl 0 rfl) ?_
    refine gf_80 C G dX12_note_19 ?_
    refine lv_iconst (v := (0:Int32)) C.1 C.2.1 dX12_note_22 (by decide) ?_
    obtain ⟨hi, h⟩ := ix_some h
    refine rf_iald C G 48 rfl (by decide) rfl rfl hi dX12_note_23 ?_
    obtain ⟨hi, h⟩ := ix_some h
    refine rf_iast C G 44 rfl (by decide) rfl rfl hi dX12_note_24 (fun H locs G => ?_)
    refine rf_nm G h (fun ρ_2 G h => ?_)
    refine lv_aload_n C.1 C.2.1 dX12_note_25 rfl (lv_at hl 0 rfl) ?_
    refine gf_75 C G dX12_note_26 ?_
    refine lv_aload_n C.1 C.2.1 dX12_note_29 rfl (lv_at hl 0 rfl) ?_
    refine gf_78 C G dX12_note_30 ?_
    refine lv_iload_n C.1 C.2.1 dX12_note_33 rfl (lv_at hl 1 rfl) ?_
    obtain ⟨hi, h⟩ := ix_some h
    refine rf_iast C G 45 rfl (by decide) rfl rfl hi dX12_note_34 (fun H locs G => ?_)
    refine rf_nm G h (fun ρ_3 G h => ?_)
    refine lv_aload_n C.1 C.2.1 dX12_note_35 rfl (lv_at hl 0 rfl) ?_
    refine gf_76 C G dX12_note_36 ?_
    refine lv_aload_n C.1 C.2.1 dX12_note_39 rfl (lv_at hl 0 rfl) ?_
    refine gf_78 C G dX12_note_40 ?_
    refine lv_iload_n C.1 C.2.1 dX12_note_43 rfl (lv_at hl 3 rfl) ?_
    obtain ⟨hi, h⟩ := ix_some h
    refine rf_zast C G 46 rfl (by decide) rfl rfl hi dX12_note_44 (fun H locs G => ?_)
    refine rf_nm G h (fun ρ_4 G h => ?_)
    refine lv_aload_n C.1 C.2.1 dX12_note_45 rfl (lv_at hl 0 rfl) ?_
    refine gf_77 C G dX12_note_46 ?_
    refine lv_aload_n C.1 C.2.1 dX12_note_49 rfl (lv_at hl 0 rfl) ?_
    refine gf_78 C G dX12_note_50 ?_
    refine lv_iload_n C.1 C.2.1 dX12_note_53 rfl (lv_at hl 2 rfl) ?_
    obtain ⟨hi, h⟩ := ix_some h
    refine rf_iast C G 47 rfl (by decide) rfl rfl hi dX12_note_54 (fun H locs G => ?_)
    refine rf_nm G h (fun ρ_5 G h => ?_)
    exact wq_note_55 C h G (lv_sub hl [0] rfl)
noncomputable def fq_note (x1 : Int32) (x2 : Int32) (x3 : Int32) (ρ : rf_S) : Option (rf_S) := bq_note_0 x1 x2 x3 ρ
theorem kq_note (l : Launch) (D : rf_D) (h0 : Nat) {x1 : Int32} {x2 : Int32} {x3 : Int32} {ρ ρ' : rf_S} (h : fq_note x1 x2 x3 ρ = some ρ') : rf_Met l D h0 yX12_note cX12_note 4 none 0 0 [.ref h0, .int x1, .int x2, .int x3] ρ none ρ' :=
  rf_of rfl cc_note (Nat.le_of_ble_eq_true rfl) (fun p e s m args below meth c ls C G hl => wq_note_0 C h G hl)
abbrev cX12_input : ByteArray := prog_14_method_97_code
def yX12_input : MethodName := ⟨RX12, "input", "(II)I"⟩
theorem dX12_input_0 : decode cX12_input 0 = .ok (.iload_n 1, 1) := by decide +kernel
theorem dX12_input_1 : decode cX12_input 1 = .ok (.ifCond .lt 11, 3) := by decide +kernel
theorem dX12_input_4 : decode cX12_input 4 = .ok (.iload_n 1, 1) := by decide +kernel
theorem dX12_input_5 : decode cX12_input 5 = .ok (.aload_n 0, 1) := by decide +kernel
theorem dX12_input_6 : decode cX12_input 6 = .ok (.getfield 513, 3) := by decide +kernel
theorem dX12_input_9 : decode cX12_input 9 = .ok (.if_icmp .lt 5, 3) := by decide +kernel
theorem dX12_input_12 : decode cX12_input 12 = .ok (.iconst (-1), 1) := by decide +kernel
theorem dX12_input_13 : decode cX12_input 13 = .ok (.ireturn, 1) := by decide +kernel
theorem dX12_input_14 : decode cX12_input 14 = .ok (.aload_n 0, 1) := by decide +kernel
theorem dX12_input_15 : decode cX12_input 15 = .ok (.getfield 528, 3) := by decide +kernel
theorem dX12_input_18 : decode cX12_input 18 = .ok (.ifCond .ne 6, 3) := by decide +kernel
theorem dX12_input_21 : decode cX12_input 21 = .ok (.bipush (-3), 2) := by decide +kernel
theorem dX12_input_23 : decode cX12_input 23 = .ok (.ireturn, 1) := by decide +kernel
theorem dX12_input_24 : decode cX12_input 24 = .ok (.aload_n 0, 1) := by decide +kernel
theorem dX12_input_25 : decode cX12_input 25 = .ok (.getfield 221, 3) := by decide +kernel
theorem dX12_input_28 : decode cX12_input 28 = .ok (.iload_n 1, 1) := by decide +kernel
theorem dX12_input_29 : decode cX12_input 29 = .ok (.iaload, 1) := by decide +kernel
theorem dX12_input_30 : decode cX12_input 30 = .ok (.bipush 64, 2) := by decide +kernel
theorem dX12_input_32 : decode cX12_input 32 = .ok (.if_icmp .ne 6, 3) := by decide +kernel
theorem dX12_input_35 : decode cX12_input 35 = .ok (.bipush (-4), 2) := by decide +kernel
theorem dX12_input_37 : decode cX12_input 37 = .ok (.ireturn, 1) := by decide +kernel
theorem dX12_input_38 : decode cX12_input 38 = .ok (.aload_n 0, 1) := by decide +kernel
theorem dX12_input_39 : decode cX12_input 39 = .ok (.getfield 218, 3) := by decide +kernel
theorem dX12_input_42 : decode cX12_input 42 = .ok (.bipush 64, 2) := by decide +kernel
theorem dX12_input_44 : decode cX12_input 44 = .ok (.iload_n 1, 1) := by decide +kernel
theorem dX12_input_45 : decode cX12_input 45 = .ok (.imul, 1) := by decide +kernel
theorem dX12_input_46 : decode cX12_input 46 = .ok (.aload_n 0, 1) := by decide +kernel
theorem dX12_input_47 : decode cX12_input 47 = .ok (.getfield 221, 3) := by decide +kernel
theorem dX12_input_50 : decode cX12_input 50 = .ok (.iload_n 1, 1) := by decide +kernel
theorem dX12_input_51 : decode cX12_input 51 = .ok (.iaload, 1) := by decide +kernel
theorem dX12_input_52 : decode cX12_input 52 = .ok (.iadd, 1) := by decide +kernel
theorem dX12_input_53 : decode cX12_input 53 = .ok (.iload_n 2, 1) := by decide +kernel
theorem dX12_input_54 : decode cX12_input 54 = .ok (.iastore, 1) := by decide +kernel
theorem dX12_input_55 : decode cX12_input 55 = .ok (.aload_n 0, 1) := by decide +kernel
theorem dX12_input_56 : decode cX12_input 56 = .ok (.getfield 221, 3) := by decide +kernel
theorem dX12_input_59 : decode cX12_input 59 = .ok (.iload_n 1, 1) := by decide +kernel
theorem dX12_input_60 : decode cX12_input 60 = .ok (.dup2, 1) := by decide +kernel
theorem dX12_input_61 : decode cX12_input 61 = .ok (.iaload, 1) := by decide +kernel
theorem dX12_input_62 : decode cX12_input 62 = .ok (.iconst 1, 1) := by decide +kernel
theorem dX12_input_63 : decode cX12_input 63 = .ok (.iadd, 1) := by decide +kernel
theorem dX12_input_64 : decode cX12_input 64 = .ok (.iastore, 1) := by decide +kernel
theorem dX12_input_65 : decode cX12_input 65 = .ok (.aload_n 0, 1) := by decide +kernel
theorem dX12_input_66 : decode cX12_input 66 = .ok (.iload_n 1, 1) := by decide +kernel
theorem dX12_input_67 : decode cX12_input 67 = .ok (.iload_n 2, 1) := by decide +kernel
theorem dX12_input_68 : decode cX12_input 68 = .ok (.iconst 0, 1) := by decide +kernel
theorem dX12_input_69 : decode cX12_input 69 = .ok (.invokevirtual 677, 3) := by decide +kernel
theorem dX12_input_72 : decode cX12_input 72 = .ok (.aload_n 0, 1) := by decide +kernel
theorem dX12_input_73 : decode cX12_input 73 = .ok (.getfield 221, 3) := by decide +kernel
theorem dX12_input_76 : decode cX12_input 76 = .ok (.iload_n 1, 1) := by decide +kernel
theorem dX12_input_77 : decode cX12_input 77 = .ok (.iaload, 1) := by decide +kernel
theorem dX12_input_78 : decode cX12_input 78 = .ok (.ireturn, 1) := by decide +kernel
theorem cc_input : Cond.code yX12_input cX12_input 3 (some .int) ∈ rf_tb := rf_at 2239 (by decide +kernel) (by decide +kernel)
noncomputable def bq_input_0 (x1 : Int32) (x2 : Int32) (ρ : rf_S) : Option (Int32 × rf_S) := (if x1 < 0 then some ((-1:Int32), ρ) else (if x1 < (ρ.1 0 55) then (if (ρ.1 0 51) = 0 then some ((-3:Int32), ρ) else ix x1 16 ((if (ρ.1 66 x1.toNatClampNeg) = (64:Int32) then some ((-4:Int32), ρ) else ix x1 16 (ix (((64:Int32) * x1) + (ρ.1 66 x1.toNatClampNeg)) 1024 (vl (rf_w ρ 65 (((64:Int32) * x1) + (ρ.1 66 x1.toNatClampNeg)).toNatClampNeg x2) (fun ρ_1 => ix x1 16 (ix x1 16 (vl (rf_w ρ_1 66 x1.toNatClampNeg ((ρ_1.1 66 x1.toNatClampNeg) + (1:Int32))) (fun ρ_2 => bd1 (fq_note x1 x2 (0:Int32) ρ_2) (fun ρ_3 => ix x1 16 (some ((ρ_3.1 66 x1.toNatClampNeg), ρ_3)))))))))))) else some ((-1:Int32), ρ)))
set_option maxHeartbeats 4000000 in
theorem wq_input_0 (C : rf_C D p s m args meth c cX12_input 3 (some .int)) {r : Int32} {x1 : Int32} {x2 : Int32} {ρ ρ' : rf_S} {H : Heap} {locs : List Loc} {ls : Array Slot} (h : bq_input_0 x1 x2 ρ = some (r, ρ')) (G : rf_G D h0 s ρ H locs) (hl : lv_has ls 3 [(0, .ref h0), (1, .int x1), (2, .int x2)]) : W p l e ({ frames := 1, cells := 0, slots := 0, locals := 23 }) s m args below meth c H locs 0 0 (MQ below (rf_Q D h0 (some (.int r)) ρ') args s 0 0 (rf_A h0)) (F0 m 0 ls []) := by
  unfold bq_input_0 at h
  refine lv_iload_n C.1 C.2.1 dX12_input_0 rfl (lv_at hl 1 rfl) ?_
  refine lv_if_lt (tgt := 12) C.1 C.2.1 dX12_input_1 (by decide) (fun hc => ?_) (fun hc => ?_)
  · rw [if_pos hc] at h
    refine lv_iconst (v := (-1:Int32)) C.1 C.2.1 dX12_input_12 (by decide) ?_
    exact rf_iret C G h dX12_input_13
  · rw [if_neg hc] at h
    refine lv_iload_n C.1 C.2.1 dX12_input_4 rfl (lv_at hl 1 rfl) ?_
    refine lv_aload_n C.1 C.2.1 dX12_input_5 rfl (lv_at hl 0 rfl) ?_
    refine gf_55 C G dX12_input_6 ?_
    refine lv_icmp_lt (tgt := 14) C.1 C.2.1 dX12_input_9 (by decide) (fun hc => ?_) (fun hc => ?_)
    · rw [if_pos hc] at h
      refine lv_aload_n C.1 C.2.1 dX12_input_14 rfl (lv_at hl 0 rfl) ?_
      refine gf_51 C G dX12_input_15 ?_
      refine lv_if_ne (tgt := 24) C.1 C.2.1 dX12_input_18 (by decide) (fun hc => ?_) (fun hc => ?_)
      · rw [if_neg hc] at h
        refine lv_aload_n C.1 C.2.1 dX12_input_24 rfl (lv_at hl 0 rfl) ?_
        refine gf_98 C G dX12_input_25 ?_
        refine lv_iload_n C.1 C.2.1 dX12_input_28 rfl (lv_at hl 1 rfl) ?_
        obtain ⟨hi, h⟩ := ix_some h
        refine rf_iald C G 66 rfl (by decide) rfl rfl hi dX12_input_29 ?_
        refine lv_bipush (v := (64:Int32)) C.1 C.2.1 dX12_input_30 (by decide) ?_
        refine lv_icmp_ne (tgt := 38) C.1 C.2.1 dX12_input_32 (by decide) (fun hc => ?_) (fun hc => ?_)
        · rw [if_neg hc] at h
          refine lv_aload_n C.1 C.2.1 dX12_input_38 rfl (lv_at hl 0 rfl) ?_
          refine gf_97 C G dX12_input_39 ?_
          refine lv_bipush (v := (64:Int32)) C.1 C.2.1 dX12_input_42 (by decide) ?_
          refine lv_iload_n C.1 C.2.1 dX12_input_44 rfl (lv_at hl 1 rfl) ?_
          refine lv_imul C.1 C.2.1 dX12_input_45 ?_
          refine lv_aload_n C.1 C.2.1 dX12_input_46 rfl (lv_at hl 0 rfl) ?_
          refine gf_98 C G dX12_input_47 ?_
          refine lv_iload_n C.1 C.2.1 dX12_input_50 rfl (lv_at hl 1 rfl) ?_
          obtain ⟨hi, h⟩ := ix_some h
          refine rf_iald C G 66 rfl (by decide) rfl rfl hi dX12_input_51 ?_
          refine lv_iadd C.1 C.2.1 dX12_input_52 ?_
          refine lv_iload_n C.1 C.2.1 dX12_input_53 rfl (lv_at hl 2 rfl) ?_
          obtain ⟨hi, h⟩ := ix_some h
          refine rf_iast C G 65 rfl (by decide) rfl rfl hi dX12_input_54 (fun H locs G => ?_)
          refine rf_nm G h (fun ρ_1 G h => ?_)
          refine lv_aload_n C.1 C.2.1 dX12_input_55 rfl (lv_at hl 0 rfl) ?_
          refine gf_98 C G dX12_input_56 ?_
          refine lv_iload_n C.1 C.2.1 dX12_input_59 rfl (lv_at hl 1 rfl) ?_
          refine lv_dup2_11 C.1 C.2.1 dX12_input_60 rfl rfl ?_
          obtain ⟨hi, h⟩ := ix_some h
          refine rf_iald C G 66 rfl (by decide) rfl rfl hi dX12_input_61 ?_
          refine lv_iconst (v := (1:Int32)) C.1 C.2.1 dX12_input_62 (by decide) ?_
          refine lv_iadd C.1 C.2.1 dX12_input_63 ?_
          obtain ⟨hi, h⟩ := ix_some h
          refine rf_iast C G 66 rfl (by decide) rfl rfl hi dX12_input_64 (fun H locs G => ?_)
          refine rf_nm G h (fun ρ_2 G h => ?_)
          refine lv_aload_n C.1 C.2.1 dX12_input_65 rfl (lv_at hl 0 rfl) ?_
          refine lv_iload_n C.1 C.2.1 dX12_input_66 rfl (lv_at hl 1 rfl) ?_
          refine lv_iload_n C.1 C.2.1 dX12_input_67 rfl (lv_at hl 2 rfl) ?_
          refine lv_iconst (v := (0:Int32)) C.1 C.2.1 dX12_input_68 (by decide) ?_
          obtain ⟨ρ_3, hq, h⟩ := bd1_some h
          refine rf_callV (rest := []) C G cw_note [.int x1, .int x2, .int (0:Int32)] _ (kq_note l D h0 hq) (Nat.le_of_ble_eq_true rfl) (Nat.le_of_ble_eq_true rfl) rfl rfl hl.1 (Nat.le_of_ble_eq_true rfl) (Nat.zero_le _) (Nat.zero_le _) dX12_input_69 (fun H locs G => ?_)
          refine W.eq (g2 := F0 m 72 ls []) rfl ?_
          refine lv_aload_n C.1 C.2.1 dX12_input_72 rfl (lv_at hl 0 rfl) ?_
          refine gf_98 C G dX12_input_73 ?_
          refine lv_iload_n C.1 C.2.1 dX12_input_76 rfl (lv_at hl 1 rfl) ?_
          obtain ⟨hi, h⟩ := ix_some h
          refine rf_iald C G 66 rfl (by decide) rfl rfl hi dX12_input_77 ?_
          exact rf_iret C G h dX12_input_78
        · rw [if_pos hc] at h
          refine lv_bipush (v := (-4:Int32)) C.1 C.2.1 dX12_input_35 (by decide) ?_
          exact rf_iret C G h dX12_input_37
      · rw [if_pos hc] at h
        refine lv_bipush (v := (-3:Int32)) C.1 C.2.1 dX12_input_21 (by decide) ?_
        exact rf_iret C G h dX12_input_23
    · rw [if_neg hc] at h
      refine lv_iconst (v := (-1:Int32)) C.1 C.2.1 dX12_input_12 (by decide) ?_
      exact rf_iret C G h dX12_input_13
noncomputable def fq_input (x1 : Int32) (x2 : Int32) (ρ : rf_S) : Option (Int32 × rf_S) := bq_input_0 x1 x2 ρ
theorem kq_input (l : Launch) (D : rf_D) (h0 : Nat) {r : Int32} {x1 : Int32} {x2 : Int32} {ρ ρ' : rf_S} (h : fq_input x1 x2 ρ = some (r, ρ')) : rf_Met l D h0 yX12_input cX12_input 3 (some .int) 1 23 [.ref h0, .int x1, .int x2] ρ (some (.int r)) ρ' :=
  rf_of rfl cc_input (Nat.le_of_ble_eq_true rfl) (fun p e s m args below meth c ls C G hl => wq_input_0 C h G hl)
abbrev cX12_isOutside : ByteArray := prog_14_method_99_code
def yX12_isOutside : MethodName := ⟨RX12, "isOutside", "(I)Z"⟩
theorem dX12_isOutside_0 : decode cX12_isOutside 0 = .ok (.iload_n 1, 1) := by decide +kernel
theorem dX12_isOutside_1 : decode cX12_isOutside 1 = .ok (.iconst 1, 1) := by decide +kernel
theorem dX12_isOutside_2 : decode cX12_isOutside 2 = .ok (.if_icmp .lt 15, 3) := by decide +kernel
theorem dX12_isOutside_5 : decode cX12_isOutside 5 = .ok (.iload_n 1, 1) := by decide +kernel
theorem dX12_isOutside_6 : decode cX12_isOutside 6 = .ok (.aload_n 0, 1) := by decide +kernel
theorem dX12_isOutside_7 : decode cX12_isOutside 7 = .ok (.getfield 681, 3) := by decide +kernel
theorem dX12_isOutside_10 : decode cX12_isOutside 10 = .ok (.if_icmp .gt 7, 3) := by decide +kernel
theorem dX12_isOutside_13 : decode cX12_isOutside 13 = .ok (.iconst 1, 1) := by decide +kernel
theorem dX12_isOutside_14 : decode cX12_isOutside 14 = .ok (.goto 4, 3) := by decide +kernel
theorem dX12_isOutside_17 : decode cX12_isOutside 17 = .ok (.iconst 0, 1) := by decide +kernel
theorem dX12_isOutside_18 : decode cX12_isOutside 18 = .ok (.ireturn, 1) := by decide +kernel
theorem cc_isOutside : Cond.code yX12_isOutside cX12_isOutside 2 (some .boolean) ∈ rf_tb := rf_at 2251 (by decide +kernel) (by decide +kernel)
theorem cw_isOutside : rf_wV yX12_isOutside cX12_isOutside 2 (some .boolean) 684 1 := ⟨⟨rf_at 2248 (by decide +kernel) (by decide +kernel), rf_at 2250 (by decide +kernel) (by decide +kernel), rf_sel (q := (yX12_isOutside, 122)) 139 (by decide +kernel) (by decide +kernel), cc_isOutside⟩, rfl, by decide +kernel⟩
noncomputable def bq_isOutside_0 (x1 : Int32) (ρ : rf_S) : Option (Int32 × rf_S) := (if x1 < (1:Int32) then some ((0:Int32), ρ) else (if (ρ.1 0 110) < x1 then some ((0:Int32), ρ) else some ((1:Int32), ρ)))
set_option maxHeartbeats 4000000 in
theorem wq_isOutside_0 (C : rf_C D p s m args meth c cX12_isOutside 2 (some .boolean)) {r : Int32} {x1 : Int32} {ρ ρ' : rf_S} {H : Heap} {locs : List Loc} {ls : Array Slot} (h : bq_isOutside_0 x1 ρ = some (r, ρ')) (G : rf_G D h0 s ρ H locs) (hl : lv_has ls 2 [(0, .ref h0), (1, .int x1)]) : W p l e ({ frames := 0, cells := 0, slots := 0, locals := 0 }) s m args below meth c H locs 0 0 (MQ below (rf_Q D h0 (some (.int r)) ρ') args s 0 0 (rf_A h0)) (F0 m 0 ls []) := by
  unfold bq_isOutside_0 at h
  refine lv_iload_n C.1 C.2.1 dX12_isOutside_0 rfl (lv_at hl 1 rfl) ?_
  refine lv_iconst (v := (1:Int32)) C.1 C.2.1 dX12_isOutside_1 (by decide) ?_
  refine lv_icmp_lt (tgt := 17) C.1 C.2.1 dX12_isOutside_2 (by decide) (fun hc => ?_) (fun hc => ?_)
  · rw [if_pos hc] at h
    refine lv_iconst (v := (0:Int32)) C.1 C.2.1 dX12_isOutside_17 (by decide) ?_
    exact rf_zret C G h rfl dX12_isOutside_18
  · rw [if_neg hc] at h
    refine lv_iload_n C.1 C.2.1 dX12_isOutside_5 rfl (lv_at hl 1 rfl) ?_
    refine lv_aload_n C.1 C.2.1 dX12_isOutside_6 rfl (lv_at hl 0 rfl) ?_
    refine gf_110 C G dX12_isOutside_7 ?_
    refine lv_icmp_gt (tgt := 17) C.1 C.2.1 dX12_isOutside_10 (by decide) (fun hc => ?_) (fun hc => ?_)
    · rw [if_pos hc] at h
      refine lv_iconst (v := (0:Int32)) C.1 C.2.1 dX12_isOutside_17 (by decide) ?_
      exact rf_zret C G h rfl dX12_isOutside_18
    · rw [if_neg hc] at h
      refine lv_iconst (v := (1:Int32)) C.1 C.2.1 dX12_isOutside_13 (by decide) ?_
      refine lv_goto (tgt := 18) C.1 C.2.1 dX12_isOutside_14 (by decide) ?_
      exact rf_zret C G h rfl dX12_isOutside_18
noncomputable def fq_isOutside (x1 : Int32) (ρ : rf_S) : Option (Int32 × rf_S) := bq_isOutside_0 x1 ρ
theorem kq_isOutside (l : Launch) (D : rf_D) (h0 : Nat) {r : Int32} {x1 : Int32} {ρ ρ' : rf_S} (h : fq_isOutside x1 ρ = some (r, ρ')) : rf_Met l D h0 yX12_isOutside cX12_isOutside 2 (some .boolean) 0 0 [.ref h0, .int x1] ρ (some (.int r)) ρ' :=
  rf_of rfl cc_isOutside (Nat.le_of_ble_eq_true rfl) (fun p e s m args below meth c ls C G hl => wq_isOutside_0 C h G hl)
abbrev cX12_inputTerm : ByteArray := prog_14_method_100_code
def yX12_inputTerm : MethodName := ⟨RX12, "inputTerm", "(II)I"⟩
theorem dX12_inputTerm_0 : decode cX12_inputTerm 0 = .ok (.iload_n 1, 1) := by decide +kernel
theorem dX12_inputTerm_1 : decode cX12_inputTerm 1 = .ok (.ifCond .lt 19, 3) := by decide +kernel
theorem dX12_inputTerm_4 : decode cX12_inputTerm 4 = .ok (.iload_n 1, 1) := by decide +kernel
theorem dX12_inputTerm_5 : decode cX12_inputTerm 5 = .ok (.aload_n 0, 1) := by decide +kernel
theorem dX12_inputTerm_6 : decode cX12_inputTerm 6 = .ok (.getfield 513, 3) := by decide +kernel
theorem dX12_inputTerm_9 : decode cX12_inputTerm 9 = .ok (.if_icmp .ge 11, 3) := by decide +kernel
theorem dX12_inputTerm_12 : decode cX12_inputTerm 12 = .ok (.aload_n 0, 1) := by decide +kernel
theorem dX12_inputTerm_13 : decode cX12_inputTerm 13 = .ok (.iload_n 2, 1) := by decide +kernel
theorem dX12_inputTerm_14 : decode cX12_inputTerm 14 = .ok (.invokevirtual 684, 3) := by decide +kernel
theorem dX12_inputTerm_17 : decode cX12_inputTerm 17 = .ok (.ifCond .ne 5, 3) := by decide +kernel
theorem dX12_inputTerm_20 : decode cX12_inputTerm 20 = .ok (.iconst (-1), 1) := by decide +kernel
theorem dX12_inputTerm_21 : decode cX12_inputTerm 21 = .ok (.ireturn, 1) := by decide +kernel
theorem dX12_inputTerm_22 : decode cX12_inputTerm 22 = .ok (.aload_n 0, 1) := by decide +kernel
theorem dX12_inputTerm_23 : decode cX12_inputTerm 23 = .ok (.getfield 528, 3) := by decide +kernel
theorem dX12_inputTerm_26 : decode cX12_inputTerm 26 = .ok (.ifCond .ne 6, 3) := by decide +kernel
theorem dX12_inputTerm_29 : decode cX12_inputTerm 29 = .ok (.bipush (-3), 2) := by decide +kernel
theorem dX12_inputTerm_31 : decode cX12_inputTerm 31 = .ok (.ireturn, 1) := by decide +kernel
theorem dX12_inputTerm_32 : decode cX12_inputTerm 32 = .ok (.aload_n 0, 1) := by decide +kernel
theorem dX12_inputTerm_33 : decode cX12_inputTerm 33 = .ok (.getfield 227, 3) := by decide +kernel
theorem dX12_inputTerm_36 : decode cX12_inputTerm 36 = .ok (.iload_n 1, 1) := by decide +kernel
theorem dX12_inputTerm_37 : decode cX12_inputTerm 37 = .ok (.iaload, 1) := by decide +kernel
theorem dX12_inputTerm_38 : decode cX12_inputTerm 38 = .ok (.bipush 64, 2) := by decide +kernel
theorem dX12_inputTerm_40 : decode cX12_inputTerm 40 = .ok (.if_icmp .ne 6, 3) := by decide +kernel
theorem dX12_inputTerm_43 : decode cX12_inputTerm 43 = .ok (.bipush (-4), 2) := by decide +kernel
theorem dX12_inputTerm_45 : decode cX12_inputTerm 45 = .ok (.ireturn, 1) := by decide +kernel
theorem dX12_inputTerm_46 : decode cX12_inputTerm 46 = .ok (.aload_n 0, 1) := by decide +kernel
theorem dX12_inputTerm_47 : decode cX12_inputTerm 47 = .ok (.getfield 224, 3) := by decide +kernel
theorem dX12_inputTerm_50 : decode cX12_inputTerm 50 = .ok (.bipush 64, 2) := by decide +kernel
theorem dX12_inputTerm_52 : decode cX12_inputTerm 52 = .ok (.iload_n 1, 1) := by decide +kernel
theorem dX12_inputTerm_53 : decode cX12_inputTerm 53 = .ok (.imul, 1) := by decide +kernel
theorem dX12_inputTerm_54 : decode cX12_inputTerm 54 = .ok (.aload_n 0, 1) := by decide +kernel
theorem dX12_inputTerm_55 : decode cX12_inputTerm 55 = .ok (.getfield 227, 3) := by decide +kernel
theorem dX12_inputTerm_58 : decode cX12_inputTerm 58 = .ok (.iload_n 1, 1) := by decide +kernel
theorem dX12_inputTerm_59 : decode cX12_inputTerm 59 = .ok (.iaload, 1) := by decide +kernel
theorem dX12_inputTerm_60 : decode cX12_inputTerm 60 = .ok (.iadd, 1) := by decide +kernel
theorem dX12_inputTerm_61 : decode cX12_inputTerm 61 = .ok (.aload_n 0, 1) := by decide +kernel
theorem dX12_inputTerm_62 : decode cX12_inputTerm 62 = .ok (.getfield 251, 3) := by decide +kernel
theorem dX12_inputTerm_65 : decode cX12_inputTerm 65 = .ok (.iload_n 2, 1) := by decide +kernel
theorem dX12_inputTerm_66 : decode cX12_inputTerm 66 = .ok (.iconst 1, 1) := by decide +kernel
theorem dX12_inputTerm_67 : decode cX12_inputTerm 67 = .ok (.isub, 1) := by decide +kernel
theorem dX12_inputTerm_68 : decode cX12_inputTerm 68 = .ok (.iaload, 1) := by decide +kernel
theorem dX12_inputTerm_69 : decode cX12_inputTerm 69 = .ok (.iastore, 1) := by decide +kernel
theorem dX12_inputTerm_70 : decode cX12_inputTerm 70 = .ok (.aload_n 0, 1) := by decide +kernel
theorem dX12_inputTerm_71 : decode cX12_inputTerm 71 = .ok (.getfield 227, 3) := by decide +kernel
theorem dX12_inputTerm_74 : decode cX12_inputTerm 74 = .ok (.iload_n 1, 1) := by decide +kernel
theorem dX12_inputTerm_75 : decode cX12_inputTerm 75 = .ok (.dup2, 1) := by decide +kernel
theorem dX12_inputTerm_76 : decode cX12_inputTerm 76 = .ok (.iaload, 1) := by decide +kernel
theorem dX12_inputTerm_77 : decode cX12_inputTerm 77 = .ok (.iconst 1, 1) := by decide +kernel
theorem dX12_inputTerm_78 : decode cX12_inputTerm 78 = .ok (.iadd, 1) := by decide +kernel
theorem dX12_inputTerm_79 : decode cX12_inputTerm 79 = .ok (.iastore, 1) := by decide +kernel
theorem dX12_inputTerm_80 : decode cX12_inputTerm 80 = .ok (.aload_n 0, 1) := by decide +kernel
theorem dX12_inputTerm_81 : decode cX12_inputTerm 81 = .ok (.iload_n 1, 1) := by decide +kernel
theorem dX12_inputTerm_82 : decode cX12_inputTerm 82 = .ok (.aload_n 0, 1) := by decide +kernel
theorem dX12_inputTerm_83 : decode cX12_inputTerm 83 = .ok (.getfield 251, 3) := by decide +kernel
theorem dX12_inputTerm_86 : decode cX12_inputTerm 86 = .ok (.iload_n 2, 1) := by decide +kernel
theorem dX12_inputTerm_87 : decode cX12_inputTerm 87 = .ok (.iconst 1, 1) := by decide +kernel
theorem dX12_inputTerm_88 : decode cX12_inputTerm 88 = .ok (.isub, 1) := by decide +kernel
theorem dX12_inputTerm_89 : decode cX12_inputTerm 89 = .ok (.iaload, 1) := by decide +kernel
theorem dX12_inputTerm_90 : decode cX12_inputTerm 90 = .ok (.iconst 1, 1) := by decide +kernel
theorem dX12_inputTerm_91 : decode cX12_inputTerm 91 = .ok (.invokevirtual 677, 3) := by decide +kernel
theorem dX12_inputTerm_94 : decode cX12_inputTerm 94 = .ok (.aload_n 0, 1) := by decide +kernel
theorem dX12_inputTerm_95 : decode cX12_inputTerm 95 = .ok (.getfield 227, 3) := by decide +kernel
theorem dX12_inputTerm_98 : decode cX12_inputTerm 98 = .ok (.iload_n 1, 1) := by decide +kernel
theorem dX12_inputTerm_99 : decode cX12_inputTerm 99 = .ok (.iaload, 1) := by decide +kernel
theorem dX12_inputTerm_100 : decode cX12_inputTerm 100 = .ok (.ireturn, 1) := by decide +kernel
theorem cc_inputTerm : Cond.code yX12_inputTerm cX12_inputTerm 3 (some .int) ∈ rf_tb := rf_at 2247 (by decide +kernel) (by decide +kernel)
noncomputable def bq_inputTerm_0 (x1 : Int32) (x2 : Int32) (ρ : rf_S) : Option (Int32 × rf_S) := (if x1 < 0 then some ((-1:Int32), ρ) else (if (ρ.1 0 55) ≤ x1 then some ((-1:Int32), ρ) else bd2 (fq_isOutside x2 ρ) (fun r_2 ρ_1 => (if r_2 = 0 then some ((-1:Int32), ρ_1) else (if (ρ_1.1 0 51) = 0 then some ((-3:Int32), ρ_1) else ix x1 16 ((if (ρ_1.1 68 x1.toNatClampNeg) = (64:Int32) then some ((-4:Int32), ρ_1) else ix x1 16 (ix (x2 - (1:Int32)) 600 (ix (((64:Int32) * x1) + (ρ_1.1 68 x1.toNatClampNeg)) 1024 (vl (rf_w ρ_1 67 (((64:Int32) * x1) + (ρ_1.1 68 x1.toNatClampNeg)).toNatClampNeg (ρ_1.1 76 (x2 - (1:Int32)).toNatClampNeg)) (fun ρ_3 => ix x1 16 (ix x1 16 (vl (rf_w ρ_3 68 x1.toNatClampNeg ((ρ_3.1 68 x1.toNatClampNeg) + (1:Int32))) (fun ρ_4 => ix (x2 - (1:Int32)) 600 (bd1 (fq_note x1 (ρ_4.1 76 (x2 - (1:Int32)).toNatClampNeg) (1:Int32) ρ_4) (fun ρ_5 => ix x1 16 (some ((ρ_5.1 68 x1.toNatClampNeg), ρ_5))))))))))))))))))
set_option maxHeartbeats 4000000 in
theorem wq_inputTerm_0 (C : rf_C D p s m args meth c cX12_inputTerm 3 (some .int)) {r : Int32} {x1 : Int32} {x2 : Int32} {ρ ρ' : rf_S} {H : Heap} {locs : List Loc} {ls : Array Slot} (h : bq_inputTerm_0 x1 x2 ρ = some (r, ρ')) (G : rf_G D h0 s ρ H locs) (hl : lv_has ls 3 [(0, .ref h0), (1, .int x1), (2, .int x2)]) : W p l e ({ frames := 1, cells := 0, slots := 0, locals := 23 }) s m args below meth c H locs 0 0 (MQ below (rf_Q D h0 (some (.int r)) ρ') args s 0 0 (rf_A h0)) (F0 m 0 ls []) := by
  unfold bq_inputTerm_0 at h
  refine lv_iload_n C.1 C.2.1 dX12_inputTerm_0 rfl (lv_at hl 1 rfl) ?_
  refine lv_if_lt (tgt := 20) C.1 C.2.1 dX12_inputTerm_1 (by decide) (fun hc => ?_) (fun hc => ?_)
  · rw [if_pos hc] at h
    refine lv_iconst (v := (-1:Int32)) C.1 C.2.1 dX12_inputTerm_20 (by decide) ?_
    exact rf_iret C G h dX12_inputTerm_21
  · rw [if_neg hc] at h
    refine lv_iload_n C.1 C.2.1 dX12_inputTerm_4 rfl (lv_at hl 1 rfl) ?_
    refine lv_aload_n C.1 C.2.1 dX12_inputTerm_5 rfl (lv_at hl 0 rfl) ?_
    refine gf_55 C G dX12_inputTerm_6 ?_
    refine lv_icmp_ge (tgt := 20) C.1 C.2.1 dX12_inputTerm_9 (by decide) (fun hc => ?_) (fun hc => ?_)
    · rw [if_pos hc] at h
      refine lv_iconst (v := (-1:Int32)) C.1 C.2.1 dX12_inputTerm_20 (by decide) ?_
      exact rf_iret C G h dX12_inputTerm_21
    · rw [if_neg hc] at h
      refine lv_aload_n C.1 C.2.1 dX12_inputTerm_12 rfl (lv_at hl 0 rfl) ?_
      refine lv_iload_n C.1 C.2.1 dX12_inputTerm_13 rfl (lv_at hl 2 rfl) ?_
      obtain ⟨r_2, ρ_1, hq, h⟩ := bd2_some h
      refine rf_callV (rest := []) C G cw_isOutside [.int x2] _ (kq_isOutside l D h0 hq) (Nat.le_of_ble_eq_true rfl) (Nat.le_of_ble_eq_true rfl) rfl rfl hl.1 (Nat.le_of_ble_eq_true rfl) (Nat.zero_le _) (Nat.zero_le _) dX12_inputTerm_14 (fun H locs G => ?_)
      refine W.eq (g2 := F0 m 17 ls [.int r_2]) rfl ?_
      refine lv_if_ne (tgt := 22) C.1 C.2.1 dX12_inputTerm_17 (by decide) (fun hc => ?_) (fun hc => ?_)
      · rw [if_neg hc] at h
        refine lv_aload_n C.1 C.2.1 dX12_inputTerm_22 rfl (lv_at hl 0 rfl) ?_
        refine gf_51 C G dX12_inputTerm_23 ?_
        refine lv_if_ne (tgt := 32) C.1 C.2.1 dX12_inputTerm_26 (by decide) (fun hc => ?_) (fun hc => ?_)
        · rw [if_neg hc] at h
          refine lv_aload_n C.1 C.2.1 dX12_inputTerm_32 rfl (lv_at hl 0 rfl) ?_
          refine gf_100 C G dX12_inputTerm_33 ?_
          refine lv_iload_n C.1 C.2.1 dX12_inputTerm_36 rfl (lv_at hl 1 rfl) ?_
          obtain ⟨hi, h⟩ := ix_some h
          refine rf_iald C G 68 rfl (by decide) rfl rfl hi dX12_inputTerm_37 ?_
          refine lv_bipush (v := (64:Int32)) C.1 C.2.1 dX12_inputTerm_38 (by decide) ?_
          refine lv_icmp_ne (tgt := 46) C.1 C.2.1 dX12_inputTerm_40 (by decide) (fun hc => ?_) (fun hc => ?_)
          · rw [if_neg hc] at h
            refine lv_aload_n C.1 C.2.1 dX12_inputTerm_46 rfl (lv_at hl 0 rfl) ?_
            refine gf_99 C G dX12_inputTerm_47 ?_
            refine lv_bipush (v := (64:Int32)) C.1 C.2.1 dX12_inputTerm_50 (by decide) ?_
            refine lv_iload_n C.1 C.2.1 dX12_inputTerm_52 rfl (lv_at hl 1 rfl) ?_
            refine lv_imul C.1 C.2.1 dX12_inputTerm_53 ?_
            refine lv_aload_n C.1 C.2.1 dX12_inputTerm_54 rfl (lv_at hl 0 rfl) ?_
            refine gf_100 C G dX12_inputTerm_55 ?_
            refine lv_iload_n C.1 C.2.1 dX12_inputTerm_58 rfl (lv_at hl 1 rfl) ?_
            obtain ⟨hi, h⟩ := ix_some h
            refine rf_iald C G 68 rfl (by decide) rfl rfl hi dX12_inputTerm_59 ?_
            refine lv_iadd C.1 C.2.1 dX12_inputTerm_60 ?_
            refine lv_aload_n C.1 C.2.1 dX12_inputTerm_61 rfl (lv_at hl 0 rfl) ?_
            refine gf_109 C G dX12_inputTerm_62 ?_
            refine lv_iload_n C.1 C.2.1 dX12_inputTerm_65 rfl (lv_at hl 2 rfl) ?_
            refine lv_iconst (v := (1:Int32)) C.1 C.2.1 dX12_inputTerm_66 (by decide) ?_
            refine lv_isub C.1 C.2.1 dX12_inputTerm_67 ?_
            obtain ⟨hi, h⟩ := ix_some h
            refine rf_iald C G 76 rfl (by decide) rfl rfl hi dX12_inputTerm_68 ?_
            obtain ⟨hi, h⟩ := ix_some h
            refine rf_iast C G 67 rfl (by decide) rfl rfl hi dX12_inputTerm_69 (fun H locs G => ?_)
            refine rf_nm G h (fun ρ_3 G h => ?_)
            refine lv_aload_n C.1 C.2.1 dX12_inputTerm_70 rfl (lv_at hl 0 rfl) ?_
            refine gf_100 C G dX12_inputTerm_71 ?_
            refine lv_iload_n C.1 C.2.1 dX12_inputTerm_74 rfl (lv_at hl 1 rfl) ?_
            refine lv_dup2_11 C.1 C.2.1 dX12_inputTerm_75 rfl rfl ?_
            obtain ⟨hi, h⟩ := ix_some h
            refine rf_iald C G 68 rfl (by decide) rfl rfl hi dX12_inputTerm_76 ?_
            refine lv_iconst (v := (1:Int32)) C.1 C.2.1 dX12_inputTerm_77 (by decide) ?_
            refine lv_iadd C.1 C.2.1 dX12_inputTerm_78 ?_
            obtain ⟨hi, h⟩ := ix_some h
            refine rf_iast C G 68 rfl (by decide) rfl rfl hi dX12_inputTerm_79 (fun H locs G => ?_)
            refine rf_nm G h (fun ρ_4 G h => ?_)
            refine lv_aload_n C.1 C.2.1 dX12_inputTerm_80 rfl (lv_at hl 0 rfl) ?_
            refine lv_iload_n C.1 C.2.1 dX12_inputTerm_81 rfl (lv_at hl 1 rfl) ?_
            refine lv_aload_n C.1 C.2.1 dX12_inputTerm_82 rfl (lv_at hl 0 rfl) ?_
            refine gf_109 C G dX12_inputTerm_83 ?_
            refine lv_iload_n C.1 C.2.1 dX12_inputTerm_86 rfl (lv_at hl 2 rfl) ?_
            refine lv_iconst (v := (1:Int32)) C.1 C.2.1 dX12_inputTerm_87 (by decide) ?_
            refine lv_isub C.1 C.2.1 dX12_inputTerm_88 ?_
            obtain ⟨hi, h⟩ := ix_some h
            refine rf_iald C G 76 rfl (by decide) rfl rfl hi dX12_inputTerm_89 ?_
            refine lv_iconst (v := (1:Int32)) C.1 C.2.1 dX12_inputTerm_90 (by decide) ?_
            obtain ⟨ρ_5, hq, h⟩ := bd1_some h
            refine rf_callV (rest := []) C G cw_note [.int x1, .int (ρ_4.1 76 (x2 - (1:Int32)).toNatClampNeg), .int (1:Int32)] _ (kq_note l D h0 hq) (Nat.le_of_ble_eq_true rfl) (Nat.le_of_ble_eq_true rfl) rfl rfl hl.1 (Nat.le_of_ble_eq_true rfl) (Nat.zero_le _) (Nat.zero_le _) dX12_inputTerm_91 (fun H locs G => ?_)
            refine W.eq (g2 := F0 m 94 ls []) rfl ?_
            refine lv_aload_n C.1 C.2.1 dX12_inputTerm_94 rfl (lv_at hl 0 rfl) ?_
            refine gf_100 C G dX12_inputTerm_95 ?_
            refine lv_iload_n C.1 C.2.1 dX12_inputTerm_98 rfl (lv_at hl 1 rfl) ?_
            obtain ⟨hi, h⟩ := ix_some h
            refine rf_iald C G 68 rfl (by decide) rfl rfl hi dX12_inputTerm_99 ?_
            exact rf_iret C G h dX12_inputTerm_100
          · rw [if_pos hc] at h
            refine lv_bipush (v := (-4:Int32)) C.1 C.2.1 dX12_inputTerm_43 (by decide) ?_
            exact rf_iret C G h dX12_inputTerm_45
        · rw [if_pos hc] at h
          refine lv_bipush (v := (-3:Int32)) C.1 C.2.1 dX12_inputTerm_29 (by decide) ?_
          exact rf_iret C G h dX12_inputTerm_31
      · rw [if_pos hc] at h
        refine lv_iconst (v := (-1:Int32)) C.1 C.2.1 dX12_inputTerm_20 (by decide) ?_
        exact rf_iret C G h dX12_inputTerm_21
noncomputable def fq_inputTerm (x1 : Int32) (x2 : Int32) (ρ : rf_S) : Option (Int32 × rf_S) := bq_inputTerm_0 x1 x2 ρ
theorem kq_inputTerm (l : Launch) (D : rf_D) (h0 : Nat) {r : Int32} {x1 : Int32} {x2 : Int32} {ρ ρ' : rf_S} (h : fq_inputTerm x1 x2 ρ = some (r, ρ')) : rf_Met l D h0 yX12_inputTerm cX12_inputTerm 3 (some .int) 1 23 [.ref h0, .int x1, .int x2] ρ (some (.int r)) ρ' :=
  rf_of rfl cc_inputTerm (Nat.le_of_ble_eq_true rfl) (fun p e s m args below meth c ls C G hl => wq_inputTerm_0 C h G hl)
abbrev cX12_shows : ByteArray := prog_14_method_101_code
def yX12_shows : MethodName := ⟨RX12, "shows", "(I)I"⟩
theorem dX12_shows_0 : decode cX12_shows 0 = .ok (.iconst 0, 1) := by decide +kernel
theorem dX12_shows_1 : decode cX12_shows 1 = .ok (.istore_n 2, 1) := by decide +kernel
theorem dX12_shows_2 : decode cX12_shows 2 = .ok (.iload_n 2, 1) := by decide +kernel
theorem dX12_shows_3 : decode cX12_shows 3 = .ok (.aload_n 0, 1) := by decide +kernel
theorem dX12_shows_4 : decode cX12_shows 4 = .ok (.getfield 681, 3) := by decide +kernel
theorem dX12_shows_7 : decode cX12_shows 7 = .ok (.if_icmp .ge 23, 3) := by decide +kernel
theorem dX12_shows_10 : decode cX12_shows 10 = .ok (.aload_n 0, 1) := by decide +kernel
theorem dX12_shows_11 : decode cX12_shows 11 = .ok (.getfield 251, 3) := by decide +kernel
theorem dX12_shows_14 : decode cX12_shows 14 = .ok (.iload_n 2, 1) := by decide +kernel
theorem dX12_shows_15 : decode cX12_shows 15 = .ok (.iaload, 1) := by decide +kernel
theorem dX12_shows_16 : decode cX12_shows 16 = .ok (.iload_n 1, 1) := by decide +kernel
theorem dX12_shows_17 : decode cX12_shows 17 = .ok (.if_icmp .ne 7, 3) := by decide +kernel
theorem dX12_shows_20 : decode cX12_shows 20 = .ok (.iload_n 2, 1) := by decide +kernel
theorem dX12_shows_21 : decode cX12_shows 21 = .ok (.iconst 1, 1) := by decide +kernel
theorem dX12_shows_22 : decode cX12_shows 22 = .ok (.iadd, 1) := by decide +kernel
theorem dX12_shows_23 : decode cX12_shows 23 = .ok (.ireturn, 1) := by decide +kernel
theorem dX12_shows_24 : decode cX12_shows 24 = .ok (.iinc 2 1, 3) := by decide +kernel
theorem dX12_shows_27 : decode cX12_shows 27 = .ok (.goto (-25), 3) := by decide +kernel
theorem dX12_shows_30 : decode cX12_shows 30 = .ok (.aload_n 0, 1) := by decide +kernel
theorem dX12_shows_31 : decode cX12_shows 31 = .ok (.getfield 681, 3) := by decide +kernel
theorem dX12_shows_34 : decode cX12_shows 34 = .ok (.sipush 600, 3) := by decide +kernel
theorem dX12_shows_37 : decode cX12_shows 37 = .ok (.if_icmp .ne 6, 3) := by decide +kernel
theorem dX12_shows_40 : decode cX12_shows 40 = .ok (.bipush (-4), 2) := by decide +kernel
theorem dX12_shows_42 : decode cX12_shows 42 = .ok (.ireturn, 1) := by decide +kernel
theorem dX12_shows_43 : decode cX12_shows 43 = .ok (.aload_n 0, 1) := by decide +kernel
theorem dX12_shows_44 : decode cX12_shows 44 = .ok (.getfield 251, 3) := by decide +kernel
theorem dX12_shows_47 : decode cX12_shows 47 = .ok (.aload_n 0, 1) := by decide +kernel
theorem dX12_shows_48 : decode cX12_shows 48 = .ok (.getfield 681, 3) := by decide +kernel
theorem dX12_shows_51 : decode cX12_shows 51 = .ok (.iload_n 1, 1) := by decide +kernel
theorem dX12_shows_52 : decode cX12_shows 52 = .ok (.iastore, 1) := by decide +kernel
theorem dX12_shows_53 : decode cX12_shows 53 = .ok (.aload_n 0, 1) := by decide +kernel
theorem dX12_shows_54 : decode cX12_shows 54 = .ok (.dup, 1) := by decide +kernel
theorem dX12_shows_55 : decode cX12_shows 55 = .ok (.getfield 681, 3) := by decide +kernel
theorem dX12_shows_58 : decode cX12_shows 58 = .ok (.iconst 1, 1) := by decide +kernel
theorem dX12_shows_59 : decode cX12_shows 59 = .ok (.iadd, 1) := by decide +kernel
theorem dX12_shows_60 : decode cX12_shows 60 = .ok (.putfield 681, 3) := by decide +kernel
theorem dX12_shows_63 : decode cX12_shows 63 = .ok (.aload_n 0, 1) := by decide +kernel
theorem dX12_shows_64 : decode cX12_shows 64 = .ok (.iload_n 1, 1) := by decide +kernel
theorem dX12_shows_65 : decode cX12_shows 65 = .ok (.invokevirtual 648, 3) := by decide +kernel
theorem dX12_shows_68 : decode cX12_shows 68 = .ok (.aload_n 0, 1) := by decide +kernel
theorem dX12_shows_69 : decode cX12_shows 69 = .ok (.getfield 681, 3) := by decide +kernel
theorem dX12_shows_72 : decode cX12_shows 72 = .ok (.ireturn, 1) := by decide +kernel
theorem cc_shows : Cond.code yX12_shows cX12_shows 3 (some .int) ∈ rf_tb := rf_at 2259 (by decide +kernel) (by decide +kernel)
theorem cw_shows : rf_wV yX12_shows cX12_shows 3 (some .int) 687 1 := ⟨⟨rf_at 2256 (by decide +kernel) (by decide +kernel), rf_at 2258 (by decide +kernel) (by decide +kernel), rf_sel (q := (yX12_shows, 122)) 140 (by decide +kernel) (by decide +kernel), cc_shows⟩, rfl, by decide +kernel⟩
noncomputable def lq_shows_2 (x1 : Int32) (x2 : Int32) (ρ : rf_S) : Option ((Int32 × rf_S) ⊕ ((Int32 × rf_S) ⊕ (Int32 × rf_S))) := (if (ρ.1 0 110) ≤ x2 then some (.inr (.inr (x2, ρ))) else ix x2 600 ((if (ρ.1 76 x2.toNatClampNeg) = x1 then some (.inr (.inl ((x2 + (1:Int32)), ρ))) else vl (x2 + (1:Int32)) (fun x2_1 => some (.inl (x2_1, ρ))))))
noncomputable def eq_shows_2 (x1 : Int32) (x2 : Int32) (ρ : rf_S) : Option (Int32 × rf_S) := (if (ρ.1 0 110) = (600:Int32) then some ((-4:Int32), ρ) else ix (ρ.1 0 110) 600 (vl (rf_w ρ 76 (ρ.1 0 110).toNatClampNeg x1) (fun ρ_2 => vl (rf_w ρ_2 0 110 ((ρ_2.1 0 110) + (1:Int32))) (fun ρ_3 => bd1 (fq_wentOut x1 ρ_3) (fun ρ_4 => some ((ρ_4.1 0 110), ρ_4))))))
noncomputable def bq_shows_2 (x1 : Int32) (x2 : Int32) (ρ : rf_S) : Option (Int32 × rf_S) := (lp (fun z : (Int32 × rf_S) => lq_shows_2 x1 z.1 z.2) (x2, ρ)).bind (fun y => Sum.elim (fun z => some z) (fun z => eq_shows_2 x1 z.1 z.2) y)
set_option maxHeartbeats 4000000 in
theorem wq_shows_2 (C : rf_C D p s m args meth c cX12_shows 3 (some .int)) {r : Int32} {x1 : Int32} {x2 : Int32} {ρ ρ' : rf_S} {H : Heap} {locs : List Loc} {ls : Array Slot} (h : bq_shows_2 x1 x2 ρ = some (r, ρ')) (G : rf_G D h0 s ρ H locs) (hl : lv_has ls 3 [(0, .ref h0), (1, .int x1), (2, .int x2)]) : W p l e ({ frames := 1, cells := 0, slots := 0, locals := 21 }) s m args below meth c H locs 0 0 (MQ below (rf_Q D h0 (some (.int r)) ρ') args s 0 0 (rf_A h0)) (F0 m 2 ls []) := by
  unfold bq_shows_2 at h
  obtain ⟨y, hy, h⟩ := bd_some h
  have hE : (Sum.elim (fun z : Int32 × rf_S => z = (r, ρ')) (fun z : (Int32 × rf_S) => ∀ (H : Heap) (locs : List Loc) (ls : Array Slot), rf_G D h0 s z.2 H locs → lv_has ls 3 [(0, .ref h0), (1, .int x1), (2, .int z.1)] → W p l e ({ frames := 1, cells := 0, slots := 0, locals := 21 }) s m args below meth c H locs 0 0 (MQ below (rf_Q D h0 (some (.int r)) ρ') args s 0 0 (rf_A h0)) (F0 m 30 ls []))) y := by
    cases y with
    | inl z =>
      exact Option.some.inj h
    | inr z =>
      intro H locs ls G hl
      have h := se_r h
      obtain ⟨x2, ρ⟩ := z
      dsimp only at h G hl
      unfold eq_shows_2 at h
      refine lv_aload_n C.1 C.2.1 dX12_shows_30 rfl (lv_at hl 0 rfl) ?_
      refine gf_110 C G dX12_shows_31 ?_
      refine lv_sipush (v := (600:Int32)) C.1 C.2.1 dX12_shows_34 (by decide) ?_
      refine lv_icmp_ne (tgt := 43) C.1 C.2.1 dX12_shows_37 (by decide) (fun hc => ?_) (fun hc => ?_)
      · rw [if_neg hc] at h
        refine lv_aload_n C.1 C.2.1 dX12_shows_43 rfl (lv_at hl 0 rfl) ?_
        refine gf_109 C G dX12_shows_44 ?_
        refine lv_aload_n C.1 C.2.1 dX12_shows_47 rfl (lv_at hl 0 rfl) ?_
        refine gf_110 C G dX12_shows_48 ?_
        refine lv_iload_n C.1 C.2.1 dX12_shows_51 rfl (lv_at hl 1 rfl) ?_
        obtain ⟨hi, h⟩ := ix_some h
        refine rf_iast C G 76 rfl (by decide) rfl rfl hi dX12_shows_52 (fun H locs G => ?_)
        refine rf_nm G h (fun ρ_2 G h => ?_)
        refine lv_aload_n C.1 C.2.1 dX12_shows_53 rfl (lv_at hl 0 rfl) ?_
        refine lv_dup C.1 C.2.1 dX12_shows_54 rfl ?_
        refine gf_110 C G dX12_shows_55 ?_
        refine lv_iconst (v := (1:Int32)) C.1 C.2.1 dX12_shows_58 (by decide) ?_
        refine lv_iadd C.1 C.2.1 dX12_shows_59 ?_
        refine pf_110 C G dX12_shows_60 (fun H locs G => ?_)
        refine rf_nm G h (fun ρ_3 G h => ?_)
        refine lv_aload_n C.1 C.2.1 dX12_shows_63 rfl (lv_at hl 0 rfl) ?_
        refine lv_iload_n C.1 C.2.1 dX12_shows_64 rfl (lv_at hl 1 rfl) ?_
        obtain ⟨ρ_4, hq, h⟩ := bd1_some h
        refine rf_callV (rest := []) C G cw_wentOut [.int x1] _ (kq_wentOut l D h0 hq) (Nat.le_of_ble_eq_true rfl) (Nat.le_of_ble_eq_true rfl) rfl rfl hl.1 (Nat.le_of_ble_eq_true rfl) (Nat.zero_le _) (Nat.zero_le _) dX12_shows_65 (fun H locs G => ?_)
        refine W.eq (g2 := F0 m 68 ls []) rfl ?_
        refine lv_aload_n C.1 C.2.1 dX12_shows_68 rfl (lv_at hl 0 rfl) ?_
        refine gf_110 C G dX12_shows_69 ?_
        exact rf_iret C G h dX12_shows_72
      · rw [if_pos hc] at h
        refine lv_bipush (v := (-4:Int32)) C.1 C.2.1 dX12_shows_40 (by decide) ?_
        exact rf_iret C G h dX12_shows_42
  refine lp_recE (fun z : (Int32 × rf_S) => ∀ (H : Heap) (locs : List Loc) (ls : Array Slot), rf_G D h0 s z.2 H locs → lv_has ls 3 [(0, .ref h0), (1, .int x1), (2, .int z.1)] → W p l e ({ frames := 1, cells := 0, slots := 0, locals := 21 }) s m args below meth c H locs 0 0 (MQ below (rf_Q D h0 (some (.int r)) ρ') args s 0 0 (rf_A h0)) (F0 m 2 ls [])) (Sum.elim (fun z : Int32 × rf_S => z = (r, ρ')) (fun z : (Int32 × rf_S) => ∀ (H : Heap) (locs : List Loc) (ls : Array Slot), rf_G D h0 s z.2 H locs → lv_has ls 3 [(0, .ref h0), (1, .int x1), (2, .int z.1)] → W p l e ({ frames := 1, cells := 0, slots := 0, locals := 21 }) s m args below meth c H locs 0 0 (MQ below (rf_Q D h0 (some (.int r)) ρ') args s 0 0 (rf_A h0)) (F0 m 30 ls []))) ?_ _ _ hy hE _ _ _ G hl
  clear hE hy G hl h
  intro z o h hP H locs ls G hl
  obtain ⟨x2, ρ⟩ := z
  dsimp only at h G hl
  unfold lq_shows_2 at h
  refine lv_iload_n C.1 C.2.1 dX12_shows_2 rfl (lv_at hl 2 rfl) ?_
  refine lv_aload_n C.1 C.2.1 dX12_shows_3 rfl (lv_at hl 0 rfl) ?_
  refine gf_110 C G dX12_shows_4 ?_
  refine lv_icmp_ge (tgt := 30) C.1 C.2.1 dX12_shows_7 (by decide) (fun hc => ?_) (fun hc => ?_)
  · rw [if_pos hc] at h
    cases h
    exact hP _ _ _ G (lv_sub hl [0, 1, 2] rfl)
  · rw [if_neg hc] at h
    refine lv_aload_n C.1 C.2.1 dX12_shows_10 rfl (lv_at hl 0 rfl) ?_
    refine gf_109 C G dX12_shows_11 ?_
    refine lv_iload_n C.1 C.2.1 dX12_shows_14 rfl (lv_at hl 2 rfl) ?_
    obtain ⟨hi, h⟩ := ix_some h
    refine rf_iald C G 76 rfl (by decide) rfl rfl hi dX12_shows_15 ?_
    refine lv_iload_n C.1 C.2.1 dX12_shows_16 rfl (lv_at hl 1 rfl) ?_
    refine lv_icmp_ne (tgt := 24) C.1 C.2.1 dX12_shows_17 (by decide) (fun hc => ?_) (fun hc => ?_)
    · rw [if_neg hc] at h
      refine vl_ex h (fun x2_1 ey h => ?_)
      refine lv_iinc (v := x2_1) (lv' := [(2, .int x2_1), (0, .ref h0), (1, .int x1)]) C.1 C.2.1 dX12_shows_24 hl (k := 2) rfl (by rw [ey]; rfl) (by decide) rfl (fun ls hl => ?_)
      refine lv_goto (tgt := 2) C.1 C.2.1 dX12_shows_27 (by decide) ?_
      cases h
      exact hP _ _ _ G (lv_sub hl [1, 2, 0] rfl)
    · rw [if_pos hc] at h
      refine lv_iload_n C.1 C.2.1 dX12_shows_20 rfl (lv_at hl 2 rfl) ?_
      refine lv_iconst (v := (1:Int32)) C.1 C.2.1 dX12_shows_21 (by decide) ?_
      refine lv_iadd C.1 C.2.1 dX12_shows_22 ?_
      cases h
      have hP := congrArg some hP
      exact rf_iret C G hP dX12_shows_23
noncomputable def bq_shows_0 (x1 : Int32) (ρ : rf_S) : Option (Int32 × rf_S) := bq_shows_2 x1 (0:Int32) ρ
set_option maxHeartbeats 4000000 in
theorem wq_shows_0 (C : rf_C D p s m args meth c cX12_shows 3 (some .int)) {r : Int32} {x1 : Int32} {ρ ρ' : rf_S} {H : Heap} {locs : List Loc} {ls : Array Slot} (h : bq_shows_0 x1 ρ = some (r, ρ')) (G : rf_G D h0 s ρ H locs) (hl : lv_has ls 3 [(0, .ref h0), (1, .int x1)]) : W p l e ({ frames := 1, cells := 0, slots := 0, locals := 21 }) s m args below meth c H locs 0 0 (MQ below (rf_Q D h0 (some (.int r)) ρ') args s 0 0 (rf_A h0)) (F0 m 0 ls []) := by
  unfold bq_shows_0 at h
  refine lv_iconst (v := (0:Int32)) C.1 C.2.1 dX12_shows_0 (by decide) ?_
  refine lv_istore_n (lv' := [(2, .int (0:Int32)), (0, .ref h0), (1, .int x1)]) C.1 C.2.1 dX12_shows_1 rfl hl (by decide) rfl (fun ls hl => ?_)
  exact wq_shows_2 C h G (lv_sub hl [1, 2, 0] rfl)
noncomputable def fq_shows (x1 : Int32) (ρ : rf_S) : Option (Int32 × rf_S) := bq_shows_0 x1 ρ
theorem kq_shows (l : Launch) (D : rf_D) (h0 : Nat) {r : Int32} {x1 : Int32} {ρ ρ' : rf_S} (h : fq_shows x1 ρ = some (r, ρ')) : rf_Met l D h0 yX12_shows cX12_shows 3 (some .int) 1 21 [.ref h0, .int x1] ρ (some (.int r)) ρ' :=
  rf_of rfl cc_shows (Nat.le_of_ble_eq_true rfl) (fun p e s m args below meth c ls C G hl => wq_shows_0 C h G hl)
abbrev cX12_output : ByteArray := prog_14_method_102_code
def yX12_output : MethodName := ⟨RX12, "output", "(III)I"⟩
theorem dX12_output_0 : decode cX12_output 0 = .ok (.iload_n 1, 1) := by decide +kernel
theorem dX12_output_1 : decode cX12_output 1 = .ok (.ifCond .lt 25, 3) := by decide +kernel
theorem dX12_output_4 : decode cX12_output 4 = .ok (.iload_n 1, 1) := by decide +kernel
theorem dX12_output_5 : decode cX12_output 5 = .ok (.aload_n 0, 1) := by decide +kernel
theorem dX12_output_6 : decode cX12_output 6 = .ok (.getfield 513, 3) := by decide +kernel
theorem dX12_output_9 : decode cX12_output 9 = .ok (.if_icmp .ge 17, 3) := by decide +kernel
theorem dX12_output_12 : decode cX12_output 12 = .ok (.iload_n 2, 1) := by decide +kernel
theorem dX12_output_13 : decode cX12_output 13 = .ok (.ifCond .lt 13, 3) := by decide +kernel
theorem dX12_output_16 : decode cX12_output 16 = .ok (.iload_n 2, 1) := by decide +kernel
theorem dX12_output_17 : decode cX12_output 17 = .ok (.aload_n 0, 1) := by decide +kernel
theorem dX12_output_18 : decode cX12_output 18 = .ok (.getfield 215, 3) := by decide +kernel
theorem dX12_output_21 : decode cX12_output 21 = .ok (.iload_n 1, 1) := by decide +kernel
theorem dX12_output_22 : decode cX12_output 22 = .ok (.iaload, 1) := by decide +kernel
theorem dX12_output_23 : decode cX12_output 23 = .ok (.if_icmp .lt 5, 3) := by decide +kernel
theorem dX12_output_26 : decode cX12_output 26 = .ok (.iconst (-1), 1) := by decide +kernel
theorem dX12_output_27 : decode cX12_output 27 = .ok (.ireturn, 1) := by decide +kernel
theorem dX12_output_28 : decode cX12_output 28 = .ok (.iload_n 3, 1) := by decide +kernel
theorem dX12_output_29 : decode cX12_output 29 = .ok (.ifCond .lt 8, 3) := by decide +kernel
theorem dX12_output_32 : decode cX12_output 32 = .ok (.iload_n 3, 1) := by decide +kernel
theorem dX12_output_33 : decode cX12_output 33 = .ok (.iconst 1, 1) := by decide +kernel
theorem dX12_output_34 : decode cX12_output 34 = .ok (.if_icmp .le 6, 3) := by decide +kernel
theorem dX12_output_37 : decode cX12_output 37 = .ok (.bipush (-2), 2) := by decide +kernel
theorem dX12_output_39 : decode cX12_output 39 = .ok (.ireturn, 1) := by decide +kernel
theorem dX12_output_40 : decode cX12_output 40 = .ok (.aload_n 0, 1) := by decide +kernel
theorem dX12_output_41 : decode cX12_output 41 = .ok (.getfield 212, 3) := by decide +kernel
theorem dX12_output_44 : decode cX12_output 44 = .ok (.sipush 200, 3) := by decide +kernel
theorem dX12_output_47 : decode cX12_output 47 = .ok (.iload_n 1, 1) := by decide +kernel
theorem dX12_output_48 : decode cX12_output 48 = .ok (.imul, 1) := by decide +kernel
theorem dX12_output_49 : decode cX12_output 49 = .ok (.iload_n 2, 1) := by decide +kernel
theorem dX12_output_50 : decode cX12_output 50 = .ok (.iadd, 1) := by decide +kernel
theorem dX12_output_51 : decode cX12_output 51 = .ok (.baload, 1) := by decide +kernel
theorem dX12_output_52 : decode cX12_output 52 = .ok (.istore 4, 2) := by decide +kernel
theorem dX12_output_54 : decode cX12_output 54 = .ok (.iload_n 3, 1) := by decide +kernel
theorem dX12_output_55 : decode cX12_output 55 = .ok (.ifCond .ne 14, 3) := by decide +kernel
theorem dX12_output_58 : decode cX12_output 58 = .ok (.iload 4, 2) := by decide +kernel
theorem dX12_output_60 : decode cX12_output 60 = .ok (.ifCond .eq 7, 3) := by decide +kernel
theorem dX12_output_63 : decode cX12_output 63 = .ok (.iconst 1, 1) := by decide +kernel
theorem dX12_output_64 : decode cX12_output 64 = .ok (.goto 4, 3) := by decide +kernel
theorem dX12_output_67 : decode cX12_output 67 = .ok (.iconst 0, 1) := by decide +kernel
theorem dX12_output_68 : decode cX12_output 68 = .ok (.ireturn, 1) := by decide +kernel
theorem dX12_output_69 : decode cX12_output 69 = .ok (.iload 4, 2) := by decide +kernel
theorem dX12_output_71 : decode cX12_output 71 = .ok (.ifCond .eq 22, 3) := by decide +kernel
theorem dX12_output_74 : decode cX12_output 74 = .ok (.aload_n 0, 1) := by decide +kernel
theorem dX12_output_75 : decode cX12_output 75 = .ok (.aload_n 0, 1) := by decide +kernel
theorem dX12_output_76 : decode cX12_output 76 = .ok (.getfield 209, 3) := by decide +kernel
theorem dX12_output_79 : decode cX12_output 79 = .ok (.sipush 200, 3) := by decide +kernel
theorem dX12_output_82 : decode cX12_output 82 = .ok (.iload_n 1, 1) := by decide +kernel
theorem dX12_output_83 : decode cX12_output 83 = .ok (.imul, 1) := by decide +kernel
theorem dX12_output_84 : decode cX12_output 84 = .ok (.iload_n 2, 1) := by decide +kernel
theorem dX12_output_85 : decode cX12_output 85 = .ok (.iadd, 1) := by decide +kernel
theorem dX12_output_86 : decode cX12_output 86 = .ok (.iaload, 1) := by decide +kernel
theorem dX12_output_87 : decode cX12_output 87 = .ok (.invokevirtual 687, 3) := by decide +kernel
theorem dX12_output_90 : decode cX12_output 90 = .ok (.goto 15, 3) := by decide +kernel
theorem dX12_output_93 : decode cX12_output 93 = .ok (.aload_n 0, 1) := by decide +kernel
theorem dX12_output_94 : decode cX12_output 94 = .ok (.getfield 209, 3) := by decide +kernel
theorem dX12_output_97 : decode cX12_output 97 = .ok (.sipush 200, 3) := by decide +kernel
theorem dX12_output_100 : decode cX12_output 100 = .ok (.iload_n 1, 1) := by decide +kernel
theorem dX12_output_101 : decode cX12_output 101 = .ok (.imul, 1) := by decide +kernel
theorem dX12_output_102 : decode cX12_output 102 = .ok (.iload_n 2, 1) := by decide +kernel
theorem dX12_output_103 : decode cX12_output 103 = .ok (.iadd, 1) := by decide +kernel
theorem dX12_output_104 : decode cX12_output 104 = .ok (.iaload, 1) := by decide +kernel
theorem dX12_output_105 : decode cX12_output 105 = .ok (.ireturn, 1) := by decide +kernel
theorem cc_output : Cond.code yX12_output cX12_output 5 (some .int) ∈ rf_tb := rf_at 2255 (by decide +kernel) (by decide +kernel)
noncomputable def bq_output_0 (x1 : Int32) (x2 : Int32) (x3 : Int32) (ρ : rf_S) : Option (Int32 × rf_S) := (if x1 < 0 then some ((-1:Int32), ρ) else (if (ρ.1 0 55) ≤ x1 then some ((-1:Int32), ρ) else (if x2 < 0 then some ((-1:Int32), ρ) else ix x1 16 ((if x2 < (ρ.1 64 x1.toNatClampNeg) then (if x3 < 0 then some ((-2:Int32), ρ) else (if x3 ≤ (1:Int32) then ix (((200:Int32) * x1) + x2) 3200 (vl (ρ.1 63 (((200:Int32) * x1) + x2).toNatClampNeg) (fun x4_1 => (if x3 = 0 then (if x4_1 = 0 then some ((0:Int32), ρ) else some ((1:Int32), ρ)) else (if x4_1 = 0 then ix (((200:Int32) * x1) + x2) 3200 (some ((ρ.1 62 (((200:Int32) * x1) + x2).toNatClampNeg), ρ)) else ix (((200:Int32) * x1) + x2) 3200 (bd2 (fq_shows (ρ.1 62 (((200:Int32) * x1) + x2).toNatClampNeg) ρ) (fun r_3 ρ_2 => some (r_3, ρ_2))))))) else some ((-2:Int32), ρ))) else some ((-1:Int32), ρ))))))
set_option maxHeartbeats 4000000 in
theorem wq_output_0 (C : rf_C D p s m args meth c cX12_output 5 (some .int)) {r : Int32} {x1 : Int32} {x2 : Int32} {x3 : Int32} {ρ ρ' : rf_S} {H : Heap} {locs : List Loc} {ls : Array Slot} (h : bq_output_0 x1 x2 x3 ρ = some (r, ρ')) (G : rf_G D h0 s ρ H locs) (hl : lv_has ls 5 [(0, .ref h0), (1, .int x1), (2, .int x2), (3, .int x3)]) : W p l e ({ frames := 2, cells := 0, slots := 0, locals := 43 }) s m args below meth c H locs 0 0 (MQ below (rf_Q D h0 (some (.int r)) ρ') args s 0 0 (rf_A h0)) (F0 m 0 ls []) := by
  unfold bq_output_0 at h
  refine lv_iload_n C.1 C.2.1 dX12_output_0 rfl (lv_at hl 1 rfl) ?_
  refine lv_if_lt (tgt := 26) C.1 C.2.1 dX12_output_1 (by decide) (fun hc => ?_) (fun hc => ?_)
  · rw [if_pos hc] at h
    refine lv_iconst (v := (-1:Int32)) C.1 C.2.1 dX12_output_26 (by decide) ?_
    exact rf_iret C G h dX12_output_27
  · rw [if_neg hc] at h
    refine lv_iload_n C.1 C.2.1 dX12_output_4 rfl (lv_at hl 1 rfl) ?_
    refine lv_aload_n C.1 C.2.1 dX12_output_5 rfl (lv_at hl 0 rfl) ?_
    refine gf_55 C G dX12_output_6 ?_
    refine lv_icmp_ge (tgt := 26) C.1 C.2.1 dX12_output_9 (by decide) (fun hc => ?_) (fun hc => ?_)
    · rw [if_pos hc] at h
      refine lv_iconst (v := (-1:Int32)) C.1 C.2.1 dX12_output_26 (by decide) ?_
      exact rf_iret C G h dX12_output_27
    · rw [if_neg hc] at h
      refine lv_iload_n C.1 C.2.1 dX12_output_12 rfl (lv_at hl 2 rfl) ?_
      refine lv_if_lt (tgt := 26) C.1 C.2.1 dX12_output_13 (by decide) (fun hc => ?_) (fun hc => ?_)
      · rw [if_pos hc] at h
        refine lv_iconst (v := (-1:Int32)) C.1 C.2.1 dX12_output_26 (by decide) ?_
        exact rf_iret C G h dX12_output_27
      · rw [if_neg hc] at h
        refine lv_iload_n C.1 C.2.1 dX12_output_16 rfl (lv_at hl 2 rfl) ?_
        refine lv_aload_n C.1 C.2.1 dX12_output_17 rfl (lv_at hl 0 rfl) ?_
        refine gf_96 C G dX12_output_18 ?_
        refine lv_iload_n C.1 C.2.1 dX12_output_21 rfl (lv_at hl 1 rfl) ?_
        obtain ⟨hi, h⟩ := ix_some h
        refine rf_iald C G 64 rfl (by decide) rfl rfl hi dX12_output_22 ?_
        refine lv_icmp_lt (tgt := 28) C.1 C.2.1 dX12_output_23 (by decide) (fun hc => ?_) (fun hc => ?_)
        · rw [if_pos hc] at h
          refine lv_iload_n C.1 C.2.1 dX12_output_28 rfl (lv_at hl 3 rfl) ?_
          refine lv_if_lt (tgt := 37) C.1 C.2.1 dX12_output_29 (by decide) (fun hc => ?_) (fun hc => ?_)
          · rw [if_pos hc] at h
            refine lv_bipush (v := (-2:Int32)) C.1 C.2.1 dX12_output_37 (by decide) ?_
            exact rf_iret C G h dX12_output_39
          · rw [if_neg hc] at h
            refine lv_iload_n C.1 C.2.1 dX12_output_32 rfl (lv_at hl 3 rfl) ?_
            refine lv_iconst (v := (1:Int32)) C.1 C.2.1 dX12_output_33 (by decide) ?_
            refine lv_icmp_le (tgt := 40) C.1 C.2.1 dX12_output_34 (by decide) (fun hc => ?_) (fun hc => ?_)
            · rw [if_pos hc] at h
              refine lv_aload_n C.1 C.2.1 dX12_output_40 rfl (lv_at hl 0 rfl) ?_
              refine gf_95 C G dX12_output_41 ?_
              refine lv_sipush (v := (200:Int32)) C.1 C.2.1 dX12_output_44 (by decide) ?_
              refine lv_iload_n C.1 C.2.1 dX12_output_47 rfl (lv_at hl 1 rfl) ?_
              refine lv_imul C.1 C.2.1 dX12_output_48 ?_
              refine lv_iload_n C.1 C.2.1 dX12_output_49 rfl (lv_at hl 2 rfl) ?_
              refine lv_iadd C.1 C.2.1 dX12_output_50 ?_
              obtain ⟨hi, h⟩ := ix_some h
              refine rf_zald C G 63 rfl (by decide) rfl rfl hi dX12_output_51 ?_
              refine vt_i h (fun x4_1 h => ?_)
              refine lv_istore (lv' := [(4, .int x4_1), (0, .ref h0), (1, .int x1), (2, .int x2), (3, .int x3)]) C.1 C.2.1 dX12_output_52 hl (by decide) rfl (fun ls hl => ?_)
              refine lv_iload_n C.1 C.2.1 dX12_output_54 rfl (lv_at hl 4 rfl) ?_
              refine lv_if_ne (tgt := 69) C.1 C.2.1 dX12_output_55 (by decide) (fun hc => ?_) (fun hc => ?_)
              · rw [if_neg hc] at h
                refine lv_iload C.1 C.2.1 dX12_output_69 (lv_at hl 0 rfl) ?_
                refine lv_if_eq (tgt := 93) C.1 C.2.1 dX12_output_71 (by decide) (fun hc => ?_) (fun hc => ?_)
                · rw [if_pos hc] at h
                  refine lv_aload_n C.1 C.2.1 dX12_output_93 rfl (lv_at hl 1 rfl) ?_
                  refine gf_94 C G dX12_output_94 ?_
                  refine lv_sipush (v := (200:Int32)) C.1 C.2.1 dX12_output_97 (by decide) ?_
                  refine lv_iload_n C.1 C.2.1 dX12_output_100 rfl (lv_at hl 2 rfl) ?_
                  refine lv_imul C.1 C.2.1 dX12_output_101 ?_
                  refine lv_iload_n C.1 C.2.1 dX12_output_102 rfl (lv_at hl 3 rfl) ?_
                  refine lv_iadd C.1 C.2.1 dX12_output_103 ?_
                  obtain ⟨hi, h⟩ := ix_some h
                  refine rf_iald C G 62 rfl (by decide) rfl rfl hi dX12_output_104 ?_
                  exact rf_iret C G h dX12_output_105
                · rw [if_neg hc] at h
                  refine lv_aload_n C.1 C.2.1 dX12_output_74 rfl (lv_at hl 1 rfl) ?_
                  refine lv_aload_n C.1 C.2.1 dX12_output_75 rfl (lv_at hl 1 rfl) ?_
                  refine gf_94 C G dX12_output_76 ?_
                  refine lv_sipush (v := (200:Int32)) C.1 C.2.1 dX12_output_79 (by decide) ?_
                  refine lv_iload_n C.1 C.2.1 dX12_output_82 rfl (lv_at hl 2 rfl) ?_
                  refine lv_imul C.1 C.2.1 dX12_output_83 ?_
                  refine lv_iload_n C.1 C.2.1 dX12_output_84 rfl (lv_at hl 3 rfl) ?_
                  refine lv_iadd C.1 C.2.1 dX12_output_85 ?_
                  obtain ⟨hi, h⟩ := ix_some h
                  refine rf_iald C G 62 rfl (by decide) rfl rfl hi dX12_output_86 ?_
                  obtain ⟨r_3, ρ_2, hq, h⟩ := bd2_some h
                  refine rf_callV (rest := []) C G cw_shows [.int (ρ.1 62 (((200:Int32) * x1) + x2).toNatClampNeg)] _ (kq_shows l D h0 hq) (Nat.le_of_ble_eq_true rfl) (Nat.le_of_ble_eq_true rfl) rfl rfl hl.1 (Nat.le_of_ble_eq_true rfl) (Nat.zero_le _) (Nat.zero_le _) dX12_output_87 (fun H locs G => ?_)
                  refine W.eq (g2 := F0 m 90 ls [.int r_3]) rfl ?_
                  refine lv_goto (tgt := 105) C.1 C.2.1 dX12_output_90 (by decide) ?_
                  exact rf_iret C G h dX12_output_105
              · rw [if_pos hc] at h
                refine lv_iload C.1 C.2.1 dX12_output_58 (lv_at hl 0 rfl) ?_
                refine lv_if_eq (tgt := 67) C.1 C.2.1 dX12_output_60 (by decide) (fun hc => ?_) (fun hc => ?_)
                · rw [if_pos hc] at h
                  refine lv_iconst (v := (0:Int32)) C.1 C.2.1 dX12_output_67 (by decide) ?_
                  exact rf_iret C G h dX12_output_68
                · rw [if_neg hc] at h
                  refine lv_iconst (v := (1:Int32)) C.1 C.2.1 dX12_output_63 (by decide) ?_
                  refine lv_goto (tgt := 68) C.1 C.2.1 dX12_output_64 (by decide) ?_
                  exact rf_iret C G h dX12_output_68
            · rw [if_neg hc] at h
              refine lv_bipush (v := (-2:Int32)) C.1 C.2.1 dX12_output_37 (by decide) ?_
              exact rf_iret C G h dX12_output_39
        · rw [if_neg hc] at h
          refine lv_iconst (v := (-1:Int32)) C.1 C.2.1 dX12_output_26 (by decide) ?_
          exact rf_iret C G h dX12_output_27
noncomputable def fq_output (x1 : Int32) (x2 : Int32) (x3 : Int32) (ρ : rf_S) : Option (Int32 × rf_S) := bq_output_0 x1 x2 x3 ρ
theorem kq_output (l : Launch) (D : rf_D) (h0 : Nat) {r : Int32} {x1 : Int32} {x2 : Int32} {x3 : Int32} {ρ ρ' : rf_S} (h : fq_output x1 x2 x3 ρ = some (r, ρ')) : rf_Met l D h0 yX12_output cX12_output 5 (some .int) 2 43 [.ref h0, .int x1, .int x2, .int x3] ρ (some (.int r)) ρ' :=
  rf_of rfl cc_output (Nat.le_of_ble_eq_true rfl) (fun p e s m args below meth c ls C G hl => wq_output_0 C h G hl)
abbrev cX12_state : ByteArray := prog_14_method_103_code
def yX12_state : MethodName := ⟨RX12, "state", "(II)I"⟩
theorem dX12_state_0 : decode cX12_state 0 = .ok (.iload_n 1, 1) := by decide +kernel
theorem dX12_state_1 : decode cX12_state 1 = .ok (.ifCond .lt 11, 3) := by decide +kernel
theorem dX12_state_4 : decode cX12_state 4 = .ok (.iload_n 1, 1) := by decide +kernel
theorem dX12_state_5 : decode cX12_state 5 = .ok (.aload_n 0, 1) := by decide +kernel
theorem dX12_state_6 : decode cX12_state 6 = .ok (.getfield 513, 3) := by decide +kernel
theorem dX12_state_9 : decode cX12_state 9 = .ok (.if_icmp .lt 5, 3) := by decide +kernel
theorem dX12_state_12 : decode cX12_state 12 = .ok (.iconst (-1), 1) := by decide +kernel
theorem dX12_state_13 : decode cX12_state 13 = .ok (.ireturn, 1) := by decide +kernel
theorem dX12_state_14 : decode cX12_state 14 = .ok (.iload_n 2, 1) := by decide +kernel
theorem dX12_state_15 : decode cX12_state 15 = .ok (.tableswitch 150 0 10 #[57, 64, 79, 86, 93, 108, 115, 122, 129, 136, 143], 57) := by decide +kernel
theorem dX12_state_72 : decode cX12_state 72 = .ok (.aload_n 0, 1) := by decide +kernel
theorem dX12_state_73 : decode cX12_state 73 = .ok (.getfield 185, 3) := by decide +kernel
theorem dX12_state_76 : decode cX12_state 76 = .ok (.iload_n 1, 1) := by decide +kernel
theorem dX12_state_77 : decode cX12_state 77 = .ok (.iaload, 1) := by decide +kernel
theorem dX12_state_78 : decode cX12_state 78 = .ok (.ireturn, 1) := by decide +kernel
theorem dX12_state_79 : decode cX12_state 79 = .ok (.aload_n 0, 1) := by decide +kernel
theorem dX12_state_80 : decode cX12_state 80 = .ok (.getfield 188, 3) := by decide +kernel
theorem dX12_state_83 : decode cX12_state 83 = .ok (.iload_n 1, 1) := by decide +kernel
theorem dX12_state_84 : decode cX12_state 84 = .ok (.baload, 1) := by decide +kernel
theorem dX12_state_85 : decode cX12_state 85 = .ok (.ifCond .eq 7, 3) := by decide +kernel
theorem dX12_state_88 : decode cX12_state 88 = .ok (.iconst 1, 1) := by decide +kernel
theorem dX12_state_89 : decode cX12_state 89 = .ok (.goto 4, 3) := by decide +kernel
theorem dX12_state_92 : decode cX12_state 92 = .ok (.iconst 0, 1) := by decide +kernel
theorem dX12_state_93 : decode cX12_state 93 = .ok (.ireturn, 1) := by decide +kernel
theorem dX12_state_94 : decode cX12_state 94 = .ok (.aload_n 0, 1) := by decide +kernel
theorem dX12_state_95 : decode cX12_state 95 = .ok (.getfield 191, 3) := by decide +kernel
theorem dX12_state_98 : decode cX12_state 98 = .ok (.iload_n 1, 1) := by decide +kernel
theorem dX12_state_99 : decode cX12_state 99 = .ok (.iaload, 1) := by decide +kernel
theorem dX12_state_100 : decode cX12_state 100 = .ok (.ireturn, 1) := by decide +kernel
theorem dX12_state_101 : decode cX12_state 101 = .ok (.aload_n 0, 1) := by decide +kernel
theorem dX12_state_102 : decode cX12_state 102 = .ok (.getfield 194, 3) := by decide +kernel
theorem dX12_state_105 : decode cX12_state 105 = .ok (.iload_n 1, 1) := by decide +kernel
theorem dX12_state_106 : decode cX12_state 106 = .ok (.iaload, 1) := by decide +kernel
theorem dX12_state_107 : decode cX12_state 107 = .ok (.ireturn, 1) := by decide +kernel
theorem dX12_state_108 : decode cX12_state 108 = .ok (.aload_n 0, 1) := by decide +kernel
theorem dX12_state_109 : decode cX12_state 109 = .ok (.getfield 200, 3) := by decide +kernel
theorem dX12_state_112 : decode cX12_state 112 = .ok (.iload_n 1, 1) := by decide +kernel
theorem dX12_state_113 : decode cX12_state 113 = .ok (.baload, 1) := by decide +kernel
theorem dX12_state_114 : decode cX12_state 114 = .ok (.ifCond .eq 7, 3) := by decide +kernel
theorem dX12_state_117 : decode cX12_state 117 = .ok (.iconst 1, 1) := by decide +kernel
theorem dX12_state_118 : decode cX12_state 118 = .ok (.goto 4, 3) := by decide +kernel
theorem dX12_state_121 : decode cX12_state 121 = .ok (.iconst 0, 1) := by decide +kernel
theorem dX12_state_122 : decode cX12_state 122 = .ok (.ireturn, 1) := by decide +kernel
theorem dX12_state_123 : decode cX12_state 123 = .ok (.aload_n 0, 1) := by decide +kernel
theorem dX12_state_124 : decode cX12_state 124 = .ok (.getfield 197, 3) := by decide +kernel
theorem dX12_state_127 : decode cX12_state 127 = .ok (.iload_n 1, 1) := by decide +kernel
theorem dX12_state_128 : decode cX12_state 128 = .ok (.iaload, 1) := by decide +kernel
theorem dX12_state_129 : decode cX12_state 129 = .ok (.ireturn, 1) := by decide +kernel
theorem dX12_state_130 : decode cX12_state 130 = .ok (.aload_n 0, 1) := by decide +kernel
theorem dX12_state_131 : decode cX12_state 131 = .ok (.getfield 206, 3) := by decide +kernel
theorem dX12_state_134 : decode cX12_state 134 = .ok (.iload_n 1, 1) := by decide +kernel
theorem dX12_state_135 : decode cX12_state 135 = .ok (.iaload, 1) := by decide +kernel
theorem dX12_state_136 : decode cX12_state 136 = .ok (.ireturn, 1) := by decide +kernel
theorem dX12_state_137 : decode cX12_state 137 = .ok (.aload_n 0, 1) := by decide +kernel
theorem dX12_state_138 : decode cX12_state 138 = .ok (.getfield 215, 3) := by decide +kernel
theorem dX12_state_141 : decode cX12_state 141 = .ok (.iload_n 1, 1) := by decide +kernel
theorem dX12_state_142 : decode cX12_state 142 = .ok (.iaload, 1) := by decide +kernel
theorem dX12_state_143 : decode cX12_state 143 = .ok (.ireturn, 1) := by decide +kernel
theorem dX12_state_144 : decode cX12_state 144 = .ok (.aload_n 0, 1) := by decide +kernel
theorem dX12_state_145 : decode cX12_state 145 = .ok (.getfield 221, 3) := by decide +kernel
theorem dX12_state_148 : decode cX12_state 148 = .ok (.iload_n 1, 1) := by decide +kernel
theorem dX12_state_149 : decode cX12_state 149 = .ok (.iaload, 1) := by decide +kernel
theorem dX12_state_150 : decode cX12_state 150 = .ok (.ireturn, 1) := by decide +kernel
theorem dX12_state_151 : decode cX12_state 151 = .ok (.aload_n 0, 1) := by decide +kernel
theorem dX12_state_152 : decode cX12_state 152 = .ok (.getfield 227, 3) := by decide +kernel
theorem dX12_state_155 : decode cX12_state 155 = .ok (.iload_n 1, 1) := by decide +kernel
theorem dX12_state_156 : decode cX12_state 156 = .ok (.iaload, 1) := by decide +kernel
theorem dX12_state_157 : decode cX12_state 157 = .ok (.ireturn, 1) := by decide +kernel
theorem dX12_state_158 : decode cX12_state 158 = .ok (.aload_n 0, 1) := by decide +kernel
theorem dX12_state_159 : decode cX12_state 159 = .ok (.getfield 230, 3) := by decide +kernel
theorem dX12_state_162 : decode cX12_state 162 = .ok (.iload_n 1, 1) := by decide +kernel
theorem dX12_state_163 : decode cX12_state 163 = .ok (.iaload, 1) := by decide +kernel
theorem dX12_state_164 : decode cX12_state 164 = .ok (.ireturn, 1) := by decide +kernel
theorem dX12_state_165 : decode cX12_state 165 = .ok (.bipush (-2), 2) := by decide +kernel
theorem dX12_state_167 : decode cX12_state 167 = .ok (.ireturn, 1) := by decide +kernel
theorem cc_state : Cond.code yX12_state cX12_state 3 (some .int) ∈ rf_tb := rf_at 2263 (by decide +kernel) (by decide +kernel)
noncomputable def bq_state_0 (x1 : Int32) (x2 : Int32) (ρ : rf_S) : Option (Int32 × rf_S) := (if x1 < 0 then some ((-1:Int32), ρ) else (if x1 < (ρ.1 0 55) then (if x2 = (0:Int32) then ix x1 16 (some ((ρ.1 54 x1.toNatClampNeg), ρ)) else if x2 = (1:Int32) then ix x1 16 ((if (ρ.1 55 x1.toNatClampNeg) = 0 then some ((0:Int32), ρ) else some ((1:Int32), ρ))) else if x2 = (2:Int32) then ix x1 16 (some ((ρ.1 56 x1.toNatClampNeg), ρ)) else if x2 = (3:Int32) then ix x1 16 (some ((ρ.1 57 x1.toNatClampNeg), ρ)) else if x2 = (4:Int32) then ix x1 16 ((if (ρ.1 59 x1.toNatClampNeg) = 0 then some ((0:Int32), ρ) else some ((1:Int32), ρ))) else if x2 = (5:Int32) then ix x1 16 (some ((ρ.1 58 x1.toNatClampNeg), ρ)) else if x2 = (6:Int32) then ix x1 16 (some ((ρ.1 61 x1.toNatClampNeg), ρ)) else if x2 = (7:Int32) then ix x1 16 (some ((ρ.1 64 x1.toNatClampNeg), ρ)) else if x2 = (8:Int32) then ix x1 16 (some ((ρ.1 66 x1.toNatClampNeg), ρ)) else if x2 = (9:Int32) then ix x1 16 (some ((ρ.1 68 x1.toNatClampNeg), ρ)) else if x2 = (10:Int32) then ix x1 16 (some ((ρ.1 69 x1.toNatClampNeg), ρ)) else some ((-2:Int32), ρ)) else some ((-1:Int32), ρ)))
set_option maxHeartbeats 4000000 in
theorem wq_state_0 (C : rf_C D p s m args meth c cX12_state 3 (some .int)) {r : Int32} {x1 : Int32} {x2 : Int32} {ρ ρ' : rf_S} {H : Heap} {locs : List Loc} {ls : Array Slot} (h : bq_state_0 x1 x2 ρ = some (r, ρ')) (G : rf_G D h0 s ρ H locs) (hl : lv_has ls 3 [(0, .ref h0), (1, .int x1), (2, .int x2)]) : W p l e ({ frames := 0, cells := 0, slots := 0, locals := 0 }) s m args below meth c H locs 0 0 (MQ below (rf_Q D h0 (some (.int r)) ρ') args s 0 0 (rf_A h0)) (F0 m 0 ls []) := by
  unfold bq_state_0 at h
  refine lv_iload_n C.1 C.2.1 dX12_state_0 rfl (lv_at hl 1 rfl) ?_
  refine lv_if_lt (tgt := 12) C.1 C.2.1 dX12_state_1 (by decide) (fun hc => ?_) (fun hc => ?_)
  · rw [if_pos hc] at h
    refine lv_iconst (v := (-1:Int32)) C.1 C.2.1 dX12_state_12 (by decide) ?_
    exact rf_iret C G h dX12_state_13
  · rw [if_neg hc] at h
    refine lv_iload_n C.1 C.2.1 dX12_state_4 rfl (lv_at hl 1 rfl) ?_
    refine lv_aload_n C.1 C.2.1 dX12_state_5 rfl (lv_at hl 0 rfl) ?_
    refine gf_55 C G dX12_state_6 ?_
    refine lv_icmp_lt (tgt := 14) C.1 C.2.1 dX12_state_9 (by decide) (fun hc => ?_) (fun hc => ?_)
    · rw [if_pos hc] at h
      refine lv_iload_n C.1 C.2.1 dX12_state_14 rfl (lv_at hl 2 rfl) ?_
      by_cases hk0 : x2 = (0:Int32)
      · rw [if_pos hk0] at h
        refine lv_tableIn (tgt := 72) C.1 C.2.1 dX12_state_15 (by rw [hk0]; decide) (by rw [hk0]; decide) (by rw [hk0]; rfl) (by decide) ?_
        refine lv_aload_n C.1 C.2.1 dX12_state_72 rfl (lv_at hl 0 rfl) ?_
        refine gf_86 C G dX12_state_73 ?_
        refine lv_iload_n C.1 C.2.1 dX12_state_76 rfl (lv_at hl 1 rfl) ?_
        obtain ⟨hi, h⟩ := ix_some h
        refine rf_iald C G 54 rfl (by decide) rfl rfl hi dX12_state_77 ?_
        exact rf_iret C G h dX12_state_78
      rw [if_neg hk0] at h
      by_cases hk1 : x2 = (1:Int32)
      · rw [if_pos hk1] at h
        refine lv_tableIn (tgt := 79) C.1 C.2.1 dX12_state_15 (by rw [hk1]; decide) (by rw [hk1]; decide) (by rw [hk1]; rfl) (by decide) ?_
        refine lv_aload_n C.1 C.2.1 dX12_state_79 rfl (lv_at hl 0 rfl) ?_
        refine gf_87 C G dX12_state_80 ?_
        refine lv_iload_n C.1 C.2.1 dX12_state_83 rfl (lv_at hl 1 rfl) ?_
        obtain ⟨hi, h⟩ := ix_some h
        refine rf_zald C G 55 rfl (by decide) rfl rfl hi dX12_state_84 ?_
        refine lv_if_eq (tgt := 92) C.1 C.2.1 dX12_state_85 (by decide) (fun hc => ?_) (fun hc => ?_)
        · rw [if_pos hc] at h
          refine lv_iconst (v := (0:Int32)) C.1 C.2.1 dX12_state_92 (by decide) ?_
          exact rf_iret C G h dX12_state_93
        · rw [if_neg hc] at h
          refine lv_iconst (v := (1:Int32)) C.1 C.2.1 dX12_state_88 (by decide) ?_
          refine lv_goto (tgt := 93) C.1 C.2.1 dX12_state_89 (by decide) ?_
          exact rf_iret C G h dX12_state_93
      rw [if_neg hk1] at h
      by_cases hk2 : x2 = (2:Int32)
      · rw [if_pos hk2] at h
        refine lv_tableIn (tgt := 94) C.1 C.2.1 dX12_state_15 (by rw [hk2]; decide) (by rw [hk2]; decide) (by rw [hk2]; rfl) (by decide) ?_
        refine lv_aload_n C.1 C.2.1 dX12_state_94 rfl (lv_at hl 0 rfl) ?_
        refine gf_88 C G dX12_state_95 ?_
        refine lv_iload_n C.1 C.2.1 dX12_state_98 rfl (lv_at hl 1 rfl) ?_
        obtain ⟨hi, h⟩ := ix_some h
        refine rf_iald C G 56 rfl (by decide) rfl rfl hi dX12_state_99 ?_
        exact rf_iret C G h dX12_state_100
      rw [if_neg hk2] at h
      by_cases hk3 : x2 = (3:Int32)
      · rw [if_pos hk3] at h
        refine lv_tableIn (tgt := 101) C.1 C.2.1 dX12_state_15 (by rw [hk3]; decide) (by rw [hk3]; decide) (by rw [hk3]; rfl) (by decide) ?_
        refine lv_aload_n C.1 C.2.1 dX12_state_101 rfl (lv_at hl 0 rfl) ?_
        refine gf_89 C G dX12_state_102 ?_
        refine lv_iload_n C.1 C.2.1 dX12_state_105 rfl (lv_at hl 1 rfl) ?_
        obtain ⟨hi, h⟩ := ix_some h
        refine rf_iald C G 57 rfl (by decide) rfl rfl hi dX12_state_106 ?_
        exact rf_iret C G h dX12_state_107
      rw [if_neg hk3] at h
      by_cases hk4 : x2 = (4:Int32)
      · rw [if_pos hk4] at h
        refine lv_tableIn (tgt := 108) C.1 C.2.1 dX12_state_15 (by rw [hk4]; decide) (by rw [hk4]; decide) (by rw [hk4]; rfl) (by decide) ?_
        refine lv_aload_n C.1 C.2.1 dX12_state_108 rfl (lv_at hl 0 rfl) ?_
        refine gf_91 C G dX12_state_109 ?_
        refine lv_iload_n C.1 C.2.1 dX12_state_112 rfl (lv_at hl 1 rfl) ?_
        obtain ⟨hi, h⟩ := ix_some h
        refine rf_zald C G 59 rfl (by decide) rfl rfl hi dX12_state_113 ?_
        refine lv_if_eq (tgt := 121) C.1 C.2.1 dX12_state_114 (by decide) (fun hc => ?_) (fun hc => ?_)
        · rw [if_pos hc] at h
          refine lv_iconst (v := (0:Int32)) C.1 C.2.1 dX12_state_121 (by decide) ?_
          exact rf_iret C G h dX12_state_122
        · rw [if_neg hc] at h
          refine lv_iconst (v := (1:Int32)) C.1 C.2.1 dX12_state_117 (by decide) ?_
          refine lv_goto (tgt := 122) C.1 C.2.1 dX12_state_118 (by decide) ?_
          exact rf_iret C G h dX12_state_122
      rw [if_neg hk4] at h
      by_cases hk5 : x2 = (5:Int32)
      · rw [if_pos hk5] at h
        refine lv_tableIn (tgt := 123) C.1 C.2.1 dX12_state_15 (by rw [hk5]; decide) (by rw [hk5]; decide) (by rw [hk5]; rfl) (by decide) ?_
        refine lv_aload_n C.1 C.2.1 dX12_state_123 rfl (lv_at hl 0 rfl) ?_
        refine gf_90 C G dX12_state_124 ?_
        refine lv_iload_n C.1 C.2.1 dX12_state_127 rfl (lv_at hl 1 rfl) ?_
        obtain ⟨hi, h⟩ := ix_some h
        refine rf_iald C G 58 rfl (by decide) rfl rfl hi dX12_state_128 ?_
        exact rf_iret C G h dX12_state_129
      rw [if_neg hk5] at h
      by_cases hk6 : x2 = (6:Int32)
      · rw [if_pos hk6] at h
        refine lv_tableIn (tgt := 130) C.1 C.2.1 dX12_state_15 (by rw [hk6]; decide) (by rw [hk6]; decide) (by rw [hk6]; rfl) (by decide) ?_
        refine lv_aload_n C.1 C.2.1 dX12_state_130 rfl (lv_at hl 0 rfl) ?_
        refine gf_93 C G dX12_state_131 ?_
        refine lv_iload_n C.1 C.2.1 dX12_state_134 rfl (lv_at hl 1 rfl) ?_
        obtain ⟨hi, h⟩ := ix_some h
        refine rf_iald C G 61 rfl (by decide) rfl rfl hi dX12_state_135 ?_
        exact rf_iret C G h dX12_state_136
      rw [if_neg hk6] at h
      by_cases hk7 : x2 = (7:Int32)
      · rw [if_pos hk7] at h
        refine lv_tableIn (tgt := 137) C.1 C.2.1 dX12_state_15 (by rw [hk7]; decide) (by rw [hk7]; decide) (by rw [hk7]; rfl) (by decide) ?_
        refine lv_aload_n C.1 C.2.1 dX12_state_137 rfl (lv_at hl 0 rfl) ?_
        refine gf_96 C G dX12_state_138 ?_
        refine lv_iload_n C.1 C.2.1 dX12_state_141 rfl (lv_at hl 1 rfl) ?_
        obtain ⟨hi, h⟩ := ix_some h
        refine rf_iald C G 64 rfl (by decide) rfl rfl hi dX12_state_142 ?_
        exact rf_iret C G h dX12_state_143
      rw [if_neg hk7] at h
      by_cases hk8 : x2 = (8:Int32)
      · rw [if_pos hk8] at h
        refine lv_tableIn (tgt := 144) C.1 C.2.1 dX12_state_15 (by rw [hk8]; decide) (by rw [hk8]; decide) (by rw [hk8]; rfl) (by decide) ?_
        refine lv_aload_n C.1 C.2.1 dX12_state_144 rfl (lv_at hl 0 rfl) ?_
        refine gf_98 C G dX12_state_145 ?_
        refine lv_iload_n C.1 C.2.1 dX12_state_148 rfl (lv_at hl 1 rfl) ?_
        obtain ⟨hi, h⟩ := ix_some h
        refine rf_iald C G 66 rfl (by decide) rfl rfl hi dX12_state_149 ?_
        exact rf_iret C G h dX12_state_150
      rw [if_neg hk8] at h
      by_cases hk9 : x2 = (9:Int32)
      · rw [if_pos hk9] at h
        refine lv_tableIn (tgt := 151) C.1 C.2.1 dX12_state_15 (by rw [hk9]; decide) (by rw [hk9]; decide) (by rw [hk9]; rfl) (by decide) ?_
        refine lv_aload_n C.1 C.2.1 dX12_state_151 rfl (lv_at hl 0 rfl) ?_
        refine gf_100 C G dX12_state_152 ?_
        refine lv_iload_n C.1 C.2.1 dX12_state_155 rfl (lv_at hl 1 rfl) ?_
        obtain ⟨hi, h⟩ := ix_some h
        refine rf_iald C G 68 rfl (by decide) rfl rfl hi dX12_state_156 ?_
        exact rf_iret C G h dX12_state_157
      rw [if_neg hk9] at h
      by_cases hk10 : x2 = (10:Int32)
      · rw [if_pos hk10] at h
        refine lv_tableIn (tgt := 158) C.1 C.2.1 dX12_state_15 (by rw [hk10]; decide) (by rw [hk10]; decide) (by rw [hk10]; rfl) (by decide) ?_
        refine lv_aload_n C.1 C.2.1 dX12_state_158 rfl (lv_at hl 0 rfl) ?_
        refine gf_101 C G dX12_state_159 ?_
        refine lv_iload_n C.1 C.2.1 dX12_state_162 rfl (lv_at hl 1 rfl) ?_
        obtain ⟨hi, h⟩ := ix_some h
        refine rf_iald C G 69 rfl (by decide) rfl rfl hi dX12_state_163 ?_
        exact rf_iret C G h dX12_state_164
      rw [if_neg hk10] at h
      refine lv_tableOut (tgt := 165) C.1 C.2.1 dX12_state_15 ?_ (by decide) ?_
      · rcases Int.lt_or_le x2.toInt 0 with q | q
        · exact Or.inl q
        · rcases Int.lt_or_le 10 x2.toInt with q2 | q2
          · exact Or.inr q2
          · exfalso
            have hd : x2.toInt = (0 : Int) ∨ x2.toInt = (1 : Int) ∨ x2.toInt = (2 : Int) ∨ x2.toInt = (3 : Int) ∨ x2.toInt = (4 : Int) ∨ x2.toInt = (5 : Int) ∨ x2.toInt = (6 : Int) ∨ x2.toInt = (7 : Int) ∨ x2.toInt = (8 : Int) ∨ x2.toInt = (9 : Int) ∨ x2.toInt = (10 : Int) := by omega
            rcases hd with e | e | e | e | e | e | e | e | e | e | e
            · exact hk0 (Int32.toInt_inj.mp (e.trans (by decide)))
            · exact hk1 (Int32.toInt_inj.mp (e.trans (by decide)))
            · exact hk2 (Int32.toInt_inj.mp (e.trans (by decide)))
            · exact hk3 (Int32.toInt_inj.mp (e.trans (by decide)))
            · exact hk4 (Int32.toInt_inj.mp (e.trans (by decide)))
            · exact hk5 (Int32.toInt_inj.mp (e.trans (by decide)))
            · exact hk6 (Int32.toInt_inj.mp (e.trans (by decide)))
            · exact hk7 (Int32.toInt_inj.mp (e.trans (by decide)))
            · exact hk8 (Int32.toInt_inj.mp (e.trans (by decide)))
            · exact hk9 (Int32.toInt_inj.mp (e.trans (by decide)))
            · exact hk10 (Int32.toInt_inj.mp (e.trans (by decide)))
      · refine lv_bipush (v := (-2:Int32)) C.1 C.2.1 dX12_state_165 (by decide) ?_
        exact rf_iret C G h dX12_state_167
    · rw [if_neg hc] at h
      refine lv_iconst (v := (-1:Int32)) C.1 C.2.1 dX12_state_12 (by decide) ?_
      exact rf_iret C G h dX12_state_13
noncomputable def fq_state (x1 : Int32) (x2 : Int32) (ρ : rf_S) : Option (Int32 × rf_S) := bq_state_0 x1 x2 ρ
theorem kq_state (l : Launch) (D : rf_D) (h0 : Nat) {r : Int32} {x1 : Int32} {x2 : Int32} {ρ ρ' : rf_S} (h : fq_state x1 x2 ρ = some (r, ρ')) : rf_Met l D h0 yX12_state cX12_state 3 (some .int) 0 0 [.ref h0, .int x1, .int x2] ρ (some (.int r)) ρ' :=
  rf_of rfl cc_state (Nat.le_of_ble_eq_true rfl) (fun p e s m args below meth c ls C G hl => wq_state_0 C h G hl)
abbrev cX12_register : ByteArray := prog_14_method_104_code
def yX12_register : MethodName := ⟨RX12, "register", "(II)I"⟩
theorem dX12_register_0 : decode cX12_register 0 = .ok (.iload_n 1, 1) := by decide +kernel
theorem dX12_register_1 : decode cX12_register 1 = .ok (.ifCond .lt 35, 3) := by decide +kernel
theorem dX12_register_4 : decode cX12_register 4 = .ok (.iload_n 1, 1) := by decide +kernel
theorem dX12_register_5 : decode cX12_register 5 = .ok (.aload_n 0, 1) := by decide +kernel
theorem dX12_register_6 : decode cX12_register 6 = .ok (.getfield 513, 3) := by decide +kernel
theorem dX12_register_9 : decode cX12_register 9 = .ok (.if_icmp .ge 27, 3) := by decide +kernel
theorem dX12_register_12 : decode cX12_register 12 = .ok (.iload_n 2, 1) := by decide +kernel
theorem dX12_register_13 : decode cX12_register 13 = .ok (.ifCond .lt 23, 3) := by decide +kernel
theorem dX12_register_16 : decode cX12_register 16 = .ok (.iload_n 2, 1) := by decide +kernel
theorem dX12_register_17 : decode cX12_register 17 = .ok (.bipush 16, 2) := by decide +kernel
theorem dX12_register_19 : decode cX12_register 19 = .ok (.if_icmp .ge 17, 3) := by decide +kernel
theorem dX12_register_22 : decode cX12_register 22 = .ok (.aload_n 0, 1) := by decide +kernel
theorem dX12_register_23 : decode cX12_register 23 = .ok (.getfield 182, 3) := by decide +kernel
theorem dX12_register_26 : decode cX12_register 26 = .ok (.bipush 16, 2) := by decide +kernel
theorem dX12_register_28 : decode cX12_register 28 = .ok (.iload_n 1, 1) := by decide +kernel
theorem dX12_register_29 : decode cX12_register 29 = .ok (.imul, 1) := by decide +kernel
theorem dX12_register_30 : decode cX12_register 30 = .ok (.iload_n 2, 1) := by decide +kernel
theorem dX12_register_31 : decode cX12_register 31 = .ok (.iadd, 1) := by decide +kernel
theorem dX12_register_32 : decode cX12_register 32 = .ok (.iaload, 1) := by decide +kernel
theorem dX12_register_33 : decode cX12_register 33 = .ok (.goto 4, 3) := by decide +kernel
theorem dX12_register_36 : decode cX12_register 36 = .ok (.iconst 0, 1) := by decide +kernel
theorem dX12_register_37 : decode cX12_register 37 = .ok (.ireturn, 1) := by decide +kernel
theorem cc_register : Cond.code yX12_register cX12_register 3 (some .int) ∈ rf_tb := rf_at 2267 (by decide +kernel) (by decide +kernel)
noncomputable def bq_register_0 (x1 : Int32) (x2 : Int32) (ρ : rf_S) : Option (Int32 × rf_S) := (if x1 < 0 then some ((0:Int32), ρ) else (if (ρ.1 0 55) ≤ x1 then some ((0:Int32), ρ) else (if x2 < 0 then some ((0:Int32), ρ) else (if (16:Int32) ≤ x2 then some ((0:Int32), ρ) else ix (((16:Int32) * x1) + x2) 256 (some ((ρ.1 53 (((16:Int32) * x1) + x2).toNatClampNeg), ρ))))))
set_option maxHeartbeats 4000000 in
theorem wq_register_0 (C : rf_C D p s m args meth c cX12_register 3 (some .int)) {r : Int32} {x1 : Int32} {x2 : Int32} {ρ ρ' : rf_S} {H : Heap} {locs : List Loc} {ls : Array Slot} (h : bq_register_0 x1 x2 ρ = some (r, ρ')) (G : rf_G D h0 s ρ H locs) (hl : lv_has ls 3 [(0, .ref h0), (1, .int x1), (2, .int x2)]) : W p l e ({ frames := 0, cells := 0, slots := 0, locals := 0 }) s m args below meth c H locs 0 0 (MQ below (rf_Q D h0 (some (.int r)) ρ') args s 0 0 (rf_A h0)) (F0 m 0 ls []) := by
  unfold bq_register_0 at h
  refine lv_iload_n C.1 C.2.1 dX12_register_0 rfl (lv_at hl 1 rfl) ?_
  refine lv_if_lt (tgt := 36) C.1 C.2.1 dX12_register_1 (by decide) (fun hc => ?_) (fun hc => ?_)
  · rw [if_pos hc] at h
    refine lv_iconst (v := (0:Int32)) C.1 C.2.1 dX12_register_36 (by decide) ?_
    exact rf_iret C G h dX12_register_37
  · rw [if_neg hc] at h
    refine lv_iload_n C.1 C.2.1 dX12_register_4 rfl (lv_at hl 1 rfl) ?_
    refine lv_aload_n C.1 C.2.1 dX12_register_5 rfl (lv_at hl 0 rfl) ?_
    refine gf_55 C G dX12_register_6 ?_
    refine lv_icmp_ge (tgt := 36) C.1 C.2.1 dX12_register_9 (by decide) (fun hc => ?_) (fun hc => ?_)
    · rw [if_pos hc] at h
      refine lv_iconst (v := (0:Int32)) C.1 C.2.1 dX12_register_36 (by decide) ?_
      exact rf_iret C G h dX12_register_37
    · rw [if_neg hc] at h
      refine lv_iload_n C.1 C.2.1 dX12_register_12 rfl (lv_at hl 2 rfl) ?_
      refine lv_if_lt (tgt := 36) C.1 C.2.1 dX12_register_13 (by decide) (fun hc => ?_) (fun hc => ?_)
      · rw [if_pos hc] at h
        refine lv_iconst (v := (0:Int32)) C.1 C.2.1 dX12_register_36 (by decide) ?_
        exact rf_iret C G h dX12_register_37
      · rw [if_neg hc] at h
        refine lv_iload_n C.1 C.2.1 dX12_register_16 rfl (lv_at hl 2 rfl) ?_
        refine lv_bipush (v := (16:Int32)) C.1 C.2.1 dX12_register_17 (by decide) ?_
        refine lv_icmp_ge (tgt := 36) C.1 C.2.1 dX12_register_19 (by decide) (fun hc => ?_) (fun hc => ?_)
        · rw [if_pos hc] at h
          refine lv_iconst (v := (0:Int32)) C.1 C.2.1 dX12_register_36 (by decide) ?_
          exact rf_iret C G h dX12_register_37
        · rw [if_neg hc] at h
          refine lv_aload_n C.1 C.2.1 dX12_register_22 rfl (lv_at hl 0 rfl) ?_
          refine gf_85 C G dX12_register_23 ?_
          refine lv_bipush (v := (16:Int32)) C.1 C.2.1 dX12_register_26 (by decide) ?_
          refine lv_iload_n C.1 C.2.1 dX12_register_28 rfl (lv_at hl 1 rfl) ?_
          refine lv_imul C.1 C.2.1 dX12_register_29 ?_
          refine lv_iload_n C.1 C.2.1 dX12_register_30 rfl (lv_at hl 2 rfl) ?_
          refine lv_iadd C.1 C.2.1 dX12_register_31 ?_
          obtain ⟨hi, h⟩ := ix_some h
          refine rf_iald C G 53 rfl (by decide) rfl rfl hi dX12_register_32 ?_
          refine lv_goto (tgt := 37) C.1 C.2.1 dX12_register_33 (by decide) ?_
          exact rf_iret C G h dX12_register_37
noncomputable def fq_register (x1 : Int32) (x2 : Int32) (ρ : rf_S) : Option (Int32 × rf_S) := bq_register_0 x1 x2 ρ
theorem kq_register (l : Launch) (D : rf_D) (h0 : Nat) {r : Int32} {x1 : Int32} {x2 : Int32} {ρ ρ' : rf_S} (h : fq_register x1 x2 ρ = some (r, ρ')) : rf_Met l D h0 yX12_register cX12_register 3 (some .int) 0 0 [.ref h0, .int x1, .int x2] ρ (some (.int r)) ρ' :=
  rf_of rfl cc_register (Nat.le_of_ble_eq_true rfl) (fun p e s m args below meth c ls C G hl => wq_register_0 C h G hl)
abbrev cX12_memory : ByteArray := prog_14_method_105_code
def yX12_memory : MethodName := ⟨RX12, "memory", "(II)I"⟩
theorem dX12_memory_0 : decode cX12_memory 0 = .ok (.iload_n 1, 1) := by decide +kernel
theorem dX12_memory_1 : decode cX12_memory 1 = .ok (.ifCond .lt 41, 3) := by decide +kernel
theorem dX12_memory_4 : decode cX12_memory 4 = .ok (.iload_n 1, 1) := by decide +kernel
theorem dX12_memory_5 : decode cX12_memory 5 = .ok (.aload_n 0, 1) := by decide +kernel
theorem dX12_memory_6 : decode cX12_memory 6 = .ok (.getfield 513, 3) := by decide +kernel
theorem dX12_memory_9 : decode cX12_memory 9 = .ok (.if_icmp .ge 33, 3) := by decide +kernel
theorem dX12_memory_12 : decode cX12_memory 12 = .ok (.iload_n 2, 1) := by decide +kernel
theorem dX12_memory_13 : decode cX12_memory 13 = .ok (.ifCond .lt 29, 3) := by decide +kernel
theorem dX12_memory_16 : decode cX12_memory 16 = .ok (.iload_n 2, 1) := by decide +kernel
theorem dX12_memory_17 : decode cX12_memory 17 = .ok (.aload_n 0, 1) := by decide +kernel
theorem dX12_memory_18 : decode cX12_memory 18 = .ok (.getfield 110, 3) := by decide +kernel
theorem dX12_memory_21 : decode cX12_memory 21 = .ok (.iload_n 1, 1) := by decide +kernel
theorem dX12_memory_22 : decode cX12_memory 22 = .ok (.iaload, 1) := by decide +kernel
theorem dX12_memory_23 : decode cX12_memory 23 = .ok (.if_icmp .ge 19, 3) := by decide +kernel
theorem dX12_memory_26 : decode cX12_memory 26 = .ok (.aload_n 0, 1) := by decide +kernel
theorem dX12_memory_27 : decode cX12_memory 27 = .ok (.getfield 179, 3) := by decide +kernel
theorem dX12_memory_30 : decode cX12_memory 30 = .ok (.aload_n 0, 1) := by decide +kernel
theorem dX12_memory_31 : decode cX12_memory 31 = .ok (.getfield 107, 3) := by decide +kernel
theorem dX12_memory_34 : decode cX12_memory 34 = .ok (.iload_n 1, 1) := by decide +kernel
theorem dX12_memory_35 : decode cX12_memory 35 = .ok (.iaload, 1) := by decide +kernel
theorem dX12_memory_36 : decode cX12_memory 36 = .ok (.iload_n 2, 1) := by decide +kernel
theorem dX12_memory_37 : decode cX12_memory 37 = .ok (.iadd, 1) := by decide +kernel
theorem dX12_memory_38 : decode cX12_memory 38 = .ok (.iaload, 1) := by decide +kernel
theorem dX12_memory_39 : decode cX12_memory 39 = .ok (.goto 4, 3) := by decide +kernel
theorem dX12_memory_42 : decode cX12_memory 42 = .ok (.iconst 0, 1) := by decide +kernel
theorem dX12_memory_43 : decode cX12_memory 43 = .ok (.ireturn, 1) := by decide +kernel
theorem cc_memory : Cond.code yX12_memory cX12_memory 3 (some .int) ∈ rf_tb := rf_at 2271 (by decide +kernel) (by decide +kernel)
noncomputable def bq_memory_0 (x1 : Int32) (x2 : Int32) (ρ : rf_S) : Option (Int32 × rf_S) := (if x1 < 0 then some ((0:Int32), ρ) else (if (ρ.1 0 55) ≤ x1 then some ((0:Int32), ρ) else (if x2 < 0 then some ((0:Int32), ρ) else ix x1 8 ((if (ρ.1 29 x1.toNatClampNeg) ≤ x2 then some ((0:Int32), ρ) else ix x1 8 (ix ((ρ.1 28 x1.toNatClampNeg) + x2) 16384 (some ((ρ.1 52 ((ρ.1 28 x1.toNatClampNeg) + x2).toNatClampNeg), ρ))))))))
set_option maxHeartbeats 4000000 in
theorem wq_memory_0 (C : rf_C D p s m args meth c cX12_memory 3 (some .int)) {r : Int32} {x1 : Int32} {x2 : Int32} {ρ ρ' : rf_S} {H : Heap} {locs : List Loc} {ls : Array Slot} (h : bq_memory_0 x1 x2 ρ = some (r, ρ')) (G : rf_G D h0 s ρ H locs) (hl : lv_has ls 3 [(0, .ref h0), (1, .int x1), (2, .int x2)]) : W p l e ({ frames := 0, cells := 0, slots := 0, locals := 0 }) s m args below meth c H locs 0 0 (MQ below (rf_Q D h0 (some (.int r)) ρ') args s 0 0 (rf_A h0)) (F0 m 0 ls []) := by
  unfold bq_memory_0 at h
  refine lv_iload_n C.1 C.2.1 dX12_memory_0 rfl (lv_at hl 1 rfl) ?_
  refine lv_if_lt (tgt := 42) C.1 C.2.1 dX12_memory_1 (by decide) (fun hc => ?_) (fun hc => ?_)
  · rw [if_pos hc] at h
    refine lv_iconst (v := (0:Int32)) C.1 C.2.1 dX12_memory_42 (by decide) ?_
    exact rf_iret C G h dX12_memory_43
  · rw [if_neg hc] at h
    refine lv_iload_n C.1 C.2.1 dX12_memory_4 rfl (lv_at hl 1 rfl) ?_
    refine lv_aload_n C.1 C.2.1 dX12_memory_5 rfl (lv_at hl 0 rfl) ?_
    refine gf_55 C G dX12_memory_6 ?_
    refine lv_icmp_ge (tgt := 42) C.1 C.2.1 dX12_memory_9 (by decide) (fun hc => ?_) (fun hc => ?_)
    · rw [if_pos hc] at h
      refine lv_iconst (v := (0:Int32)) C.1 C.2.1 dX12_memory_42 (by decide) ?_
      exact rf_iret C G h dX12_memory_43
    · rw [if_neg hc] at h
      refine lv_iload_n C.1 C.2.1 dX12_memory_12 rfl (lv_at hl 2 rfl) ?_
      refine lv_if_lt (tgt := 42) C.1 C.2.1 dX12_memory_13 (by decide) (fun hc => ?_) (fun hc => ?_)
      · rw [if_pos hc] at h
        refine lv_iconst (v := (0:Int32)) C.1 C.2.1 dX12_memory_42 (by decide) ?_
        exact rf_iret C G h dX12_memory_43
      · rw [if_neg hc] at h
        refine lv_iload_n C.1 C.2.1 dX12_memory_16 rfl (lv_at hl 2 rfl) ?_
        refine lv_aload_n C.1 C.2.1 dX12_memory_17 rfl (lv_at hl 0 rfl) ?_
        refine gf_57 C G dX12_memory_18 ?_
        refine lv_iload_n C.1 C.2.1 dX12_memory_21 rfl (lv_at hl 1 rfl) ?_
        obtain ⟨hi, h⟩ := ix_some h
        refine rf_iald C G 29 rfl (by decide) rfl rfl hi dX12_memory_22 ?_
        refine lv_icmp_ge (tgt := 42) C.1 C.2.1 dX12_memory_23 (by decide) (fun hc => ?_) (fun hc => ?_)
        · rw [if_pos hc] at h
          refine lv_iconst (v := (0:Int32)) C.1 C.2.1 dX12_memory_42 (by decide) ?_
          exact rf_iret C G h dX12_memory_43
        · rw [if_neg hc] at h
          refine lv_aload_n C.1 C.2.1 dX12_memory_26 rfl (lv_at hl 0 rfl) ?_
          refine gf_84 C G dX12_memory_27 ?_
          refine lv_aload_n C.1 C.2.1 dX12_memory_30 rfl (lv_at hl 0 rfl) ?_
          refine gf_56 C G dX12_memory_31 ?_
          refine lv_iload_n C.1 C.2.1 dX12_memory_34 rfl (lv_at hl 1 rfl) ?_
          obtain ⟨hi, h⟩ := ix_some h
          refine rf_iald C G 28 rfl (by decide) rfl rfl hi dX12_memory_35 ?_
          refine lv_iload_n C.1 C.2.1 dX12_memory_36 rfl (lv_at hl 2 rfl) ?_
          refine lv_iadd C.1 C.2.1 dX12_memory_37 ?_
          obtain ⟨hi, h⟩ := ix_some h
          refine rf_iald C G 52 rfl (by decide) rfl rfl hi dX12_memory_38 ?_
          refine lv_goto (tgt := 43) C.1 C.2.1 dX12_memory_39 (by decide) ?_
          exact rf_iret C G h dX12_memory_43
noncomputable def fq_memory (x1 : Int32) (x2 : Int32) (ρ : rf_S) : Option (Int32 × rf_S) := bq_memory_0 x1 x2 ρ
theorem kq_memory (l : Launch) (D : rf_D) (h0 : Nat) {r : Int32} {x1 : Int32} {x2 : Int32} {ρ ρ' : rf_S} (h : fq_memory x1 x2 ρ = some (r, ρ')) : rf_Met l D h0 yX12_memory cX12_memory 3 (some .int) 0 0 [.ref h0, .int x1, .int x2] ρ (some (.int r)) ρ' :=
  rf_of rfl cc_memory (Nat.le_of_ble_eq_true rfl) (fun p e s m args below meth c ls C G hl => wq_memory_0 C h G hl)
end RQ14
