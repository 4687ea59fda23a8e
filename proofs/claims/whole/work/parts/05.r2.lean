section RQ1
variable {p : Program} {l : Launch} {e : Env} {s : State} {m : MethodId} {args : Array Value} {below : List Frame} {meth : Method} {c : Code} {D : rf_D} {h0 : Nat}
abbrev cX12_use : ByteArray := prog_14_method_13_code
def yX12_use : MethodName := ⟨RX12, "use", "(II)V"⟩
theorem dX12_use_0 : decode cX12_use 0 = .ok (.aload_n 0, 1) := by decide +kernel
theorem dX12_use_1 : decode cX12_use 1 = .ok (.getfield 38, 3) := by decide +kernel
theorem dX12_use_4 : decode cX12_use 4 = .ok (.iload_n 2, 1) := by decide +kernel
theorem dX12_use_5 : decode cX12_use 5 = .ok (.aload_n 0, 1) := by decide +kernel
theorem dX12_use_6 : decode cX12_use 6 = .ok (.getfield 34, 3) := by decide +kernel
theorem dX12_use_9 : decode cX12_use 9 = .ok (.iload_n 1, 1) := by decide +kernel
theorem dX12_use_10 : decode cX12_use 10 = .ok (.iaload, 1) := by decide +kernel
theorem dX12_use_11 : decode cX12_use 11 = .ok (.iastore, 1) := by decide +kernel
theorem dX12_use_12 : decode cX12_use 12 = .ok (.aload_n 0, 1) := by decide +kernel
theorem dX12_use_13 : decode cX12_use 13 = .ok (.getfield 34, 3) := by decide +kernel
theorem dX12_use_16 : decode cX12_use 16 = .ok (.iload_n 1, 1) := by decide +kernel
theorem dX12_use_17 : decode cX12_use 17 = .ok (.iload_n 2, 1) := by decide +kernel
theorem dX12_use_18 : decode cX12_use 18 = .ok (.iastore, 1) := by decide +kernel
theorem dX12_use_19 : decode cX12_use 19 = .ok (.return_, 1) := by decide +kernel
theorem cc_use : Cond.code yX12_use cX12_use 3 none ∈ rf_tb := rf_at 2331 (by decide +kernel) (by decide +kernel)
theorem cw_use : rf_wV yX12_use cX12_use 3 none 321 2 := ⟨⟨rf_at 2328 (by decide +kernel) (by decide +kernel), rf_at 2330 (by decide +kernel) (by decide +kernel), rf_sel (q := (yX12_use, 122)) 146 (by decide +kernel) (by decide +kernel), cc_use⟩, rfl, by decide +kernel⟩
noncomputable def bq_use_0 (x1 : Int32) (x2 : Int32) (ρ : rf_S) : Option (rf_S) := ix x1 112000 (ix x2 336000 (vl (rf_w ρ 9 x2.toNatClampNeg (ρ.1 8 x1.toNatClampNeg)) (fun ρ_1 => ix x1 112000 (vl (rf_w ρ_1 8 x1.toNatClampNeg x2) (fun ρ_2 => some ρ_2)))))
set_option maxHeartbeats 4000000 in
theorem wq_use_0 (C : rf_C D p s m args meth c cX12_use 3 none) {x1 : Int32} {x2 : Int32} {ρ ρ' : rf_S} {H : Heap} {locs : List Loc} {ls : Array Slot} (h : bq_use_0 x1 x2 ρ = some ρ') (G : rf_G D h0 s ρ H locs) (hl : lv_has ls 3 [(0, .ref h0), (1, .int x1), (2, .int x2)]) : W p l e ({ frames := 0, cells := 0, slots := 0, locals := 0 }) s m args below meth c H locs 0 0 (MQ below (rf_Q D h0 none ρ') args s 0 0 (rf_A h0)) (F0 m 0 ls []) := by
  unfold bq_use_0 at h
  refine lv_aload_n C.1 C.2.1 dX12_use_0 rfl (lv_at hl 0 rfl) ?_
  refine gf_8 C G dX12_use_1 ?_
  refine lv_iload_n C.1 C.2.1 dX12_use_4 rfl (lv_at hl 2 rfl) ?_
  refine lv_aload_n C.1 C.2.1 dX12_use_5 rfl (lv_at hl 0 rfl) ?_
  refine gf_7 C G dX12_use_6 ?_
  refine lv_iload_n C.1 C.2.1 dX12_use_9 rfl (lv_at hl 1 rfl) ?_
  obtain ⟨hi, h⟩ := ix_some h
  refine rf_iald C G 8 rfl (by decide) rfl rfl hi dX12_use_10 ?_
  obtain ⟨hi, h⟩ := ix_some h
  refine rf_iast C G 9 rfl (by decide) rfl rfl hi dX12_use_11 (fun H locs G => ?_)
  refine rf_nm G h (fun ρ_1 G h => ?_)
  refine lv_aload_n C.1 C.2.1 dX12_use_12 rfl (lv_at hl 0 rfl) ?_
  refine gf_7 C G dX12_use_13 ?_
  refine lv_iload_n C.1 C.2.1 dX12_use_16 rfl (lv_at hl 1 rfl) ?_
  refine lv_iload_n C.1 C.2.1 dX12_use_17 rfl (lv_at hl 2 rfl) ?_
  obtain ⟨hi, h⟩ := ix_some h
  refine rf_iast C G 8 rfl (by decide) rfl rfl hi dX12_use_18 (fun H locs G => ?_)
  refine rf_nm G h (fun ρ_2 G h => ?_)
  exact rf_vret C G h dX12_use_19
noncomputable def fq_use (x1 : Int32) (x2 : Int32) (ρ : rf_S) : Option (rf_S) := bq_use_0 x1 x2 ρ
theorem kq_use (l : Launch) (D : rf_D) (h0 : Nat) {x1 : Int32} {x2 : Int32} {ρ ρ' : rf_S} (h : fq_use x1 x2 ρ = some ρ') : rf_Met l D h0 yX12_use cX12_use 3 none 0 0 [.ref h0, .int x1, .int x2] ρ none ρ' :=
  rf_of rfl cc_use (Nat.le_of_ble_eq_true rfl) (fun p e s m args below meth c ls C G hl => wq_use_0 C h G hl)
abbrev cX12_link : ByteArray := prog_14_method_14_code
def yX12_link : MethodName := ⟨RX12, "link", "()V"⟩
theorem dX12_link_0 : decode cX12_link 0 = .ok (.iconst 0, 1) := by decide +kernel
theorem dX12_link_1 : decode cX12_link 1 = .ok (.istore_n 1, 1) := by decide +kernel
theorem dX12_link_2 : decode cX12_link 2 = .ok (.iload_n 1, 1) := by decide +kernel
theorem dX12_link_3 : decode cX12_link 3 = .ok (.aload_n 0, 1) := by decide +kernel
theorem dX12_link_4 : decode cX12_link 4 = .ok (.getfield 293, 3) := by decide +kernel
theorem dX12_link_7 : decode cX12_link 7 = .ok (.if_icmp .ge 16, 3) := by decide +kernel
theorem dX12_link_10 : decode cX12_link 10 = .ok (.aload_n 0, 1) := by decide +kernel
theorem dX12_link_11 : decode cX12_link 11 = .ok (.getfield 34, 3) := by decide +kernel
theorem dX12_link_14 : decode cX12_link 14 = .ok (.iload_n 1, 1) := by decide +kernel
theorem dX12_link_15 : decode cX12_link 15 = .ok (.iconst (-1), 1) := by decide +kernel
theorem dX12_link_16 : decode cX12_link 16 = .ok (.iastore, 1) := by decide +kernel
theorem dX12_link_17 : decode cX12_link 17 = .ok (.iinc 1 1, 3) := by decide +kernel
theorem dX12_link_20 : decode cX12_link 20 = .ok (.goto (-18), 3) := by decide +kernel
theorem dX12_link_23 : decode cX12_link 23 = .ok (.iconst 0, 1) := by decide +kernel
theorem dX12_link_24 : decode cX12_link 24 = .ok (.istore_n 1, 1) := by decide +kernel
theorem dX12_link_25 : decode cX12_link 25 = .ok (.iload_n 1, 1) := by decide +kernel
theorem dX12_link_26 : decode cX12_link 26 = .ok (.aload_n 0, 1) := by decide +kernel
theorem dX12_link_27 : decode cX12_link 27 = .ok (.getfield 293, 3) := by decide +kernel
theorem dX12_link_30 : decode cX12_link 30 = .ok (.if_icmp .ge 81, 3) := by decide +kernel
theorem dX12_link_33 : decode cX12_link 33 = .ok (.aload_n 0, 1) := by decide +kernel
theorem dX12_link_34 : decode cX12_link 34 = .ok (.getfield 8, 3) := by decide +kernel
theorem dX12_link_37 : decode cX12_link 37 = .ok (.iload_n 1, 1) := by decide +kernel
theorem dX12_link_38 : decode cX12_link 38 = .ok (.baload, 1) := by decide +kernel
theorem dX12_link_39 : decode cX12_link 39 = .ok (.istore_n 2, 1) := by decide +kernel
theorem dX12_link_40 : decode cX12_link 40 = .ok (.iload_n 2, 1) := by decide +kernel
theorem dX12_link_41 : decode cX12_link 41 = .ok (.iconst 2, 1) := by decide +kernel
theorem dX12_link_42 : decode cX12_link 42 = .ok (.if_icmp .le 63, 3) := by decide +kernel
theorem dX12_link_45 : decode cX12_link 45 = .ok (.aload_n 0, 1) := by decide +kernel
theorem dX12_link_46 : decode cX12_link 46 = .ok (.aload_n 0, 1) := by decide +kernel
theorem dX12_link_47 : decode cX12_link 47 = .ok (.getfield 14, 3) := by decide +kernel
theorem dX12_link_50 : decode cX12_link 50 = .ok (.iload_n 1, 1) := by decide +kernel
theorem dX12_link_51 : decode cX12_link 51 = .ok (.iaload, 1) := by decide +kernel
theorem dX12_link_52 : decode cX12_link 52 = .ok (.iconst 3, 1) := by decide +kernel
theorem dX12_link_53 : decode cX12_link 53 = .ok (.iload_n 1, 1) := by decide +kernel
theorem dX12_link_54 : decode cX12_link 54 = .ok (.imul, 1) := by decide +kernel
theorem dX12_link_55 : decode cX12_link 55 = .ok (.invokevirtual 321, 3) := by decide +kernel
theorem dX12_link_58 : decode cX12_link 58 = .ok (.iload_n 2, 1) := by decide +kernel
theorem dX12_link_59 : decode cX12_link 59 = .ok (.iconst 4, 1) := by decide +kernel
theorem dX12_link_60 : decode cX12_link 60 = .ok (.if_icmp .eq 24, 3) := by decide +kernel
theorem dX12_link_63 : decode cX12_link 63 = .ok (.iload_n 2, 1) := by decide +kernel
theorem dX12_link_64 : decode cX12_link 64 = .ok (.bipush 6, 2) := by decide +kernel
theorem dX12_link_66 : decode cX12_link 66 = .ok (.if_icmp .eq 18, 3) := by decide +kernel
theorem dX12_link_69 : decode cX12_link 69 = .ok (.aload_n 0, 1) := by decide +kernel
theorem dX12_link_70 : decode cX12_link 70 = .ok (.aload_n 0, 1) := by decide +kernel
theorem dX12_link_71 : decode cX12_link 71 = .ok (.getfield 18, 3) := by decide +kernel
theorem dX12_link_74 : decode cX12_link 74 = .ok (.iload_n 1, 1) := by decide +kernel
theorem dX12_link_75 : decode cX12_link 75 = .ok (.iaload, 1) := by decide +kernel
theorem dX12_link_76 : decode cX12_link 76 = .ok (.iconst 3, 1) := by decide +kernel
theorem dX12_link_77 : decode cX12_link 77 = .ok (.iload_n 1, 1) := by decide +kernel
theorem dX12_link_78 : decode cX12_link 78 = .ok (.imul, 1) := by decide +kernel
theorem dX12_link_79 : decode cX12_link 79 = .ok (.iconst 1, 1) := by decide +kernel
theorem dX12_link_80 : decode cX12_link 80 = .ok (.iadd, 1) := by decide +kernel
theorem dX12_link_81 : decode cX12_link 81 = .ok (.invokevirtual 321, 3) := by decide +kernel
theorem dX12_link_84 : decode cX12_link 84 = .ok (.iload_n 2, 1) := by decide +kernel
theorem dX12_link_85 : decode cX12_link 85 = .ok (.bipush 8, 2) := by decide +kernel
theorem dX12_link_87 : decode cX12_link 87 = .ok (.if_icmp .ne 18, 3) := by decide +kernel
theorem dX12_link_90 : decode cX12_link 90 = .ok (.aload_n 0, 1) := by decide +kernel
theorem dX12_link_91 : decode cX12_link 91 = .ok (.aload_n 0, 1) := by decide +kernel
theorem dX12_link_92 : decode cX12_link 92 = .ok (.getfield 21, 3) := by decide +kernel
theorem dX12_link_95 : decode cX12_link 95 = .ok (.iload_n 1, 1) := by decide +kernel
theorem dX12_link_96 : decode cX12_link 96 = .ok (.iaload, 1) := by decide +kernel
theorem dX12_link_97 : decode cX12_link 97 = .ok (.iconst 3, 1) := by decide +kernel
theorem dX12_link_98 : decode cX12_link 98 = .ok (.iload_n 1, 1) := by decide +kernel
theorem dX12_link_99 : decode cX12_link 99 = .ok (.imul, 1) := by decide +kernel
theorem dX12_link_100 : decode cX12_link 100 = .ok (.iconst 2, 1) := by decide +kernel
theorem dX12_link_101 : decode cX12_link 101 = .ok (.iadd, 1) := by decide +kernel
theorem dX12_link_102 : decode cX12_link 102 = .ok (.invokevirtual 321, 3) := by decide +kernel
theorem dX12_link_105 : decode cX12_link 105 = .ok (.iinc 1 1, 3) := by decide +kernel
theorem dX12_link_108 : decode cX12_link 108 = .ok (.goto (-83), 3) := by decide +kernel
theorem dX12_link_111 : decode cX12_link 111 = .ok (.return_, 1) := by decide +kernel
theorem cc_link : Cond.code yX12_link cX12_link 3 none ∈ rf_tb := rf_at 2327 (by decide +kernel) (by decide +kernel)
theorem cw_link : rf_wV yX12_link cX12_link 3 none 328 0 := ⟨⟨rf_at 2324 (by decide +kernel) (by decide +kernel), rf_at 2326 (by decide +kernel) (by decide +kernel), rf_sel (q := (yX12_link, 122)) 145 (by decide +kernel) (by decide +kernel), cc_link⟩, rfl, by decide +kernel⟩
noncomputable def lq_link_2 (x1 : Int32) (ρ : rf_S) : Option ((Int32 × rf_S) ⊕ (Int32 × rf_S)) := (if (ρ.1 0 12) ≤ x1 then some (.inr (x1, ρ)) else ix x1 112000 (vl (rf_w ρ 8 x1.toNatClampNeg (-1:Int32)) (fun ρ_1 => vl (x1 + (1:Int32)) (fun x1_2 => some (.inl (x1_2, ρ_1))))))
noncomputable def bq_link_105i25 (x1 : Int32) (ρ : rf_S) : Option ((Int32 × rf_S) ⊕ (Int32 × rf_S)) := vl (x1 + (1:Int32)) (fun x1_4 => some (.inl (x1_4, ρ)))
set_option maxHeartbeats 4000000 in
theorem wq_link_105i25 (C : rf_C D p s m args meth c cX12_link 3 none) {x1 : Int32} {ρ ρ' : rf_S} {H : Heap} {locs : List Loc} {ls : Array Slot} {o : (Int32 × rf_S) ⊕ (Int32 × rf_S)} (h : bq_link_105i25 x1 ρ = some o) (hP : Sum.elim (fun z : (Int32 × rf_S) => ∀ (H : Heap) (locs : List Loc) (ls : Array Slot), rf_G D h0 s z.2 H locs → lv_has ls 3 [(0, .ref h0), (1, .int z.1)] → W p l e ({ frames := 1, cells := 0, slots := 0, locals := 22 }) s m args below meth c H locs 0 0 (MQ below (rf_Q D h0 none ρ') args s 0 0 (rf_A h0)) (F0 m 25 ls [])) (fun z : (Int32 × rf_S) => ∀ (H : Heap) (locs : List Loc) (ls : Array Slot), rf_G D h0 s z.2 H locs → lv_has ls 3 [(0, .ref h0), (1, .int z.1)] → W p l e ({ frames := 1, cells := 0, slots := 0, locals := 22 }) s m args below meth c H locs 0 0 (MQ below (rf_Q D h0 none ρ') args s 0 0 (rf_A h0)) (F0 m 111 ls [])) o) (G : rf_G D h0 s ρ H locs) (hl : lv_has ls 3 [(0, .ref h0), (1, .int x1)]) : W p l e ({ frames := 1, cells := 0, slots := 0, locals := 22 }) s m args below meth c H locs 0 0 (MQ below (rf_Q D h0 none ρ') args s 0 0 (rf_A h0)) (F0 m 105 ls []) := by
  unfold bq_link_105i25 at h
  refine vl_ex h (fun x1_4 ey h => ?_)
  refine lv_iinc (v := x1_4) (lv' := [(1, .int x1_4), (0, .ref h0)]) C.1 C.2.1 dX12_link_105 hl (k := 1) rfl (by rw [ey]; rfl) (by decide) rfl (fun ls hl => ?_)
  refine lv_goto (tgt := 25) C.1 C.2.1 dX12_link_108 (by decide) ?_
  cases h
  exact hP _ _ _ G (lv_sub hl [1, 0] rfl)
noncomputable def bq_link_84i25 (x1 : Int32) (x2 : Int32) (ρ : rf_S) : Option ((Int32 × rf_S) ⊕ (Int32 × rf_S)) := (if x2 = (8:Int32) then ix x1 112000 (bd1 (fq_use (ρ.1 4 x1.toNatClampNeg) (((3:Int32) * x1) + (2:Int32)) ρ) (fun ρ_6 => bq_link_105i25 x1 ρ_6)) else bq_link_105i25 x1 ρ)
set_option maxHeartbeats 4000000 in
theorem wq_link_84i25 (C : rf_C D p s m args meth c cX12_link 3 none) {x1 : Int32} {x2 : Int32} {ρ ρ' : rf_S} {H : Heap} {locs : List Loc} {ls : Array Slot} {o : (Int32 × rf_S) ⊕ (Int32 × rf_S)} (h : bq_link_84i25 x1 x2 ρ = some o) (hP : Sum.elim (fun z : (Int32 × rf_S) => ∀ (H : Heap) (locs : List Loc) (ls : Array Slot), rf_G D h0 s z.2 H locs → lv_has ls 3 [(0, .ref h0), (1, .int z.1)] → W p l e ({ frames := 1, cells := 0, slots := 0, locals := 22 }) s m args below meth c H locs 0 0 (MQ below (rf_Q D h0 none ρ') args s 0 0 (rf_A h0)) (F0 m 25 ls [])) (fun z : (Int32 × rf_S) => ∀ (H : Heap) (locs : List Loc) (ls : Array Slot), rf_G D h0 s z.2 H locs → lv_has ls 3 [(0, .ref h0), (1, .int z.1)] → W p l e ({ frames := 1, cells := 0, slots := 0, locals := 22 }) s m args below meth c H locs 0 0 (MQ below (rf_Q D h0 none ρ') args s 0 0 (rf_A h0)) (F0 m 111 ls [])) o) (G : rf_G D h0 s ρ H locs) (hl : lv_has ls 3 [(0, .ref h0), (1, .int x1), (2, .int x2)]) : W p l e ({ frames := 1, cells := 0, slots := 0, locals := 22 }) s m args below meth c H locs 0 0 (MQ below (rf_Q D h0 none ρ') args s 0 0 (rf_A h0)) (F0 m 84 ls []) := by
  unfold bq_link_84i25 at h
  refine lv_iload_n C.1 C.2.1 dX12_link_84 rfl (lv_at hl 2 rfl) ?_
  refine lv_bipush (v := (8:Int32)) C.1 C.2.1 dX12_link_85 (by decide) ?_
  refine lv_icmp_ne (tgt := 105) C.1 C.2.1 dX12_link_87 (by decide) (fun hc => ?_) (fun hc => ?_)
  · rw [if_neg hc] at h
    exact wq_link_105i25 C h hP G (lv_sub hl [0, 1] rfl)
  · rw [if_pos hc] at h
    refine lv_aload_n C.1 C.2.1 dX12_link_90 rfl (lv_at hl 0 rfl) ?_
    refine lv_aload_n C.1 C.2.1 dX12_link_91 rfl (lv_at hl 0 rfl) ?_
    refine gf_3 C G dX12_link_92 ?_
    refine lv_iload_n C.1 C.2.1 dX12_link_95 rfl (lv_at hl 1 rfl) ?_
    obtain ⟨hi, h⟩ := ix_some h
    refine rf_iald C G 4 rfl (by decide) rfl rfl hi dX12_link_96 ?_
    refine lv_iconst (v := (3:Int32)) C.1 C.2.1 dX12_link_97 (by decide) ?_
    refine lv_iload_n C.1 C.2.1 dX12_link_98 rfl (lv_at hl 1 rfl) ?_
    refine lv_imul C.1 C.2.1 dX12_link_99 ?_
    refine lv_iconst (v := (2:Int32)) C.1 C.2.1 dX12_link_100 (by decide) ?_
    refine lv_iadd C.1 C.2.1 dX12_link_101 ?_
    obtain ⟨ρ_6, hq, h⟩ := bd1_some h
    refine rf_callV (rest := []) C G cw_use [.int (ρ.1 4 x1.toNatClampNeg), .int (((3:Int32) * x1) + (2:Int32))] _ (kq_use l D h0 hq) (Nat.le_of_ble_eq_true rfl) (Nat.le_of_ble_eq_true rfl) rfl rfl hl.1 (Nat.le_of_ble_eq_true rfl) (Nat.zero_le _) (Nat.zero_le _) dX12_link_102 (fun H locs G => ?_)
    refine W.eq (g2 := F0 m 105 ls []) rfl ?_
    exact wq_link_105i25 C h hP G (lv_sub hl [0, 1] rfl)
noncomputable def lq_link_25 (x1 : Int32) (ρ : rf_S) : Option ((Int32 × rf_S) ⊕ (Int32 × rf_S)) := (if (ρ.1 0 12) ≤ x1 then some (.inr (x1, ρ)) else ix x1 112000 (vl (ρ.1 1 x1.toNatClampNeg) (fun x2_3 => (if x2_3 ≤ (2:Int32) then bq_link_105i25 x1 ρ else ix x1 112000 (bd1 (fq_use (ρ.1 2 x1.toNatClampNeg) ((3:Int32) * x1) ρ) (fun ρ_5 => (if x2_3 = (4:Int32) then bq_link_84i25 x1 x2_3 ρ_5 else (if x2_3 = (6:Int32) then bq_link_84i25 x1 x2_3 ρ_5 else ix x1 112000 (bd1 (fq_use (ρ_5.1 3 x1.toNatClampNeg) (((3:Int32) * x1) + (1:Int32)) ρ_5) (fun ρ_7 => bq_link_84i25 x1 x2_3 ρ_7))))))))))
noncomputable def eq_link_25 (x1 : Int32) (ρ : rf_S) : Option (rf_S) := some ρ
noncomputable def bq_link_25 (x1 : Int32) (ρ : rf_S) : Option (rf_S) := (lp (fun z : (Int32 × rf_S) => lq_link_25  z.1 z.2) (x1, ρ)).bind (fun z => eq_link_25  z.1 z.2)
set_option maxHeartbeats 4000000 in
theorem wq_link_25 (C : rf_C D p s m args meth c cX12_link 3 none) {x1 : Int32} {ρ ρ' : rf_S} {H : Heap} {locs : List Loc} {ls : Array Slot} (h : bq_link_25 x1 ρ = some ρ') (G : rf_G D h0 s ρ H locs) (hl : lv_has ls 3 [(0, .ref h0), (1, .int x1)]) : W p l e ({ frames := 1, cells := 0, slots := 0, locals := 22 }) s m args below meth c H locs 0 0 (MQ below (rf_Q D h0 none ρ') args s 0 0 (rf_A h0)) (F0 m 25 ls []) := by
  unfold bq_link_25 at h
  obtain ⟨y, hy, h⟩ := bd_some h
  have hE : (fun z : (Int32 × rf_S) => ∀ (H : Heap) (locs : List Loc) (ls : Array Slot), rf_G D h0 s z.2 H locs → lv_has ls 3 [(0, .ref h0), (1, .int z.1)] → W p l e ({ frames := 1, cells := 0, slots := 0, locals := 22 }) s m args below meth c H locs 0 0 (MQ below (rf_Q D h0 none ρ') args s 0 0 (rf_A h0)) (F0 m 111 ls [])) y := by
    intro H locs ls G hl
    obtain ⟨x1, ρ⟩ := y
    dsimp only at h G hl
    unfold eq_link_25 at h
    exact rf_vret C G h dX12_link_111
  refine lp_recE (fun z : (Int32 × rf_S) => ∀ (H : Heap) (locs : List Loc) (ls : Array Slot), rf_G D h0 s z.2 H locs → lv_has ls 3 [(0, .ref h0), (1, .int z.1)] → W p l e ({ frames := 1, cells := 0, slots := 0, locals := 22 }) s m args below meth c H locs 0 0 (MQ below (rf_Q D h0 none ρ') args s 0 0 (rf_A h0)) (F0 m 25 ls [])) (fun z : (Int32 × rf_S) => ∀ (H : Heap) (locs : List Loc) (ls : Array Slot), rf_G D h0 s z.2 H locs → lv_has ls 3 [(0, .ref h0), (1, .int z.1)] → W p l e ({ frames := 1, cells := 0, slots := 0, locals := 22 }) s m args below meth c H locs 0 0 (MQ below (rf_Q D h0 none ρ') args s 0 0 (rf_A h0)) (F0 m 111 ls [])) ?_ _ _ hy hE _ _ _ G hl
  clear hE hy G hl h
  intro z o h hP H locs ls G hl
  obtain ⟨x1, ρ⟩ := z
  dsimp only at h G hl
  unfold lq_link_25 at h
  refine lv_iload_n C.1 C.2.1 dX12_link_25 rfl (lv_at hl 1 rfl) ?_
  refine lv_aload_n C.1 C.2.1 dX12_link_26 rfl (lv_at hl 0 rfl) ?_
  refine gf_12 C G dX12_link_27 ?_
  refine lv_icmp_ge (tgt := 111) C.1 C.2.1 dX12_link_30 (by decide) (fun hc => ?_) (fun hc => ?_)
  · rw [if_pos hc] at h
    cases h
    exact hP _ _ _ G (lv_sub hl [0, 1] rfl)
  · rw [if_neg hc] at h
    refine lv_aload_n C.1 C.2.1 dX12_link_33 rfl (lv_at hl 0 rfl) ?_
    refine gf_0 C G dX12_link_34 ?_
    refine lv_iload_n C.1 C.2.1 dX12_link_37 rfl (lv_at hl 1 rfl) ?_
    obtain ⟨hi, h⟩ := ix_some h
    refine rf_bald C G 1 rfl (by decide) rfl rfl hi dX12_link_38 ?_
    refine vt_i h (fun x2_3 h => ?_)
    refine lv_istore_n (lv' := [(2, .int x2_3), (0, .ref h0), (1, .int x1)]) C.1 C.2.1 dX12_link_39 rfl hl (by decide) rfl (fun ls hl => ?_)
    refine lv_iload_n C.1 C.2.1 dX12_link_40 rfl (lv_at hl 0 rfl) ?_
    refine lv_iconst (v := (2:Int32)) C.1 C.2.1 dX12_link_41 (by decide) ?_
    refine lv_icmp_le (tgt := 105) C.1 C.2.1 dX12_link_42 (by decide) (fun hc => ?_) (fun hc => ?_)
    · rw [if_pos hc] at h
      exact wq_link_105i25 C h hP G (lv_sub hl [1, 2] rfl)
    · rw [if_neg hc] at h
      refine lv_aload_n C.1 C.2.1 dX12_link_45 rfl (lv_at hl 1 rfl) ?_
      refine lv_aload_n C.1 C.2.1 dX12_link_46 rfl (lv_at hl 1 rfl) ?_
      refine gf_1 C G dX12_link_47 ?_
      refine lv_iload_n C.1 C.2.1 dX12_link_50 rfl (lv_at hl 2 rfl) ?_
      obtain ⟨hi, h⟩ := ix_some h
      refine rf_iald C G 2 rfl (by decide) rfl rfl hi dX12_link_51 ?_
      refine lv_iconst (v := (3:Int32)) C.1 C.2.1 dX12_link_52 (by decide) ?_
      refine lv_iload_n C.1 C.2.1 dX12_link_53 rfl (lv_at hl 2 rfl) ?_
      refine lv_imul C.1 C.2.1 dX12_link_54 ?_
      obtain ⟨ρ_5, hq, h⟩ := bd1_some h
      refine rf_callV (rest := []) C G cw_use [.int (ρ.1 2 x1.toNatClampNeg), .int ((3:Int32) * x1)] _ (kq_use l D h0 hq) (Nat.le_of_ble_eq_true rfl) (Nat.le_of_ble_eq_true rfl) rfl rfl hl.1 (Nat.le_of_ble_eq_true rfl) (Nat.zero_le _) (Nat.zero_le _) dX12_link_55 (fun H locs G => ?_)
      refine W.eq (g2 := F0 m 58 ls []) rfl ?_
      refine lv_iload_n C.1 C.2.1 dX12_link_58 rfl (lv_at hl 0 rfl) ?_
      refine lv_iconst (v := (4:Int32)) C.1 C.2.1 dX12_link_59 (by decide) ?_
      refine lv_icmp_eq (tgt := 84) C.1 C.2.1 dX12_link_60 (by decide) (fun hc => ?_) (fun hc => ?_)
      · rw [if_pos hc] at h
        exact wq_link_84i25 C h hP G (lv_sub hl [1, 2, 0] rfl)
      · rw [if_neg hc] at h
        refine lv_iload_n C.1 C.2.1 dX12_link_63 rfl (lv_at hl 0 rfl) ?_
        refine lv_bipush (v := (6:Int32)) C.1 C.2.1 dX12_link_64 (by decide) ?_
        refine lv_icmp_eq (tgt := 84) C.1 C.2.1 dX12_link_66 (by decide) (fun hc => ?_) (fun hc => ?_)
        · rw [if_pos hc] at h
          exact wq_link_84i25 C h hP G (lv_sub hl [1, 2, 0] rfl)
        · rw [if_neg hc] at h
          refine lv_aload_n C.1 C.2.1 dX12_link_69 rfl (lv_at hl 1 rfl) ?_
          refine lv_aload_n C.1 C.2.1 dX12_link_70 rfl (lv_at hl 1 rfl) ?_
          refine gf_2 C G dX12_link_71 ?_
          refine lv_iload_n C.1 C.2.1 dX12_link_74 rfl (lv_at hl 2 rfl) ?_
          obtain ⟨hi, h⟩ := ix_some h
          refine rf_iald C G 3 rfl (by decide) rfl rfl hi dX12_link_75 ?_
          refine lv_iconst (v := (3:Int32)) C.1 C.2.1 dX12_link_76 (by decide) ?_
          refine lv_iload_n C.1 C.2.1 dX12_link_77 rfl (lv_at hl 2 rfl) ?_
          refine lv_imul C.1 C.2.1 dX12_link_78 ?_
          refine lv_iconst (v := (1:Int32)) C.1 C.2.1 dX12_link_79 (by decide) ?_
          refine lv_iadd C.1 C.2.1 dX12_link_80 ?_
          obtain ⟨ρ_7, hq, h⟩ := bd1_some h
          refine rf_callV (rest := []) C G cw_use [.int (ρ_5.1 3 x1.toNatClampNeg), .int (((3:Int32) * x1) + (1:Int32))] _ (kq_use l D h0 hq) (Nat.le_of_ble_eq_true rfl) (Nat.le_of_ble_eq_true rfl) rfl rfl hl.1 (Nat.le_of_ble_eq_true rfl) (Nat.zero_le _) (Nat.zero_le _) dX12_link_81 (fun H locs G => ?_)
          refine W.eq (g2 := F0 m 84 ls []) rfl ?_
          exact wq_link_84i25 C h hP G (lv_sub hl [1, 2, 0] rfl)
noncomputable def eq_link_2 (x1 : Int32) (ρ : rf_S) : Option (rf_S) := bq_link_25 (0:Int32) ρ
noncomputable def bq_link_2 (x1 : Int32) (ρ : rf_S) : Option (rf_S) := (lp (fun z : (Int32 × rf_S) => lq_link_2  z.1 z.2) (x1, ρ)).bind (fun z => eq_link_2  z.1 z.2)
set_option maxHeartbeats 4000000 in
theorem wq_link_2 (C : rf_C D p s m args meth c cX12_link 3 none) {x1 : Int32} {ρ ρ' : rf_S} {H : Heap} {locs : List Loc} {ls : Array Slot} (h : bq_link_2 x1 ρ = some ρ') (G : rf_G D h0 s ρ H locs) (hl : lv_has ls 3 [(0, .ref h0), (1, .int x1)]) : W p l e ({ frames := 1, cells := 0, slots := 0, locals := 22 }) s m args below meth c H locs 0 0 (MQ below (rf_Q D h0 none ρ') args s 0 0 (rf_A h0)) (F0 m 2 ls []) := by
  unfold bq_link_2 at h
  obtain ⟨y, hy, h⟩ := bd_some h
  have hE : (fun z : (Int32 × rf_S) => ∀ (H : Heap) (locs : List Loc) (ls : Array Slot), rf_G D h0 s z.2 H locs → lv_has ls 3 [(0, .ref h0), (1, .int z.1)] → W p l e ({ frames := 1, cells := 0, slots := 0, locals := 22 }) s m args below meth c H locs 0 0 (MQ below (rf_Q D h0 none ρ') args s 0 0 (rf_A h0)) (F0 m 23 ls [])) y := by
    intro H locs ls G hl
    obtain ⟨x1, ρ⟩ := y
    dsimp only at h G hl
    unfold eq_link_2 at h
    refine lv_iconst (v := (0:Int32)) C.1 C.2.1 dX12_link_23 (by decide) ?_
    refine lv_istore_n (lv' := [(1, .int (0:Int32)), (0, .ref h0)]) C.1 C.2.1 dX12_link_24 rfl hl (by decide) rfl (fun ls hl => ?_)
    exact wq_link_25 C h G (lv_sub hl [1, 0] rfl)
  refine lp_recE (fun z : (Int32 × rf_S) => ∀ (H : Heap) (locs : List Loc) (ls : Array Slot), rf_G D h0 s z.2 H locs → lv_has ls 3 [(0, .ref h0), (1, .int z.1)] → W p l e ({ frames := 1, cells := 0, slots := 0, locals := 22 }) s m args below meth c H locs 0 0 (MQ below (rf_Q D h0 none ρ') args s 0 0 (rf_A h0)) (F0 m 2 ls [])) (fun z : (Int32 × rf_S) => ∀ (H : Heap) (locs : List Loc) (ls : Array Slot), rf_G D h0 s z.2 H locs → lv_has ls 3 [(0, .ref h0), (1, .int z.1)] → W p l e ({ frames := 1, cells := 0, slots := 0, locals := 22 }) s m args below meth c H locs 0 0 (MQ below (rf_Q D h0 none ρ') args s 0 0 (rf_A h0)) (F0 m 23 ls [])) ?_ _ _ hy hE _ _ _ G hl
  clear hE hy G hl h
  intro z o h hP H locs ls G hl
  obtain ⟨x1, ρ⟩ := z
  dsimp only at h G hl
  unfold lq_link_2 at h
  refine lv_iload_n C.1 C.2.1 dX12_link_2 rfl (lv_at hl 1 rfl) ?_
  refine lv_aload_n C.1 C.2.1 dX12_link_3 rfl (lv_at hl 0 rfl) ?_
  refine gf_12 C G dX12_link_4 ?_
  refine lv_icmp_ge (tgt := 23) C.1 C.2.1 dX12_link_7 (by decide) (fun hc => ?_) (fun hc => ?_)
  · rw [if_pos hc] at h
    cases h
    exact hP _ _ _ G (lv_sub hl [0, 1] rfl)
  · rw [if_neg hc] at h
    refine lv_aload_n C.1 C.2.1 dX12_link_10 rfl (lv_at hl 0 rfl) ?_
    refine gf_7 C G dX12_link_11 ?_
    refine lv_iload_n C.1 C.2.1 dX12_link_14 rfl (lv_at hl 1 rfl) ?_
    refine lv_iconst (v := (-1:Int32)) C.1 C.2.1 dX12_link_15 (by decide) ?_
    obtain ⟨hi, h⟩ := ix_some h
    refine rf_iast C G 8 rfl (by decide) rfl rfl hi dX12_link_16 (fun H locs G => ?_)
    refine rf_nm G h (fun ρ_1 G h => ?_)
    refine vl_ex h (fun x1_2 ey h => ?_)
    refine lv_iinc (v := x1_2) (lv' := [(1, .int x1_2), (0, .ref h0)]) C.1 C.2.1 dX12_link_17 hl (k := 1) rfl (by rw [ey]; rfl) (by decide) rfl (fun ls hl => ?_)
    refine lv_goto (tgt := 2) C.1 C.2.1 dX12_link_20 (by decide) ?_
    cases h
    exact hP _ _ _ G (lv_sub hl [1, 0] rfl)
noncomputable def bq_link_0  (ρ : rf_S) : Option (rf_S) := bq_link_2 (0:Int32) ρ
set_option maxHeartbeats 4000000 in
theorem wq_link_0 (C : rf_C D p s m args meth c cX12_link 3 none) {ρ ρ' : rf_S} {H : Heap} {locs : List Loc} {ls : Array Slot} (h : bq_link_0 ρ = some ρ') (G : rf_G D h0 s ρ H locs) (hl : lv_has ls 3 [(0, .ref h0)]) : W p l e ({ frames := 1, cells := 0, slots := 0, locals := 22 }) s m args below meth c H locs 0 0 (MQ below (rf_Q D h0 none ρ') args s 0 0 (rf_A h0)) (F0 m 0 ls []) := by
  unfold bq_link_0 at h
  refine lv_iconst (v := (0:Int32)) C.1 C.2.1 dX12_link_0 (by decide) ?_
  refine lv_istore_n (lv' := [(1, .int (0:Int32)), (0, .ref h0)]) C.1 C.2.1 dX12_link_1 rfl hl (by decide) rfl (fun ls hl => ?_)
  exact wq_link_2 C h G (lv_sub hl [1, 0] rfl)
noncomputable def fq_link  (ρ : rf_S) : Option (rf_S) := bq_link_0 ρ
theorem kq_link (l : Launch) (D : rf_D) (h0 : Nat) {ρ ρ' : rf_S} (h : fq_link ρ = some ρ') : rf_Met l D h0 yX12_link cX12_link 3 none 1 22 [.ref h0] ρ none ρ' :=
  rf_of rfl cc_link (Nat.le_of_ble_eq_true rfl) (fun p e s m args below meth c ls C G hl => wq_link_0 C h G hl)
abbrev cX12_open : ByteArray := prog_14_method_15_code
def yX12_open : MethodName := ⟨RX12, "open", "(II)V"⟩
theorem dX12_open_0 : decode cX12_open 0 = .ok (.aload_n 0, 1) := by decide +kernel
theorem dX12_open_1 : decode cX12_open 1 = .ok (.getfield 8, 3) := by decide +kernel
theorem dX12_open_4 : decode cX12_open 4 = .ok (.iload_n 1, 1) := by decide +kernel
theorem dX12_open_5 : decode cX12_open 5 = .ok (.baload, 1) := by decide +kernel
theorem dX12_open_6 : decode cX12_open 6 = .ok (.istore_n 3, 1) := by decide +kernel
theorem dX12_open_7 : decode cX12_open 7 = .ok (.iload_n 3, 1) := by decide +kernel
theorem dX12_open_8 : decode cX12_open 8 = .ok (.iconst 3, 1) := by decide +kernel
theorem dX12_open_9 : decode cX12_open 9 = .ok (.if_icmp .ne 16, 3) := by decide +kernel
theorem dX12_open_12 : decode cX12_open 12 = .ok (.aload_n 0, 1) := by decide +kernel
theorem dX12_open_13 : decode cX12_open 13 = .ok (.aload_n 0, 1) := by decide +kernel
theorem dX12_open_14 : decode cX12_open 14 = .ok (.getfield 14, 3) := by decide +kernel
theorem dX12_open_17 : decode cX12_open 17 = .ok (.iload_n 1, 1) := by decide +kernel
theorem dX12_open_18 : decode cX12_open 18 = .ok (.iaload, 1) := by decide +kernel
theorem dX12_open_19 : decode cX12_open 19 = .ok (.iload_n 2, 1) := by decide +kernel
theorem dX12_open_20 : decode cX12_open 20 = .ok (.iconst 1, 1) := by decide +kernel
theorem dX12_open_21 : decode cX12_open 21 = .ok (.iadd, 1) := by decide +kernel
theorem dX12_open_22 : decode cX12_open 22 = .ok (.invokevirtual 325, 3) := by decide +kernel
theorem dX12_open_25 : decode cX12_open 25 = .ok (.iload_n 3, 1) := by decide +kernel
theorem dX12_open_26 : decode cX12_open 26 = .ok (.iconst 3, 1) := by decide +kernel
theorem dX12_open_27 : decode cX12_open 27 = .ok (.if_icmp .eq 15, 3) := by decide +kernel
theorem dX12_open_30 : decode cX12_open 30 = .ok (.iload_n 3, 1) := by decide +kernel
theorem dX12_open_31 : decode cX12_open 31 = .ok (.bipush 7, 2) := by decide +kernel
theorem dX12_open_33 : decode cX12_open 33 = .ok (.if_icmp .eq 9, 3) := by decide +kernel
theorem dX12_open_36 : decode cX12_open 36 = .ok (.iload_n 3, 1) := by decide +kernel
theorem dX12_open_37 : decode cX12_open 37 = .ok (.bipush 8, 2) := by decide +kernel
theorem dX12_open_39 : decode cX12_open 39 = .ok (.if_icmp .ne 16, 3) := by decide +kernel
theorem dX12_open_42 : decode cX12_open 42 = .ok (.aload_n 0, 1) := by decide +kernel
theorem dX12_open_43 : decode cX12_open 43 = .ok (.aload_n 0, 1) := by decide +kernel
theorem dX12_open_44 : decode cX12_open 44 = .ok (.getfield 18, 3) := by decide +kernel
theorem dX12_open_47 : decode cX12_open 47 = .ok (.iload_n 1, 1) := by decide +kernel
theorem dX12_open_48 : decode cX12_open 48 = .ok (.iaload, 1) := by decide +kernel
theorem dX12_open_49 : decode cX12_open 49 = .ok (.iload_n 2, 1) := by decide +kernel
theorem dX12_open_50 : decode cX12_open 50 = .ok (.iconst 1, 1) := by decide +kernel
theorem dX12_open_51 : decode cX12_open 51 = .ok (.iadd, 1) := by decide +kernel
theorem dX12_open_52 : decode cX12_open 52 = .ok (.invokevirtual 325, 3) := by decide +kernel
theorem dX12_open_55 : decode cX12_open 55 = .ok (.iload_n 3, 1) := by decide +kernel
theorem dX12_open_56 : decode cX12_open 56 = .ok (.bipush 8, 2) := by decide +kernel
theorem dX12_open_58 : decode cX12_open 58 = .ok (.if_icmp .ne 31, 3) := by decide +kernel
theorem dX12_open_61 : decode cX12_open 61 = .ok (.aload_n 0, 1) := by decide +kernel
theorem dX12_open_62 : decode cX12_open 62 = .ok (.getfield 31, 3) := by decide +kernel
theorem dX12_open_65 : decode cX12_open 65 = .ok (.aload_n 0, 1) := by decide +kernel
theorem dX12_open_66 : decode cX12_open 66 = .ok (.getfield 14, 3) := by decide +kernel
theorem dX12_open_69 : decode cX12_open 69 = .ok (.iload_n 1, 1) := by decide +kernel
theorem dX12_open_70 : decode cX12_open 70 = .ok (.iaload, 1) := by decide +kernel
theorem dX12_open_71 : decode cX12_open 71 = .ok (.iaload, 1) := by decide +kernel
theorem dX12_open_72 : decode cX12_open 72 = .ok (.iload_n 2, 1) := by decide +kernel
theorem dX12_open_73 : decode cX12_open 73 = .ok (.if_icmp .gt 16, 3) := by decide +kernel
theorem dX12_open_76 : decode cX12_open 76 = .ok (.aload_n 0, 1) := by decide +kernel
theorem dX12_open_77 : decode cX12_open 77 = .ok (.aload_n 0, 1) := by decide +kernel
theorem dX12_open_78 : decode cX12_open 78 = .ok (.getfield 21, 3) := by decide +kernel
theorem dX12_open_81 : decode cX12_open 81 = .ok (.iload_n 1, 1) := by decide +kernel
theorem dX12_open_82 : decode cX12_open 82 = .ok (.iaload, 1) := by decide +kernel
theorem dX12_open_83 : decode cX12_open 83 = .ok (.iload_n 2, 1) := by decide +kernel
theorem dX12_open_84 : decode cX12_open 84 = .ok (.iconst 1, 1) := by decide +kernel
theorem dX12_open_85 : decode cX12_open 85 = .ok (.iadd, 1) := by decide +kernel
theorem dX12_open_86 : decode cX12_open 86 = .ok (.invokevirtual 325, 3) := by decide +kernel
theorem dX12_open_89 : decode cX12_open 89 = .ok (.return_, 1) := by decide +kernel
theorem cc_open : Cond.code yX12_open cX12_open 4 none ∈ rf_tb := rf_at 2344 (by decide +kernel) (by decide +kernel)
theorem cw_open : rf_wV yX12_open cX12_open 4 none 331 2 := ⟨⟨rf_at 2341 (by decide +kernel) (by decide +kernel), rf_at 2343 (by decide +kernel) (by decide +kernel), rf_sel (q := (yX12_open, 122)) 149 (by decide +kernel) (by decide +kernel), cc_open⟩, rfl, by decide +kernel⟩
noncomputable def bq_open_55 (x1 : Int32) (x2 : Int32) (x3 : Int32) (ρ : rf_S) : Option (rf_S) := (if x3 = (8:Int32) then ix x1 112000 (ix (ρ.1 2 x1.toNatClampNeg) 112000 ((if x2 < (ρ.1 7 (ρ.1 2 x1.toNatClampNeg).toNatClampNeg) then some ρ else ix x1 112000 (bd1 (fq_hadBy (ρ.1 4 x1.toNatClampNeg) (x2 + (1:Int32)) ρ) (fun ρ_3 => some ρ_3))))) else some ρ)
set_option maxHeartbeats 4000000 in
theorem wq_open_55 (C : rf_C D p s m args meth c cX12_open 4 none) {x1 : Int32} {x2 : Int32} {x3 : Int32} {ρ ρ' : rf_S} {H : Heap} {locs : List Loc} {ls : Array Slot} (h : bq_open_55 x1 x2 x3 ρ = some ρ') (G : rf_G D h0 s ρ H locs) (hl : lv_has ls 4 [(0, .ref h0), (1, .int x1), (2, .int x2), (3, .int x3)]) : W p l e ({ frames := 2, cells := 0, slots := 0, locals := 44 }) s m args below meth c H locs 0 0 (MQ below (rf_Q D h0 none ρ') args s 0 0 (rf_A h0)) (F0 m 55 ls []) := by
  unfold bq_open_55 at h
  refine lv_iload_n C.1 C.2.1 dX12_open_55 rfl (lv_at hl 3 rfl) ?_
  refine lv_bipush (v := (8:Int32)) C.1 C.2.1 dX12_open_56 (by decide) ?_
  refine lv_icmp_ne (tgt := 89) C.1 C.2.1 dX12_open_58 (by decide) (fun hc => ?_) (fun hc => ?_)
  · rw [if_neg hc] at h
    exact rf_vret C G h dX12_open_89
  · rw [if_pos hc] at h
    refine lv_aload_n C.1 C.2.1 dX12_open_61 rfl (lv_at hl 0 rfl) ?_
    refine gf_6 C G dX12_open_62 ?_
    refine lv_aload_n C.1 C.2.1 dX12_open_65 rfl (lv_at hl 0 rfl) ?_
    refine gf_1 C G dX12_open_66 ?_
    refine lv_iload_n C.1 C.2.1 dX12_open_69 rfl (lv_at hl 1 rfl) ?_
    obtain ⟨hi, h⟩ := ix_some h
    refine rf_iald C G 2 rfl (by decide) rfl rfl hi dX12_open_70 ?_
    obtain ⟨hi, h⟩ := ix_some h
    refine rf_iald C G 7 rfl (by decide) rfl rfl hi dX12_open_71 ?_
    refine lv_iload_n C.1 C.2.1 dX12_open_72 rfl (lv_at hl 2 rfl) ?_
    refine lv_icmp_gt (tgt := 89) C.1 C.2.1 dX12_open_73 (by decide) (fun hc => ?_) (fun hc => ?_)
    · rw [if_pos hc] at h
      exact rf_vret C G h dX12_open_89
    · rw [if_neg hc] at h
      refine lv_aload_n C.1 C.2.1 dX12_open_76 rfl (lv_at hl 0 rfl) ?_
      refine lv_aload_n C.1 C.2.1 dX12_open_77 rfl (lv_at hl 0 rfl) ?_
      refine gf_3 C G dX12_open_78 ?_
      refine lv_iload_n C.1 C.2.1 dX12_open_81 rfl (lv_at hl 1 rfl) ?_
      obtain ⟨hi, h⟩ := ix_some h
      refine rf_iald C G 4 rfl (by decide) rfl rfl hi dX12_open_82 ?_
      refine lv_iload_n C.1 C.2.1 dX12_open_83 rfl (lv_at hl 2 rfl) ?_
      refine lv_iconst (v := (1:Int32)) C.1 C.2.1 dX12_open_84 (by decide) ?_
      refine lv_iadd C.1 C.2.1 dX12_open_85 ?_
      obtain ⟨ρ_3, hq, h⟩ := bd1_some h
      refine rf_callV (rest := []) C G cw_hadBy [.int (ρ.1 4 x1.toNatClampNeg), .int (x2 + (1:Int32))] _ (kq_hadBy l D h0 hq) (Nat.le_of_ble_eq_true rfl) (Nat.le_of_ble_eq_true rfl) rfl rfl hl.1 (Nat.le_of_ble_eq_true rfl) (Nat.zero_le _) (Nat.zero_le _) dX12_open_86 (fun H locs G => ?_)
      refine W.eq (g2 := F0 m 89 ls []) rfl ?_
      exact rf_vret C G h dX12_open_89
noncomputable def bq_open_42 (x1 : Int32) (x2 : Int32) (x3 : Int32) (ρ : rf_S) : Option (rf_S) := ix x1 112000 (bd1 (fq_hadBy (ρ.1 3 x1.toNatClampNeg) (x2 + (1:Int32)) ρ) (fun ρ_2 => bq_open_55 x1 x2 x3 ρ_2))
set_option maxHeartbeats 4000000 in
theorem wq_open_42 (C : rf_C D p s m args meth c cX12_open 4 none) {x1 : Int32} {x2 : Int32} {x3 : Int32} {ρ ρ' : rf_S} {H : Heap} {locs : List Loc} {ls : Array Slot} (h : bq_open_42 x1 x2 x3 ρ = some ρ') (G : rf_G D h0 s ρ H locs) (hl : lv_has ls 4 [(0, .ref h0), (1, .int x1), (2, .int x2), (3, .int x3)]) : W p l e ({ frames := 2, cells := 0, slots := 0, locals := 44 }) s m args below meth c H locs 0 0 (MQ below (rf_Q D h0 none ρ') args s 0 0 (rf_A h0)) (F0 m 42 ls []) := by
  unfold bq_open_42 at h
  refine lv_aload_n C.1 C.2.1 dX12_open_42 rfl (lv_at hl 0 rfl) ?_
  refine lv_aload_n C.1 C.2.1 dX12_open_43 rfl (lv_at hl 0 rfl) ?_
  refine gf_2 C G dX12_open_44 ?_
  refine lv_iload_n C.1 C.2.1 dX12_open_47 rfl (lv_at hl 1 rfl) ?_
  obtain ⟨hi, h⟩ := ix_some h
  refine rf_iald C G 3 rfl (by decide) rfl rfl hi dX12_open_48 ?_
  refine lv_iload_n C.1 C.2.1 dX12_open_49 rfl (lv_at hl 2 rfl) ?_
  refine lv_iconst (v := (1:Int32)) C.1 C.2.1 dX12_open_50 (by decide) ?_
  refine lv_iadd C.1 C.2.1 dX12_open_51 ?_
  obtain ⟨ρ_2, hq, h⟩ := bd1_some h
  refine rf_callV (rest := []) C G cw_hadBy [.int (ρ.1 3 x1.toNatClampNeg), .int (x2 + (1:Int32))] _ (kq_hadBy l D h0 hq) (Nat.le_of_ble_eq_true rfl) (Nat.le_of_ble_eq_true rfl) rfl rfl hl.1 (Nat.le_of_ble_eq_true rfl) (Nat.zero_le _) (Nat.zero_le _) dX12_open_52 (fun H locs G => ?_)
  refine W.eq (g2 := F0 m 55 ls []) rfl ?_
  exact wq_open_55 C h G (lv_sub hl [0, 1, 2, 3] rfl)
noncomputable def bq_open_25 (x1 : Int32) (x2 : Int32) (x3 : Int32) (ρ : rf_S) : Option (rf_S) := (if x3 = (3:Int32) then bq_open_42 x1 x2 x3 ρ else (if x3 = (7:Int32) then bq_open_42 x1 x2 x3 ρ else (if x3 = (8:Int32) then bq_open_42 x1 x2 x3 ρ else bq_open_55 x1 x2 x3 ρ)))
set_option maxHeartbeats 4000000 in
theorem wq_open_25 (C : rf_C D p s m args meth c cX12_open 4 none) {x1 : Int32} {x2 : Int32} {x3 : Int32} {ρ ρ' : rf_S} {H : Heap} {locs : List Loc} {ls : Array Slot} (h : bq_open_25 x1 x2 x3 ρ = some ρ') (G : rf_G D h0 s ρ H locs) (hl : lv_has ls 4 [(0, .ref h0), (1, .int x1), (2, .int x2), (3, .int x3)]) : W p l e ({ frames := 2, cells := 0, slots := 0, locals := 44 }) s m args below meth c H locs 0 0 (MQ below (rf_Q D h0 none ρ') args s 0 0 (rf_A h0)) (F0 m 25 ls []) := by
  unfold bq_open_25 at h
  refine lv_iload_n C.1 C.2.1 dX12_open_25 rfl (lv_at hl 3 rfl) ?_
  refine lv_iconst (v := (3:Int32)) C.1 C.2.1 dX12_open_26 (by decide) ?_
  refine lv_icmp_eq (tgt := 42) C.1 C.2.1 dX12_open_27 (by decide) (fun hc => ?_) (fun hc => ?_)
  · rw [if_pos hc] at h
    exact wq_open_42 C h G (lv_sub hl [0, 1, 2, 3] rfl)
  · rw [if_neg hc] at h
    refine lv_iload_n C.1 C.2.1 dX12_open_30 rfl (lv_at hl 3 rfl) ?_
    refine lv_bipush (v := (7:Int32)) C.1 C.2.1 dX12_open_31 (by decide) ?_
    refine lv_icmp_eq (tgt := 42) C.1 C.2.1 dX12_open_33 (by decide) (fun hc => ?_) (fun hc => ?_)
    · rw [if_pos hc] at h
      exact wq_open_42 C h G (lv_sub hl [0, 1, 2, 3] rfl)
    · rw [if_neg hc] at h
      refine lv_iload_n C.1 C.2.1 dX12_open_36 rfl (lv_at hl 3 rfl) ?_
      refine lv_bipush (v := (8:Int32)) C.1 C.2.1 dX12_open_37 (by decide) ?_
      refine lv_icmp_ne (tgt := 55) C.1 C.2.1 dX12_open_39 (by decide) (fun hc => ?_) (fun hc => ?_)
      · rw [if_neg hc] at h
        exact wq_open_55 C h G (lv_sub hl [0, 1, 2, 3] rfl)
      · rw [if_pos hc] at h
        exact wq_open_42 C h G (lv_sub hl [0, 1, 2, 3] rfl)
noncomputable def bq_open_0 (x1 : Int32) (x2 : Int32) (ρ : rf_S) : Option (rf_S) := ix x1 112000 (vl (ρ.1 1 x1.toNatClampNeg) (fun x3_1 => (if x3_1 = (3:Int32) then ix x1 112000 (bd1 (fq_hadBy (ρ.1 2 x1.toNatClampNeg) (x2 + (1:Int32)) ρ) (fun ρ_4 => bq_open_25 x1 x2 x3_1 ρ_4)) else bq_open_25 x1 x2 x3_1 ρ)))
set_option maxHeartbeats 4000000 in
theorem wq_open_0 (C : rf_C D p s m args meth c cX12_open 4 none) {x1 : Int32} {x2 : Int32} {ρ ρ' : rf_S} {H : Heap} {locs : List Loc} {ls : Array Slot} (h : bq_open_0 x1 x2 ρ = some ρ') (G : rf_G D h0 s ρ H locs) (hl : lv_has ls 4 [(0, .ref h0), (1, .int x1), (2, .int x2)]) : W p l e ({ frames := 2, cells := 0, slots := 0, locals := 44 }) s m args below meth c H locs 0 0 (MQ below (rf_Q D h0 none ρ') args s 0 0 (rf_A h0)) (F0 m 0 ls []) := by
  unfold bq_open_0 at h
  refine lv_aload_n C.1 C.2.1 dX12_open_0 rfl (lv_at hl 0 rfl) ?_
  refine gf_0 C G dX12_open_1 ?_
  refine lv_iload_n C.1 C.2.1 dX12_open_4 rfl (lv_at hl 1 rfl) ?_
  obtain ⟨hi, h⟩ := ix_some h
  refine rf_bald C G 1 rfl (by decide) rfl rfl hi dX12_open_5 ?_
  refine vt_i h (fun x3_1 h => ?_)
  refine lv_istore_n (lv' := [(3, .int x3_1), (0, .ref h0), (1, .int x1), (2, .int x2)]) C.1 C.2.1 dX12_open_6 rfl hl (by decide) rfl (fun ls hl => ?_)
  refine lv_iload_n C.1 C.2.1 dX12_open_7 rfl (lv_at hl 0 rfl) ?_
  refine lv_iconst (v := (3:Int32)) C.1 C.2.1 dX12_open_8 (by decide) ?_
  refine lv_icmp_ne (tgt := 25) C.1 C.2.1 dX12_open_9 (by decide) (fun hc => ?_) (fun hc => ?_)
  · rw [if_neg hc] at h
    exact wq_open_25 C h G (lv_sub hl [1, 2, 3, 0] rfl)
  · rw [if_pos hc] at h
    refine lv_aload_n C.1 C.2.1 dX12_open_12 rfl (lv_at hl 1 rfl) ?_
    refine lv_aload_n C.1 C.2.1 dX12_open_13 rfl (lv_at hl 1 rfl) ?_
    refine gf_1 C G dX12_open_14 ?_
    refine lv_iload_n C.1 C.2.1 dX12_open_17 rfl (lv_at hl 2 rfl) ?_
    obtain ⟨hi, h⟩ := ix_some h
    refine rf_iald C G 2 rfl (by decide) rfl rfl hi dX12_open_18 ?_
    refine lv_iload_n C.1 C.2.1 dX12_open_19 rfl (lv_at hl 3 rfl) ?_
    refine lv_iconst (v := (1:Int32)) C.1 C.2.1 dX12_open_20 (by decide) ?_
    refine lv_iadd C.1 C.2.1 dX12_open_21 ?_
    obtain ⟨ρ_4, hq, h⟩ := bd1_some h
    refine rf_callV (rest := []) C G cw_hadBy [.int (ρ.1 2 x1.toNatClampNeg), .int (x2 + (1:Int32))] _ (kq_hadBy l D h0 hq) (Nat.le_of_ble_eq_true rfl) (Nat.le_of_ble_eq_true rfl) rfl rfl hl.1 (Nat.le_of_ble_eq_true rfl) (Nat.zero_le _) (Nat.zero_le _) dX12_open_22 (fun H locs G => ?_)
    refine W.eq (g2 := F0 m 25 ls []) rfl ?_
    exact wq_open_25 C h G (lv_sub hl [1, 2, 3, 0] rfl)
noncomputable def fq_open (x1 : Int32) (x2 : Int32) (ρ : rf_S) : Option (rf_S) := bq_open_0 x1 x2 ρ
theorem kq_open (l : Launch) (D : rf_D) (h0 : Nat) {x1 : Int32} {x2 : Int32} {ρ ρ' : rf_S} (h : fq_open x1 x2 ρ = some ρ') : rf_Met l D h0 yX12_open cX12_open 4 none 2 44 [.ref h0, .int x1, .int x2] ρ none ρ' :=
  rf_of rfl cc_open (Nat.le_of_ble_eq_true rfl) (fun p e s m args below meth c ls C G hl => wq_open_0 C h G hl)
abbrev cX12_know : ByteArray := prog_14_method_16_code
def yX12_know : MethodName := ⟨RX12, "know", "()V"⟩
theorem dX12_know_0 : decode cX12_know 0 = .ok (.aload_n 0, 1) := by decide +kernel
theorem dX12_know_1 : decode cX12_know 1 = .ok (.getfield 47, 3) := by decide +kernel
theorem dX12_know_4 : decode cX12_know 4 = .ok (.aload_n 0, 1) := by decide +kernel
theorem dX12_know_5 : decode cX12_know 5 = .ok (.getfield 293, 3) := by decide +kernel
theorem dX12_know_8 : decode cX12_know 8 = .ok (.if_icmp .ne 15, 3) := by decide +kernel
theorem dX12_know_11 : decode cX12_know 11 = .ok (.aload_n 0, 1) := by decide +kernel
theorem dX12_know_12 : decode cX12_know 12 = .ok (.getfield 51, 3) := by decide +kernel
theorem dX12_know_15 : decode cX12_know 15 = .ok (.aload_n 0, 1) := by decide +kernel
theorem dX12_know_16 : decode cX12_know 16 = .ok (.getfield 306, 3) := by decide +kernel
theorem dX12_know_19 : decode cX12_know 19 = .ok (.if_icmp .ne 4, 3) := by decide +kernel
theorem dX12_know_22 : decode cX12_know 22 = .ok (.return_, 1) := by decide +kernel
theorem dX12_know_23 : decode cX12_know 23 = .ok (.aload_n 0, 1) := by decide +kernel
theorem dX12_know_24 : decode cX12_know 24 = .ok (.aload_n 0, 1) := by decide +kernel
theorem dX12_know_25 : decode cX12_know 25 = .ok (.getfield 293, 3) := by decide +kernel
theorem dX12_know_28 : decode cX12_know 28 = .ok (.putfield 47, 3) := by decide +kernel
theorem dX12_know_31 : decode cX12_know 31 = .ok (.aload_n 0, 1) := by decide +kernel
theorem dX12_know_32 : decode cX12_know 32 = .ok (.aload_n 0, 1) := by decide +kernel
theorem dX12_know_33 : decode cX12_know 33 = .ok (.getfield 306, 3) := by decide +kernel
theorem dX12_know_36 : decode cX12_know 36 = .ok (.putfield 51, 3) := by decide +kernel
theorem dX12_know_39 : decode cX12_know 39 = .ok (.aload_n 0, 1) := by decide +kernel
theorem dX12_know_40 : decode cX12_know 40 = .ok (.invokevirtual 328, 3) := by decide +kernel
theorem dX12_know_43 : decode cX12_know 43 = .ok (.aload_n 0, 1) := by decide +kernel
theorem dX12_know_44 : decode cX12_know 44 = .ok (.iconst 0, 1) := by decide +kernel
theorem dX12_know_45 : decode cX12_know 45 = .ok (.putfield 318, 3) := by decide +kernel
theorem dX12_know_48 : decode cX12_know 48 = .ok (.iconst 0, 1) := by decide +kernel
theorem dX12_know_49 : decode cX12_know 49 = .ok (.istore_n 1, 1) := by decide +kernel
theorem dX12_know_50 : decode cX12_know 50 = .ok (.iload_n 1, 1) := by decide +kernel
theorem dX12_know_51 : decode cX12_know 51 = .ok (.aload_n 0, 1) := by decide +kernel
theorem dX12_know_52 : decode cX12_know 52 = .ok (.getfield 293, 3) := by decide +kernel
theorem dX12_know_55 : decode cX12_know 55 = .ok (.if_icmp .ge 43, 3) := by decide +kernel
theorem dX12_know_58 : decode cX12_know 58 = .ok (.aload_n 0, 1) := by decide +kernel
theorem dX12_know_59 : decode cX12_know 59 = .ok (.getfield 31, 3) := by decide +kernel
theorem dX12_know_62 : decode cX12_know 62 = .ok (.iload_n 1, 1) := by decide +kernel
theorem dX12_know_63 : decode cX12_know 63 = .ok (.ldc_w 309, 3) := by decide +kernel
theorem dX12_know_66 : decode cX12_know 66 = .ok (.iastore, 1) := by decide +kernel
theorem dX12_know_67 : decode cX12_know 67 = .ok (.aload_n 0, 1) := by decide +kernel
theorem dX12_know_68 : decode cX12_know 68 = .ok (.getfield 8, 3) := by decide +kernel
theorem dX12_know_71 : decode cX12_know 71 = .ok (.iload_n 1, 1) := by decide +kernel
theorem dX12_know_72 : decode cX12_know 72 = .ok (.baload, 1) := by decide +kernel
theorem dX12_know_73 : decode cX12_know 73 = .ok (.iconst 2, 1) := by decide +kernel
theorem dX12_know_74 : decode cX12_know 74 = .ok (.if_icmp .lt 12, 3) := by decide +kernel
theorem dX12_know_77 : decode cX12_know 77 = .ok (.aload_n 0, 1) := by decide +kernel
theorem dX12_know_78 : decode cX12_know 78 = .ok (.getfield 27, 3) := by decide +kernel
theorem dX12_know_81 : decode cX12_know 81 = .ok (.iload_n 1, 1) := by decide +kernel
theorem dX12_know_82 : decode cX12_know 82 = .ok (.baload, 1) := by decide +kernel
theorem dX12_know_83 : decode cX12_know 83 = .ok (.ifCond .eq 9, 3) := by decide +kernel
theorem dX12_know_86 : decode cX12_know 86 = .ok (.aload_n 0, 1) := by decide +kernel
theorem dX12_know_87 : decode cX12_know 87 = .ok (.iload_n 1, 1) := by decide +kernel
theorem dX12_know_88 : decode cX12_know 88 = .ok (.iconst 0, 1) := by decide +kernel
theorem dX12_know_89 : decode cX12_know 89 = .ok (.invokevirtual 325, 3) := by decide +kernel
theorem dX12_know_92 : decode cX12_know 92 = .ok (.iinc 1 1, 3) := by decide +kernel
theorem dX12_know_95 : decode cX12_know 95 = .ok (.goto (-45), 3) := by decide +kernel
theorem dX12_know_98 : decode cX12_know 98 = .ok (.iconst 0, 1) := by decide +kernel
theorem dX12_know_99 : decode cX12_know 99 = .ok (.istore_n 1, 1) := by decide +kernel
theorem dX12_know_100 : decode cX12_know 100 = .ok (.iload_n 1, 1) := by decide +kernel
theorem dX12_know_101 : decode cX12_know 101 = .ok (.aload_n 0, 1) := by decide +kernel
theorem dX12_know_102 : decode cX12_know 102 = .ok (.getfield 318, 3) := by decide +kernel
theorem dX12_know_105 : decode cX12_know 105 = .ok (.if_icmp .ge 123, 3) := by decide +kernel
theorem dX12_know_108 : decode cX12_know 108 = .ok (.aload_n 0, 1) := by decide +kernel
theorem dX12_know_109 : decode cX12_know 109 = .ok (.getfield 41, 3) := by decide +kernel
theorem dX12_know_112 : decode cX12_know 112 = .ok (.iload_n 1, 1) := by decide +kernel
theorem dX12_know_113 : decode cX12_know 113 = .ok (.iaload, 1) := by decide +kernel
theorem dX12_know_114 : decode cX12_know 114 = .ok (.istore_n 2, 1) := by decide +kernel
theorem dX12_know_115 : decode cX12_know 115 = .ok (.aload_n 0, 1) := by decide +kernel
theorem dX12_know_116 : decode cX12_know 116 = .ok (.getfield 31, 3) := by decide +kernel
theorem dX12_know_119 : decode cX12_know 119 = .ok (.iload_n 2, 1) := by decide +kernel
theorem dX12_know_120 : decode cX12_know 120 = .ok (.iaload, 1) := by decide +kernel
theorem dX12_know_121 : decode cX12_know 121 = .ok (.istore_n 3, 1) := by decide +kernel
theorem dX12_know_122 : decode cX12_know 122 = .ok (.aload_n 0, 1) := by decide +kernel
theorem dX12_know_123 : decode cX12_know 123 = .ok (.iload_n 2, 1) := by decide +kernel
theorem dX12_know_124 : decode cX12_know 124 = .ok (.iload_n 3, 1) := by decide +kernel
theorem dX12_know_125 : decode cX12_know 125 = .ok (.invokevirtual 331, 3) := by decide +kernel
theorem dX12_know_128 : decode cX12_know 128 = .ok (.aload_n 0, 1) := by decide +kernel
theorem dX12_know_129 : decode cX12_know 129 = .ok (.getfield 34, 3) := by decide +kernel
theorem dX12_know_132 : decode cX12_know 132 = .ok (.iload_n 2, 1) := by decide +kernel
theorem dX12_know_133 : decode cX12_know 133 = .ok (.iaload, 1) := by decide +kernel
theorem dX12_know_134 : decode cX12_know 134 = .ok (.istore 4, 2) := by decide +kernel
theorem dX12_know_136 : decode cX12_know 136 = .ok (.iload 4, 2) := by decide +kernel
theorem dX12_know_138 : decode cX12_know 138 = .ok (.ifCond .lt 84, 3) := by decide +kernel
theorem dX12_know_141 : decode cX12_know 141 = .ok (.iload 4, 2) := by decide +kernel
theorem dX12_know_143 : decode cX12_know 143 = .ok (.iconst 3, 1) := by decide +kernel
theorem dX12_know_144 : decode cX12_know 144 = .ok (.idiv, 1) := by decide +kernel
theorem dX12_know_145 : decode cX12_know 145 = .ok (.istore 5, 2) := by decide +kernel
theorem dX12_know_147 : decode cX12_know 147 = .ok (.aload_n 0, 1) := by decide +kernel
theorem dX12_know_148 : decode cX12_know 148 = .ok (.iload 5, 2) := by decide +kernel
theorem dX12_know_150 : decode cX12_know 150 = .ok (.invokevirtual 334, 3) := by decide +kernel
theorem dX12_know_153 : decode cX12_know 153 = .ok (.iload_n 3, 1) := by decide +kernel
theorem dX12_know_154 : decode cX12_know 154 = .ok (.if_icmp .gt 12, 3) := by decide +kernel
theorem dX12_know_157 : decode cX12_know 157 = .ok (.aload_n 0, 1) := by decide +kernel
theorem dX12_know_158 : decode cX12_know 158 = .ok (.iload 5, 2) := by decide +kernel
theorem dX12_know_160 : decode cX12_know 160 = .ok (.iload_n 3, 1) := by decide +kernel
theorem dX12_know_161 : decode cX12_know 161 = .ok (.iconst 1, 1) := by decide +kernel
theorem dX12_know_162 : decode cX12_know 162 = .ok (.iadd, 1) := by decide +kernel
theorem dX12_know_163 : decode cX12_know 163 = .ok (.invokevirtual 325, 3) := by decide +kernel
theorem dX12_know_166 : decode cX12_know 166 = .ok (.aload_n 0, 1) := by decide +kernel
theorem dX12_know_167 : decode cX12_know 167 = .ok (.getfield 8, 3) := by decide +kernel
theorem dX12_know_170 : decode cX12_know 170 = .ok (.iload 5, 2) := by decide +kernel
theorem dX12_know_172 : decode cX12_know 172 = .ok (.baload, 1) := by decide +kernel
theorem dX12_know_173 : decode cX12_know 173 = .ok (.bipush 8, 2) := by decide +kernel
theorem dX12_know_175 : decode cX12_know 175 = .ok (.if_icmp .ne 35, 3) := by decide +kernel
theorem dX12_know_178 : decode cX12_know 178 = .ok (.iload 4, 2) := by decide +kernel
theorem dX12_know_180 : decode cX12_know 180 = .ok (.iconst 3, 1) := by decide +kernel
theorem dX12_know_181 : decode cX12_know 181 = .ok (.irem, 1) := by decide +kernel
theorem dX12_know_182 : decode cX12_know 182 = .ok (.ifCond .ne 28, 3) := by decide +kernel
theorem dX12_know_185 : decode cX12_know 185 = .ok (.aload_n 0, 1) := by decide +kernel
theorem dX12_know_186 : decode cX12_know 186 = .ok (.getfield 31, 3) := by decide +kernel
theorem dX12_know_189 : decode cX12_know 189 = .ok (.iload 5, 2) := by decide +kernel
theorem dX12_know_191 : decode cX12_know 191 = .ok (.iaload, 1) := by decide +kernel
theorem dX12_know_192 : decode cX12_know 192 = .ok (.iload_n 3, 1) := by decide +kernel
theorem dX12_know_193 : decode cX12_know 193 = .ok (.if_icmp .gt 17, 3) := by decide +kernel
theorem dX12_know_196 : decode cX12_know 196 = .ok (.aload_n 0, 1) := by decide +kernel
theorem dX12_know_197 : decode cX12_know 197 = .ok (.aload_n 0, 1) := by decide +kernel
theorem dX12_know_198 : decode cX12_know 198 = .ok (.getfield 21, 3) := by decide +kernel
theorem dX12_know_201 : decode cX12_know 201 = .ok (.iload 5, 2) := by decide +kernel
theorem dX12_know_203 : decode cX12_know 203 = .ok (.iaload, 1) := by decide +kernel
theorem dX12_know_204 : decode cX12_know 204 = .ok (.iload_n 3, 1) := by decide +kernel
theorem dX12_know_205 : decode cX12_know 205 = .ok (.iconst 1, 1) := by decide +kernel
theorem dX12_know_206 : decode cX12_know 206 = .ok (.iadd, 1) := by decide +kernel
theorem dX12_know_207 : decode cX12_know 207 = .ok (.invokevirtual 325, 3) := by decide +kernel
theorem dX12_know_210 : decode cX12_know 210 = .ok (.aload_n 0, 1) := by decide +kernel
theorem dX12_know_211 : decode cX12_know 211 = .ok (.getfield 38, 3) := by decide +kernel
theorem dX12_know_214 : decode cX12_know 214 = .ok (.iload 4, 2) := by decide +kernel
theorem dX12_know_216 : decode cX12_know 216 = .ok (.iaload, 1) := by decide +kernel
theorem dX12_know_217 : decode cX12_know 217 = .ok (.istore 4, 2) := by decide +kernel
theorem dX12_know_219 : decode cX12_know 219 = .ok (.goto (-83), 3) := by decide +kernel
theorem dX12_know_222 : decode cX12_know 222 = .ok (.iinc 1 1, 3) := by decide +kernel
theorem dX12_know_225 : decode cX12_know 225 = .ok (.goto (-125), 3) := by decide +kernel
theorem dX12_know_228 : decode cX12_know 228 = .ok (.return_, 1) := by decide +kernel
theorem cc_know : Cond.code yX12_know cX12_know 6 none ∈ rf_tb := rf_at 2323 (by decide +kernel) (by decide +kernel)
theorem cw_know : rf_wV yX12_know cX12_know 6 none 699 0 := ⟨⟨rf_at 2320 (by decide +kernel) (by decide +kernel), rf_at 2322 (by decide +kernel) (by decide +kernel), rf_sel (q := (yX12_know, 122)) 144 (by decide +kernel) (by decide +kernel), cc_know⟩, rfl, by decide +kernel⟩
noncomputable def bq_know_92i50 (x1 : Int32) (ρ : rf_S) : Option ((Int32 × rf_S) ⊕ (Int32 × rf_S)) := vl (x1 + (1:Int32)) (fun x1_7 => some (.inl (x1_7, ρ)))
set_option maxHeartbeats 4000000 in
theorem wq_know_92i50 (C : rf_C D p s m args meth c cX12_know 6 none) {x1 : Int32} {ρ ρ' : rf_S} {H : Heap} {locs : List Loc} {ls : Array Slot} {o : (Int32 × rf_S) ⊕ (Int32 × rf_S)} (h : bq_know_92i50 x1 ρ = some o) (hP : Sum.elim (fun z : (Int32 × rf_S) => ∀ (H : Heap) (locs : List Loc) (ls : Array Slot), rf_G D h0 s z.2 H locs → lv_has ls 6 [(0, .ref h0), (1, .int z.1)] → W p l e ({ frames := 3, cells := 0, slots := 0, locals := 67 }) s m args below meth c H locs 0 0 (MQ below (rf_Q D h0 none ρ') args s 0 0 (rf_A h0)) (F0 m 50 ls [])) (fun z : (Int32 × rf_S) => ∀ (H : Heap) (locs : List Loc) (ls : Array Slot), rf_G D h0 s z.2 H locs → lv_has ls 6 [(0, .ref h0), (1, .int z.1)] → W p l e ({ frames := 3, cells := 0, slots := 0, locals := 67 }) s m args below meth c H locs 0 0 (MQ below (rf_Q D h0 none ρ') args s 0 0 (rf_A h0)) (F0 m 98 ls [])) o) (G : rf_G D h0 s ρ H locs) (hl : lv_has ls 6 [(0, .ref h0), (1, .int x1)]) : W p l e ({ frames := 3, cells := 0, slots := 0, locals := 67 }) s m args below meth c H locs 0 0 (MQ below (rf_Q D h0 none ρ') args s 0 0 (rf_A h0)) (F0 m 92 ls []) := by
  unfold bq_know_92i50 at h
  refine vl_ex h (fun x1_7 ey h => ?_)
  refine lv_iinc (v := x1_7) (lv' := [(1, .int x1_7), (0, .ref h0)]) C.1 C.2.1 dX12_know_92 hl (k := 1) rfl (by rw [ey]; rfl) (by decide) rfl (fun ls hl => ?_)
  refine lv_goto (tgt := 50) C.1 C.2.1 dX12_know_95 (by decide) ?_
  cases h
  exact hP _ _ _ G (lv_sub hl [1, 0] rfl)
noncomputable def bq_know_86i50 (x1 : Int32) (ρ : rf_S) : Option ((Int32 × rf_S) ⊕ (Int32 × rf_S)) := bd1 (fq_hadBy x1 (0:Int32) ρ) (fun ρ_6 => bq_know_92i50 x1 ρ_6)
set_option maxHeartbeats 4000000 in
theorem wq_know_86i50 (C : rf_C D p s m args meth c cX12_know 6 none) {x1 : Int32} {ρ ρ' : rf_S} {H : Heap} {locs : List Loc} {ls : Array Slot} {o : (Int32 × rf_S) ⊕ (Int32 × rf_S)} (h : bq_know_86i50 x1 ρ = some o) (hP : Sum.elim (fun z : (Int32 × rf_S) => ∀ (H : Heap) (locs : List Loc) (ls : Array Slot), rf_G D h0 s z.2 H locs → lv_has ls 6 [(0, .ref h0), (1, .int z.1)] → W p l e ({ frames := 3, cells := 0, slots := 0, locals := 67 }) s m args below meth c H locs 0 0 (MQ below (rf_Q D h0 none ρ') args s 0 0 (rf_A h0)) (F0 m 50 ls [])) (fun z : (Int32 × rf_S) => ∀ (H : Heap) (locs : List Loc) (ls : Array Slot), rf_G D h0 s z.2 H locs → lv_has ls 6 [(0, .ref h0), (1, .int z.1)] → W p l e ({ frames := 3, cells := 0, slots := 0, locals := 67 }) s m args below meth c H locs 0 0 (MQ below (rf_Q D h0 none ρ') args s 0 0 (rf_A h0)) (F0 m 98 ls [])) o) (G : rf_G D h0 s ρ H locs) (hl : lv_has ls 6 [(0, .ref h0), (1, .int x1)]) : W p l e ({ frames := 3, cells := 0, slots := 0, locals := 67 }) s m args below meth c H locs 0 0 (MQ below (rf_Q D h0 none ρ') args s 0 0 (rf_A h0)) (F0 m 86 ls []) := by
  unfold bq_know_86i50 at h
  refine lv_aload_n C.1 C.2.1 dX12_know_86 rfl (lv_at hl 0 rfl) ?_
  refine lv_iload_n C.1 C.2.1 dX12_know_87 rfl (lv_at hl 1 rfl) ?_
  refine lv_iconst (v := (0:Int32)) C.1 C.2.1 dX12_know_88 (by decide) ?_
  obtain ⟨ρ_6, hq, h⟩ := bd1_some h
  refine rf_callV (rest := []) C G cw_hadBy [.int x1, .int (0:Int32)] _ (kq_hadBy l D h0 hq) (Nat.le_of_ble_eq_true rfl) (Nat.le_of_ble_eq_true rfl) rfl rfl hl.1 (Nat.le_of_ble_eq_true rfl) (Nat.zero_le _) (Nat.zero_le _) dX12_know_89 (fun H locs G => ?_)
  refine W.eq (g2 := F0 m 92 ls []) rfl ?_
  exact wq_know_92i50 C h hP G (lv_sub hl [0, 1] rfl)
noncomputable def lq_know_50 (x1 : Int32) (ρ : rf_S) : Option ((Int32 × rf_S) ⊕ (Int32 × rf_S)) := (if (ρ.1 0 12) ≤ x1 then some (.inr (x1, ρ)) else ix x1 112000 (vl (rf_w ρ 7 x1.toNatClampNeg (1000000000:Int32)) (fun ρ_5 => ix x1 112000 ((if (ρ_5.1 1 x1.toNatClampNeg) < (2:Int32) then bq_know_86i50 x1 ρ_5 else ix x1 112000 ((if (ρ_5.1 6 x1.toNatClampNeg) = 0 then bq_know_92i50 x1 ρ_5 else bq_know_86i50 x1 ρ_5)))))))
noncomputable def bq_know_210i136 (x1 : Int32) (x3 : Int32) (x4 : Int32) (ρ : rf_S) : Option ((Int32 × rf_S) ⊕ (Int32 × rf_S)) := ix x4 336000 (vl (ρ.1 9 x4.toNatClampNeg) (fun x4_15 => some (.inl (x4_15, ρ))))
set_option maxHeartbeats 4000000 in
theorem wq_know_210i136 (C : rf_C D p s m args meth c cX12_know 6 none) {x1 : Int32} {x3 : Int32} {x4 : Int32} {ρ ρ' : rf_S} {H : Heap} {locs : List Loc} {ls : Array Slot} {o : (Int32 × rf_S) ⊕ (Int32 × rf_S)} (h : bq_know_210i136 x1 x3 x4 ρ = some o) (hP : Sum.elim (fun z : (Int32 × rf_S) => ∀ (H : Heap) (locs : List Loc) (ls : Array Slot), rf_G D h0 s z.2 H locs → lv_has ls 6 [(0, .ref h0), (1, .int x1), (3, .int x3), (4, .int z.1)] → W p l e ({ frames := 3, cells := 0, slots := 0, locals := 67 }) s m args below meth c H locs 0 0 (MQ below (rf_Q D h0 none ρ') args s 0 0 (rf_A h0)) (F0 m 136 ls [])) (fun z : (Int32 × rf_S) => ∀ (H : Heap) (locs : List Loc) (ls : Array Slot), rf_G D h0 s z.2 H locs → lv_has ls 6 [(0, .ref h0), (1, .int x1), (3, .int x3), (4, .int z.1)] → W p l e ({ frames := 3, cells := 0, slots := 0, locals := 67 }) s m args below meth c H locs 0 0 (MQ below (rf_Q D h0 none ρ') args s 0 0 (rf_A h0)) (F0 m 222 ls [])) o) (G : rf_G D h0 s ρ H locs) (hl : lv_has ls 6 [(0, .ref h0), (1, .int x1), (3, .int x3), (4, .int x4)]) : W p l e ({ frames := 3, cells := 0, slots := 0, locals := 67 }) s m args below meth c H locs 0 0 (MQ below (rf_Q D h0 none ρ') args s 0 0 (rf_A h0)) (F0 m 210 ls []) := by
  unfold bq_know_210i136 at h
  refine lv_aload_n C.1 C.2.1 dX12_know_210 rfl (lv_at hl 0 rfl) ?_
  refine gf_8 C G dX12_know_211 ?_
  refine lv_iload C.1 C.2.1 dX12_know_214 (lv_at hl 3 rfl) ?_
  obtain ⟨hi, h⟩ := ix_some h
  refine rf_iald C G 9 rfl (by decide) rfl rfl hi dX12_know_216 ?_
  refine vt_i h (fun x4_15 h => ?_)
  refine lv_istore (lv' := [(4, .int x4_15), (0, .ref h0), (1, .int x1), (3, .int x3)]) C.1 C.2.1 dX12_know_217 hl (by decide) rfl (fun ls hl => ?_)
  refine lv_goto (tgt := 136) C.1 C.2.1 dX12_know_219 (by decide) ?_
  cases h
  exact hP _ _ _ G (lv_sub hl [1, 2, 3, 0] rfl)
noncomputable def bq_know_166i136 (x1 : Int32) (x3 : Int32) (x4 : Int32) (x5 : Int32) (ρ : rf_S) : Option ((Int32 × rf_S) ⊕ (Int32 × rf_S)) := ix x5 112000 ((if (ρ.1 1 x5.toNatClampNeg) = (8:Int32) then (if (x4 - x4 / (3:Int32) * (3:Int32)) = 0 then ix x5 112000 ((if x3 < (ρ.1 7 x5.toNatClampNeg) then bq_know_210i136 x1 x3 x4 ρ else ix x5 112000 (bd1 (fq_hadBy (ρ.1 4 x5.toNatClampNeg) (x3 + (1:Int32)) ρ) (fun ρ_16 => bq_know_210i136 x1 x3 x4 ρ_16)))) else bq_know_210i136 x1 x3 x4 ρ) else bq_know_210i136 x1 x3 x4 ρ))
set_option maxHeartbeats 4000000 in
theorem wq_know_166i136 (C : rf_C D p s m args meth c cX12_know 6 none) {x1 : Int32} {x3 : Int32} {x4 : Int32} {x5 : Int32} {ρ ρ' : rf_S} {H : Heap} {locs : List Loc} {ls : Array Slot} {o : (Int32 × rf_S) ⊕ (Int32 × rf_S)} (h : bq_know_166i136 x1 x3 x4 x5 ρ = some o) (hP : Sum.elim (fun z : (Int32 × rf_S) => ∀ (H : Heap) (locs : List Loc) (ls : Array Slot), rf_G D h0 s z.2 H locs → lv_has ls 6 [(0, .ref h0), (1, .int x1), (3, .int x3), (4, .int z.1)] → W p l e ({ frames := 3, cells := 0, slots := 0, locals := 67 }) s m args below meth c H locs 0 0 (MQ below (rf_Q D h0 none ρ') args s 0 0 (rf_A h0)) (F0 m 136 ls [])) (fun z : (Int32 × rf_S) => ∀ (H : Heap) (locs : List Loc) (ls : Array Slot), rf_G D h0 s z.2 H locs → lv_has ls 6 [(0, .ref h0), (1, .int x1), (3, .int x3), (4, .int z.1)] → W p l e ({ frames := 3, cells := 0, slots := 0, locals := 67 }) s m args below meth c H locs 0 0 (MQ below (rf_Q D h0 none ρ') args s 0 0 (rf_A h0)) (F0 m 222 ls [])) o) (G : rf_G D h0 s ρ H locs) (hl : lv_has ls 6 [(0, .ref h0), (1, .int x1), (3, .int x3), (4, .int x4), (5, .int x5)]) : W p l e ({ frames := 3, cells := 0, slots := 0, locals := 67 }) s m args below meth c H locs 0 0 (MQ below (rf_Q D h0 none ρ') args s 0 0 (rf_A h0)) (F0 m 166 ls []) := by
  unfold bq_know_166i136 at h
  refine lv_aload_n C.1 C.2.1 dX12_know_166 rfl (lv_at hl 0 rfl) ?_
  refine gf_0 C G dX12_know_167 ?_
  refine lv_iload C.1 C.2.1 dX12_know_170 (lv_at hl 4 rfl) ?_
  obtain ⟨hi, h⟩ := ix_some h
  refine rf_bald C G 1 rfl (by decide) rfl rfl hi dX12_know_172 ?_
  refine lv_bipush (v := (8:Int32)) C.1 C.2.1 dX12_know_173 (by decide) ?_
  refine lv_icmp_ne (tgt := 210) C.1 C.2.1 dX12_know_175 (by decide) (fun hc => ?_) (fun hc => ?_)
  · rw [if_neg hc] at h
    exact wq_know_210i136 C h hP G (lv_sub hl [0, 1, 2, 3] rfl)
  · rw [if_pos hc] at h
    refine lv_iload C.1 C.2.1 dX12_know_178 (lv_at hl 3 rfl) ?_
    refine lv_iconst (v := (3:Int32)) C.1 C.2.1 dX12_know_180 (by decide) ?_
    refine lv_irem C.1 C.2.1 dX12_know_181 (by decide) ?_
    refine lv_if_ne (tgt := 210) C.1 C.2.1 dX12_know_182 (by decide) (fun hc => ?_) (fun hc => ?_)
    · rw [if_neg hc] at h
      exact wq_know_210i136 C h hP G (lv_sub hl [0, 1, 2, 3] rfl)
    · rw [if_pos hc] at h
      refine lv_aload_n C.1 C.2.1 dX12_know_185 rfl (lv_at hl 0 rfl) ?_
      refine gf_6 C G dX12_know_186 ?_
      refine lv_iload C.1 C.2.1 dX12_know_189 (lv_at hl 4 rfl) ?_
      obtain ⟨hi, h⟩ := ix_some h
      refine rf_iald C G 7 rfl (by decide) rfl rfl hi dX12_know_191 ?_
      refine lv_iload_n C.1 C.2.1 dX12_know_192 rfl (lv_at hl 2 rfl) ?_
      refine lv_icmp_gt (tgt := 210) C.1 C.2.1 dX12_know_193 (by decide) (fun hc => ?_) (fun hc => ?_)
      · rw [if_pos hc] at h
        exact wq_know_210i136 C h hP G (lv_sub hl [0, 1, 2, 3] rfl)
      · rw [if_neg hc] at h
        refine lv_aload_n C.1 C.2.1 dX12_know_196 rfl (lv_at hl 0 rfl) ?_
        refine lv_aload_n C.1 C.2.1 dX12_know_197 rfl (lv_at hl 0 rfl) ?_
        refine gf_3 C G dX12_know_198 ?_
        refine lv_iload C.1 C.2.1 dX12_know_201 (lv_at hl 4 rfl) ?_
        obtain ⟨hi, h⟩ := ix_some h
        refine rf_iald C G 4 rfl (by decide) rfl rfl hi dX12_know_203 ?_
        refine lv_iload_n C.1 C.2.1 dX12_know_204 rfl (lv_at hl 2 rfl) ?_
        refine lv_iconst (v := (1:Int32)) C.1 C.2.1 dX12_know_205 (by decide) ?_
        refine lv_iadd C.1 C.2.1 dX12_know_206 ?_
        obtain ⟨ρ_16, hq, h⟩ := bd1_some h
        refine rf_callV (rest := []) C G cw_hadBy [.int (ρ.1 4 x5.toNatClampNeg), .int (x3 + (1:Int32))] _ (kq_hadBy l D h0 hq) (Nat.le_of_ble_eq_true rfl) (Nat.le_of_ble_eq_true rfl) rfl rfl hl.1 (Nat.le_of_ble_eq_true rfl) (Nat.zero_le _) (Nat.zero_le _) dX12_know_207 (fun H locs G => ?_)
        refine W.eq (g2 := F0 m 210 ls []) rfl ?_
        exact wq_know_210i136 C h hP G (lv_sub hl [0, 1, 2, 3] rfl)
noncomputable def lq_know_136i100 (x1 : Int32) (x3 : Int32) (x4 : Int32) (ρ : rf_S) : Option ((Int32 × rf_S) ⊕ (Int32 × rf_S)) := (if x4 < 0 then some (.inr (x4, ρ)) else vl (x4 / (3:Int32)) (fun x5_12 => bd2 (fq_partsOf x5_12 ρ) (fun r_14 ρ_13 => (if x3 < r_14 then bq_know_166i136 x1 x3 x4 x5_12 ρ_13 else bd1 (fq_hadBy x5_12 (x3 + (1:Int32)) ρ_13) (fun ρ_17 => bq_know_166i136 x1 x3 x4 x5_12 ρ_17)))))
noncomputable def eq_know_136i100 (x1 : Int32) (x3 : Int32) (x4 : Int32) (ρ : rf_S) : Option ((Int32 × rf_S) ⊕ (Int32 × rf_S)) := vl (x1 + (1:Int32)) (fun x1_18 => some (.inl (x1_18, ρ)))
noncomputable def bq_know_136i100 (x1 : Int32) (x3 : Int32) (x4 : Int32) (ρ : rf_S) : Option ((Int32 × rf_S) ⊕ (Int32 × rf_S)) := (lp (fun z : (Int32 × rf_S) => lq_know_136i100 x1 x3 z.1 z.2) (x4, ρ)).bind (fun z => eq_know_136i100 x1 x3 z.1 z.2)
set_option maxHeartbeats 4000000 in
theorem wq_know_136i100 (C : rf_C D p s m args meth c cX12_know 6 none) {x1 : Int32} {x3 : Int32} {x4 : Int32} {ρ ρ' : rf_S} {H : Heap} {locs : List Loc} {ls : Array Slot} {o : (Int32 × rf_S) ⊕ (Int32 × rf_S)} (h : bq_know_136i100 x1 x3 x4 ρ = some o) (hP : Sum.elim (fun z : (Int32 × rf_S) => ∀ (H : Heap) (locs : List Loc) (ls : Array Slot), rf_G D h0 s z.2 H locs → lv_has ls 6 [(0, .ref h0), (1, .int z.1)] → W p l e ({ frames := 3, cells := 0, slots := 0, locals := 67 }) s m args below meth c H locs 0 0 (MQ below (rf_Q D h0 none ρ') args s 0 0 (rf_A h0)) (F0 m 100 ls [])) (fun z : (Int32 × rf_S) => ∀ (H : Heap) (locs : List Loc) (ls : Array Slot), rf_G D h0 s z.2 H locs → lv_has ls 6 [(0, .ref h0), (1, .int z.1)] → W p l e ({ frames := 3, cells := 0, slots := 0, locals := 67 }) s m args below meth c H locs 0 0 (MQ below (rf_Q D h0 none ρ') args s 0 0 (rf_A h0)) (F0 m 228 ls [])) o) (G : rf_G D h0 s ρ H locs) (hl : lv_has ls 6 [(0, .ref h0), (1, .int x1), (3, .int x3), (4, .int x4)]) : W p l e ({ frames := 3, cells := 0, slots := 0, locals := 67 }) s m args below meth c H locs 0 0 (MQ below (rf_Q D h0 none ρ') args s 0 0 (rf_A h0)) (F0 m 136 ls []) := by
  unfold bq_know_136i100 at h
  obtain ⟨y, hy, h⟩ := bd_some h
  have hE : (fun z : (Int32 × rf_S) => ∀ (H : Heap) (locs : List Loc) (ls : Array Slot), rf_G D h0 s z.2 H locs → lv_has ls 6 [(0, .ref h0), (1, .int x1), (3, .int x3), (4, .int z.1)] → W p l e ({ frames := 3, cells := 0, slots := 0, locals := 67 }) s m args below meth c H locs 0 0 (MQ below (rf_Q D h0 none ρ') args s 0 0 (rf_A h0)) (F0 m 222 ls [])) y := by
    intro H locs ls G hl
    obtain ⟨x4, ρ⟩ := y
    dsimp only at h G hl
    unfold eq_know_136i100 at h
    refine vl_ex h (fun x1_18 ey h => ?_)
    refine lv_iinc (v := x1_18) (lv' := [(1, .int x1_18), (0, .ref h0), (3, .int x3), (4, .int x4)]) C.1 C.2.1 dX12_know_222 hl (k := 1) rfl (by rw [ey]; rfl) (by decide) rfl (fun ls hl => ?_)
    refine lv_goto (tgt := 100) C.1 C.2.1 dX12_know_225 (by decide) ?_
    cases h
    exact hP _ _ _ G (lv_sub hl [1, 0] rfl)
  refine lp_recE (fun z : (Int32 × rf_S) => ∀ (H : Heap) (locs : List Loc) (ls : Array Slot), rf_G D h0 s z.2 H locs → lv_has ls 6 [(0, .ref h0), (1, .int x1), (3, .int x3), (4, .int z.1)] → W p l e ({ frames := 3, cells := 0, slots := 0, locals := 67 }) s m args below meth c H locs 0 0 (MQ below (rf_Q D h0 none ρ') args s 0 0 (rf_A h0)) (F0 m 136 ls [])) (fun z : (Int32 × rf_S) => ∀ (H : Heap) (locs : List Loc) (ls : Array Slot), rf_G D h0 s z.2 H locs → lv_has ls 6 [(0, .ref h0), (1, .int x1), (3, .int x3), (4, .int z.1)] → W p l e ({ frames := 3, cells := 0, slots := 0, locals := 67 }) s m args below meth c H locs 0 0 (MQ below (rf_Q D h0 none ρ') args s 0 0 (rf_A h0)) (F0 m 222 ls [])) ?_ _ _ hy hE _ _ _ G hl
  clear hE hy G hl h hP
  intro z o h hP H locs ls G hl
  obtain ⟨x4, ρ⟩ := z
  dsimp only at h G hl
  unfold lq_know_136i100 at h
  refine lv_iload C.1 C.2.1 dX12_know_136 (lv_at hl 3 rfl) ?_
  refine lv_if_lt (tgt := 222) C.1 C.2.1 dX12_know_138 (by decide) (fun hc => ?_) (fun hc => ?_)
  · rw [if_pos hc] at h
    cases h
    exact hP _ _ _ G (lv_sub hl [0, 1, 2, 3] rfl)
  · rw [if_neg hc] at h
    refine lv_iload C.1 C.2.1 dX12_know_141 (lv_at hl 3 rfl) ?_
    refine lv_iconst (v := (3:Int32)) C.1 C.2.1 dX12_know_143 (by decide) ?_
    refine lv_idiv C.1 C.2.1 dX12_know_144 (by decide) ?_
    refine vt_i h (fun x5_12 h => ?_)
    refine lv_istore (lv' := [(5, .int x5_12), (0, .ref h0), (1, .int x1), (3, .int x3), (4, .int x4)]) C.1 C.2.1 dX12_know_145 hl (by decide) rfl (fun ls hl => ?_)
    refine lv_aload_n C.1 C.2.1 dX12_know_147 rfl (lv_at hl 1 rfl) ?_
    refine lv_iload C.1 C.2.1 dX12_know_148 (lv_at hl 0 rfl) ?_
    obtain ⟨r_14, ρ_13, hq, h⟩ := bd2_some h
    refine rf_callV (rest := []) C G cw_partsOf [.int x5_12] _ (kq_partsOf l D h0 hq) (Nat.le_of_ble_eq_true rfl) (Nat.le_of_ble_eq_true rfl) rfl rfl hl.1 (Nat.le_of_ble_eq_true rfl) (Nat.zero_le _) (Nat.zero_le _) dX12_know_150 (fun H locs G => ?_)
    refine W.eq (g2 := F0 m 153 ls [.int r_14]) rfl ?_
    refine lv_iload_n C.1 C.2.1 dX12_know_153 rfl (lv_at hl 3 rfl) ?_
    refine lv_icmp_gt (tgt := 166) C.1 C.2.1 dX12_know_154 (by decide) (fun hc => ?_) (fun hc => ?_)
    · rw [if_pos hc] at h
      exact wq_know_166i136 C h hP G (lv_sub hl [1, 2, 3, 4, 0] rfl)
    · rw [if_neg hc] at h
      refine lv_aload_n C.1 C.2.1 dX12_know_157 rfl (lv_at hl 1 rfl) ?_
      refine lv_iload C.1 C.2.1 dX12_know_158 (lv_at hl 0 rfl) ?_
      refine lv_iload_n C.1 C.2.1 dX12_know_160 rfl (lv_at hl 3 rfl) ?_
      refine lv_iconst (v := (1:Int32)) C.1 C.2.1 dX12_know_161 (by decide) ?_
      refine lv_iadd C.1 C.2.1 dX12_know_162 ?_
      obtain ⟨ρ_17, hq, h⟩ := bd1_some h
      refine rf_callV (rest := []) C G cw_hadBy [.int x5_12, .int (x3 + (1:Int32))] _ (kq_hadBy l D h0 hq) (Nat.le_of_ble_eq_true rfl) (Nat.le_of_ble_eq_true rfl) rfl rfl hl.1 (Nat.le_of_ble_eq_true rfl) (Nat.zero_le _) (Nat.zero_le _) dX12_know_163 (fun H locs G => ?_)
      refine W.eq (g2 := F0 m 166 ls []) rfl ?_
      exact wq_know_166i136 C h hP G (lv_sub hl [1, 2, 3, 4, 0] rfl)
noncomputable def lq_know_100 (x1 : Int32) (ρ : rf_S) : Option ((Int32 × rf_S) ⊕ (Int32 × rf_S)) := (if (ρ.1 0 10) ≤ x1 then some (.inr (x1, ρ)) else ix x1 112000 (vl (ρ.1 10 x1.toNatClampNeg) (fun x2_8 => ix x2_8 112000 (vl (ρ.1 7 x2_8.toNatClampNeg) (fun x3_9 => bd1 (fq_open x2_8 x3_9 ρ) (fun ρ_10 => ix x2_8 112000 (vl (ρ_10.1 8 x2_8.toNatClampNeg) (fun x4_11 => bq_know_136i100 x1 x3_9 x4_11 ρ_10))))))))
noncomputable def eq_know_100 (x1 : Int32) (ρ : rf_S) : Option (rf_S) := some ρ
noncomputable def bq_know_100 (x1 : Int32) (ρ : rf_S) : Option (rf_S) := (lp (fun z : (Int32 × rf_S) => lq_know_100  z.1 z.2) (x1, ρ)).bind (fun z => eq_know_100  z.1 z.2)
set_option maxHeartbeats 4000000 in
theorem wq_know_100 (C : rf_C D p s m args meth c cX12_know 6 none) {x1 : Int32} {ρ ρ' : rf_S} {H : Heap} {locs : List Loc} {ls : Array Slot} (h : bq_know_100 x1 ρ = some ρ') (G : rf_G D h0 s ρ H locs) (hl : lv_has ls 6 [(0, .ref h0), (1, .int x1)]) : W p l e ({ frames := 3, cells := 0, slots := 0, locals := 67 }) s m args below meth c H locs 0 0 (MQ below (rf_Q D h0 none ρ') args s 0 0 (rf_A h0)) (F0 m 100 ls []) := by
  unfold bq_know_100 at h
  obtain ⟨y, hy, h⟩ := bd_some h
  have hE : (fun z : (Int32 × rf_S) => ∀ (H : Heap) (locs : List Loc) (ls : Array Slot), rf_G D h0 s z.2 H locs → lv_has ls 6 [(0, .ref h0), (1, .int z.1)] → W p l e ({ frames := 3, cells := 0, slots := 0, locals := 67 }) s m args below meth c H locs 0 0 (MQ below (rf_Q D h0 none ρ') args s 0 0 (rf_A h0)) (F0 m 228 ls [])) y := by
    intro H locs ls G hl
    obtain ⟨x1, ρ⟩ := y
    dsimp only at h G hl
    unfold eq_know_100 at h
    exact rf_vret C G h dX12_know_228
  refine lp_recE (fun z : (Int32 × rf_S) => ∀ (H : Heap) (locs : List Loc) (ls : Array Slot), rf_G D h0 s z.2 H locs → lv_has ls 6 [(0, .ref h0), (1, .int z.1)] → W p l e ({ frames := 3, cells := 0, slots := 0, locals := 67 }) s m args below meth c H locs 0 0 (MQ below (rf_Q D h0 none ρ') args s 0 0 (rf_A h0)) (F0 m 100 ls [])) (fun z : (Int32 × rf_S) => ∀ (H : Heap) (locs : List Loc) (ls : Array Slot), rf_G D h0 s z.2 H locs → lv_has ls 6 [(0, .ref h0), (1, .int z.1)] → W p l e ({ frames := 3, cells := 0, slots := 0, locals := 67 }) s m args below meth c H locs 0 0 (MQ below (rf_Q D h0 none ρ') args s 0 0 (rf_A h0)) (F0 m 228 ls [])) ?_ _ _ hy hE _ _ _ G hl
  clear hE hy G hl h
  intro z o h hP H locs ls G hl
  obtain ⟨x1, ρ⟩ := z
  dsimp only at h G hl
  unfold lq_know_100 at h
  refine lv_iload_n C.1 C.2.1 dX12_know_100 rfl (lv_at hl 1 rfl) ?_
  refine lv_aload_n C.1 C.2.1 dX12_know_101 rfl (lv_at hl 0 rfl) ?_
  refine gf_10 C G dX12_know_102 ?_
  refine lv_icmp_ge (tgt := 228) C.1 C.2.1 dX12_know_105 (by decide) (fun hc => ?_) (fun hc => ?_)
  · rw [if_pos hc] at h
    cases h
    exact hP _ _ _ G (lv_sub hl [0, 1] rfl)
  · rw [if_neg hc] at h
    refine lv_aload_n C.1 C.2.1 dX12_know_108 rfl (lv_at hl 0 rfl) ?_
    refine gf_9 C G dX12_know_109 ?_
    refine lv_iload_n C.1 C.2.1 dX12_know_112 rfl (lv_at hl 1 rfl) ?_
    obtain ⟨hi, h⟩ := ix_some h
    refine rf_iald C G 10 rfl (by decide) rfl rfl hi dX12_know_113 ?_
    refine vt_i h (fun x2_8 h => ?_)
    refine lv_istore_n (lv' := [(2, .int x2_8), (0, .ref h0), (1, .int x1)]) C.1 C.2.1 dX12_know_114 rfl hl (by decide) rfl (fun ls hl => ?_)
    refine lv_aload_n C.1 C.2.1 dX12_know_115 rfl (lv_at hl 1 rfl) ?_
    refine gf_6 C G dX12_know_116 ?_
    refine lv_iload_n C.1 C.2.1 dX12_know_119 rfl (lv_at hl 0 rfl) ?_
    obtain ⟨hi, h⟩ := ix_some h
    refine rf_iald C G 7 rfl (by decide) rfl rfl hi dX12_know_120 ?_
    refine vt_i h (fun x3_9 h => ?_)
    refine lv_istore_n (lv' := [(3, .int x3_9), (2, .int x2_8), (0, .ref h0), (1, .int x1)]) C.1 C.2.1 dX12_know_121 rfl hl (by decide) rfl (fun ls hl => ?_)
    refine lv_aload_n C.1 C.2.1 dX12_know_122 rfl (lv_at hl 2 rfl) ?_
    refine lv_iload_n C.1 C.2.1 dX12_know_123 rfl (lv_at hl 1 rfl) ?_
    refine lv_iload_n C.1 C.2.1 dX12_know_124 rfl (lv_at hl 0 rfl) ?_
    obtain ⟨ρ_10, hq, h⟩ := bd1_some h
    refine rf_callV (rest := []) C G cw_open [.int x2_8, .int x3_9] _ (kq_open l D h0 hq) (Nat.le_of_ble_eq_true rfl) (Nat.le_of_ble_eq_true rfl) rfl rfl hl.1 (Nat.le_of_ble_eq_true rfl) (Nat.zero_le _) (Nat.zero_le _) dX12_know_125 (fun H locs G => ?_)
    refine W.eq (g2 := F0 m 128 ls []) rfl ?_
    refine lv_aload_n C.1 C.2.1 dX12_know_128 rfl (lv_at hl 2 rfl) ?_
    refine gf_7 C G dX12_know_129 ?_
    refine lv_iload_n C.1 C.2.1 dX12_know_132 rfl (lv_at hl 1 rfl) ?_
    obtain ⟨hi, h⟩ := ix_some h
    refine rf_iald C G 8 rfl (by decide) rfl rfl hi dX12_know_133 ?_
    refine vt_i h (fun x4_11 h => ?_)
    refine lv_istore (lv' := [(4, .int x4_11), (3, .int x3_9), (2, .int x2_8), (0, .ref h0), (1, .int x1)]) C.1 C.2.1 dX12_know_134 hl (by decide) rfl (fun ls hl => ?_)
    exact wq_know_136i100 C h hP G (lv_sub hl [3, 4, 1, 0] rfl)
noncomputable def eq_know_50 (x1 : Int32) (ρ : rf_S) : Option (rf_S) := bq_know_100 (0:Int32) ρ
noncomputable def bq_know_50 (x1 : Int32) (ρ : rf_S) : Option (rf_S) := (lp (fun z : (Int32 × rf_S) => lq_know_50  z.1 z.2) (x1, ρ)).bind (fun z => eq_know_50  z.1 z.2)
set_option maxHeartbeats 4000000 in
theorem wq_know_50 (C : rf_C D p s m args meth c cX12_know 6 none) {x1 : Int32} {ρ ρ' : rf_S} {H : Heap} {locs : List Loc} {ls : Array Slot} (h : bq_know_50 x1 ρ = some ρ') (G : rf_G D h0 s ρ H locs) (hl : lv_has ls 6 [(0, .ref h0), (1, .int x1)]) : W p l e ({ frames := 3, cells := 0, slots := 0, locals := 67 }) s m args below meth c H locs 0 0 (MQ below (rf_Q D h0 none ρ') args s 0 0 (rf_A h0)) (F0 m 50 ls []) := by
  unfold bq_know_50 at h
  obtain ⟨y, hy, h⟩ := bd_some h
  have hE : (fun z : (Int32 × rf_S) => ∀ (H : Heap) (locs : List Loc) (ls : Array Slot), rf_G D h0 s z.2 H locs → lv_has ls 6 [(0, .ref h0), (1, .int z.1)] → W p l e ({ frames := 3, cells := 0, slots := 0, locals := 67 }) s m args below meth c H locs 0 0 (MQ below (rf_Q D h0 none ρ') args s 0 0 (rf_A h0)) (F0 m 98 ls [])) y := by
    intro H locs ls G hl
    obtain ⟨x1, ρ⟩ := y
    dsimp only at h G hl
    unfold eq_know_50 at h
    refine lv_iconst (v := (0:Int32)) C.1 C.2.1 dX12_know_98 (by decide) ?_
    refine lv_istore_n (lv' := [(1, .int (0:Int32)), (0, .ref h0)]) C.1 C.2.1 dX12_know_99 rfl hl (by decide) rfl (fun ls hl => ?_)
    exact wq_know_100 C h G (lv_sub hl [1, 0] rfl)
  refine lp_recE (fun z : (Int32 × rf_S) => ∀ (H : Heap) (locs : List Loc) (ls : Array Slot), rf_G D h0 s z.2 H locs → lv_has ls 6 [(0, .ref h0), (1, .int z.1)] → W p l e ({ frames := 3, cells := 0, slots := 0, locals := 67 }) s m args below meth c H locs 0 0 (MQ below (rf_Q D h0 none ρ') args s 0 0 (rf_A h0)) (F0 m 50 ls [])) (fun z : (Int32 × rf_S) => ∀ (H : Heap) (locs : List Loc) (ls : Array Slot), rf_G D h0 s z.2 H locs → lv_has ls 6 [(0, .ref h0), (1, .int z.1)] → W p l e ({ frames := 3, cells := 0, slots := 0, locals := 67 }) s m args below meth c H locs 0 0 (MQ below (rf_Q D h0 none ρ') args s 0 0 (rf_A h0)) (F0 m 98 ls [])) ?_ _ _ hy hE _ _ _ G hl
  clear hE hy G hl h
  intro z o h hP H locs ls G hl
  obtain ⟨x1, ρ⟩ := z
  dsimp only at h G hl
  unfold lq_know_50 at h
  refine lv_iload_n C.1 C.2.1 dX12_know_50 rfl (lv_at hl 1 rfl) ?_
  refine lv_aload_n C.1 C.2.1 dX12_know_51 rfl (lv_at hl 0 rfl) ?_
  refine gf_12 C G dX12_know_52 ?_
  refine lv_icmp_ge (tgt := 98) C.1 C.2.1 dX12_know_55 (by decide) (fun hc => ?_) (fun hc => ?_)
  · rw [if_pos hc] at h
    cases h
    exact hP _ _ _ G (lv_sub hl [0, 1] rfl)
  · rw [if_neg hc] at h
    refine lv_aload_n C.1 C.2.1 dX12_know_58 rfl (lv_at hl 0 rfl) ?_
    refine gf_6 C G dX12_know_59 ?_
    refine lv_iload_n C.1 C.2.1 dX12_know_62 rfl (lv_at hl 1 rfl) ?_
    refine lv_ldcw (v := (1000000000:Int32)) C.1 C.2.1 C.2.2.2.1 (C.2.2.2.2.1 _ kc_309) dX12_know_63 ?_
    obtain ⟨hi, h⟩ := ix_some h
    refine rf_iast C G 7 rfl (by decide) rfl rfl hi dX12_know_66 (fun H locs G => ?_)
    refine rf_nm G h (fun ρ_5 G h => ?_)
    refine lv_aload_n C.1 C.2.1 dX12_know_67 rfl (lv_at hl 0 rfl) ?_
    refine gf_0 C G dX12_know_68 ?_
    refine lv_iload_n C.1 C.2.1 dX12_know_71 rfl (lv_at hl 1 rfl) ?_
    obtain ⟨hi, h⟩ := ix_some h
    refine rf_bald C G 1 rfl (by decide) rfl rfl hi dX12_know_72 ?_
    refine lv_iconst (v := (2:Int32)) C.1 C.2.1 dX12_know_73 (by decide) ?_
    refine lv_icmp_lt (tgt := 86) C.1 C.2.1 dX12_know_74 (by decide) (fun hc => ?_) (fun hc => ?_)
    · rw [if_pos hc] at h
      exact wq_know_86i50 C h hP G (lv_sub hl [0, 1] rfl)
    · rw [if_neg hc] at h
      refine lv_aload_n C.1 C.2.1 dX12_know_77 rfl (lv_at hl 0 rfl) ?_
      refine gf_5 C G dX12_know_78 ?_
      refine lv_iload_n C.1 C.2.1 dX12_know_81 rfl (lv_at hl 1 rfl) ?_
      obtain ⟨hi, h⟩ := ix_some h
      refine rf_zald C G 6 rfl (by decide) rfl rfl hi dX12_know_82 ?_
      refine lv_if_eq (tgt := 92) C.1 C.2.1 dX12_know_83 (by decide) (fun hc => ?_) (fun hc => ?_)
      · rw [if_pos hc] at h
        exact wq_know_92i50 C h hP G (lv_sub hl [0, 1] rfl)
      · rw [if_neg hc] at h
        exact wq_know_86i50 C h hP G (lv_sub hl [0, 1] rfl)
noncomputable def bq_know_23  (ρ : rf_S) : Option (rf_S) := vl (rf_w ρ 0 15 (ρ.1 0 12)) (fun ρ_1 => vl (rf_w ρ_1 0 16 (ρ_1.1 0 14)) (fun ρ_2 => bd1 (fq_link ρ_2) (fun ρ_3 => vl (rf_w ρ_3 0 10 (0:Int32)) (fun ρ_4 => bq_know_50 (0:Int32) ρ_4))))
set_option maxHeartbeats 4000000 in
theorem wq_know_23 (C : rf_C D p s m args meth c cX12_know 6 none) {ρ ρ' : rf_S} {H : Heap} {locs : List Loc} {ls : Array Slot} (h : bq_know_23 ρ = some ρ') (G : rf_G D h0 s ρ H locs) (hl : lv_has ls 6 [(0, .ref h0)]) : W p l e ({ frames := 3, cells := 0, slots := 0, locals := 67 }) s m args below meth c H locs 0 0 (MQ below (rf_Q D h0 none ρ') args s 0 0 (rf_A h0)) (F0 m 23 ls []) := by
  unfold bq_know_23 at h
  refine lv_aload_n C.1 C.2.1 dX12_know_23 rfl (lv_at hl 0 rfl) ?_
  refine lv_aload_n C.1 C.2.1 dX12_know_24 rfl (lv_at hl 0 rfl) ?_
  refine gf_12 C G dX12_know_25 ?_
  refine pf_15 C G dX12_know_28 (fun H locs G => ?_)
  refine rf_nm G h (fun ρ_1 G h => ?_)
  refine lv_aload_n C.1 C.2.1 dX12_know_31 rfl (lv_at hl 0 rfl) ?_
  refine lv_aload_n C.1 C.2.1 dX12_know_32 rfl (lv_at hl 0 rfl) ?_
  refine gf_14 C G dX12_know_33 ?_
  refine pf_16 C G dX12_know_36 (fun H locs G => ?_)
  refine rf_nm G h (fun ρ_2 G h => ?_)
  refine lv_aload_n C.1 C.2.1 dX12_know_39 rfl (lv_at hl 0 rfl) ?_
  obtain ⟨ρ_3, hq, h⟩ := bd1_some h
  refine rf_callV (rest := []) C G cw_link [] _ (kq_link l D h0 hq) (Nat.le_of_ble_eq_true rfl) (Nat.le_of_ble_eq_true rfl) rfl rfl hl.1 (Nat.le_of_ble_eq_true rfl) (Nat.zero_le _) (Nat.zero_le _) dX12_know_40 (fun H locs G => ?_)
  refine W.eq (g2 := F0 m 43 ls []) rfl ?_
  refine lv_aload_n C.1 C.2.1 dX12_know_43 rfl (lv_at hl 0 rfl) ?_
  refine lv_iconst (v := (0:Int32)) C.1 C.2.1 dX12_know_44 (by decide) ?_
  refine pf_10 C G dX12_know_45 (fun H locs G => ?_)
  refine rf_nm G h (fun ρ_4 G h => ?_)
  refine lv_iconst (v := (0:Int32)) C.1 C.2.1 dX12_know_48 (by decide) ?_
  refine lv_istore_n (lv' := [(1, .int (0:Int32)), (0, .ref h0)]) C.1 C.2.1 dX12_know_49 rfl hl (by decide) rfl (fun ls hl => ?_)
  exact wq_know_50 C h G (lv_sub hl [1, 0] rfl)
noncomputable def bq_know_0  (ρ : rf_S) : Option (rf_S) := (if (ρ.1 0 15) = (ρ.1 0 12) then (if (ρ.1 0 16) = (ρ.1 0 14) then some ρ else bq_know_23 ρ) else bq_know_23 ρ)
set_option maxHeartbeats 4000000 in
theorem wq_know_0 (C : rf_C D p s m args meth c cX12_know 6 none) {ρ ρ' : rf_S} {H : Heap} {locs : List Loc} {ls : Array Slot} (h : bq_know_0 ρ = some ρ') (G : rf_G D h0 s ρ H locs) (hl : lv_has ls 6 [(0, .ref h0)]) : W p l e ({ frames := 3, cells := 0, slots := 0, locals := 67 }) s m args below meth c H locs 0 0 (MQ below (rf_Q D h0 none ρ') args s 0 0 (rf_A h0)) (F0 m 0 ls []) := by
  unfold bq_know_0 at h
  refine lv_aload_n C.1 C.2.1 dX12_know_0 rfl (lv_at hl 0 rfl) ?_
  refine gf_15 C G dX12_know_1 ?_
  refine lv_aload_n C.1 C.2.1 dX12_know_4 rfl (lv_at hl 0 rfl) ?_
  refine gf_12 C G dX12_know_5 ?_
  refine lv_icmp_ne (tgt := 23) C.1 C.2.1 dX12_know_8 (by decide) (fun hc => ?_) (fun hc => ?_)
  · rw [if_neg hc] at h
    exact wq_know_23 C h G (lv_sub hl [0] rfl)
  · rw [if_pos hc] at h
    refine lv_aload_n C.1 C.2.1 dX12_know_11 rfl (lv_at hl 0 rfl) ?_
    refine gf_16 C G dX12_know_12 ?_
    refine lv_aload_n C.1 C.2.1 dX12_know_15 rfl (lv_at hl 0 rfl) ?_
    refine gf_14 C G dX12_know_16 ?_
    refine lv_icmp_ne (tgt := 23) C.1 C.2.1 dX12_know_19 (by decide) (fun hc => ?_) (fun hc => ?_)
    · rw [if_neg hc] at h
      exact wq_know_23 C h G (lv_sub hl [0] rfl)
    · rw [if_pos hc] at h
      exact rf_vret C G h dX12_know_22
noncomputable def fq_know  (ρ : rf_S) : Option (rf_S) := bq_know_0 ρ
theorem kq_know (l : Launch) (D : rf_D) (h0 : Nat) {ρ ρ' : rf_S} (h : fq_know ρ = some ρ') : rf_Met l D h0 yX12_know cX12_know 6 none 3 67 [.ref h0] ρ none ρ' :=
  rf_of rfl cc_know (Nat.le_of_ble_eq_true rfl) (fun p e s m args below meth c ls C G hl => wq_know_0 C h G hl)
abbrev cX12_type : ByteArray := prog_14_method_17_code
def yX12_type : MethodName := ⟨RX12, "type", "(JI)I"⟩
theorem dX12_type_0 : decode cX12_type 0 = .ok (.iload_n 3, 1) := by decide +kernel
theorem dX12_type_1 : decode cX12_type 1 = .ok (.ifCond .lt 9, 3) := by decide +kernel
theorem dX12_type_4 : decode cX12_type 4 = .ok (.iload_n 3, 1) := by decide +kernel
theorem dX12_type_5 : decode cX12_type 5 = .ok (.bipush 8, 2) := by decide +kernel
theorem dX12_type_7 : decode cX12_type 7 = .ok (.if_icmp .le 6, 3) := by decide +kernel
theorem dX12_type_10 : decode cX12_type 10 = .ok (.bipush (-2), 2) := by decide +kernel
theorem dX12_type_12 : decode cX12_type 12 = .ok (.ireturn, 1) := by decide +kernel
theorem dX12_type_13 : decode cX12_type 13 = .ok (.iload_n 3, 1) := by decide +kernel
theorem dX12_type_14 : decode cX12_type 14 = .ok (.ifCond .ne 8, 3) := by decide +kernel
theorem dX12_type_17 : decode cX12_type 17 = .ok (.aload_n 0, 1) := by decide +kernel
theorem dX12_type_18 : decode cX12_type 18 = .ok (.iconst 0, 1) := by decide +kernel
theorem dX12_type_19 : decode cX12_type 19 = .ok (.putfield 338, 3) := by decide +kernel
theorem dX12_type_22 : decode cX12_type 22 = .ok (.aload_n 0, 1) := by decide +kernel
theorem dX12_type_23 : decode cX12_type 23 = .ok (.getfield 338, 3) := by decide +kernel
theorem dX12_type_26 : decode cX12_type 26 = .ok (.iload_n 3, 1) := by decide +kernel
theorem dX12_type_27 : decode cX12_type 27 = .ok (.iadd, 1) := by decide +kernel
theorem dX12_type_28 : decode cX12_type 28 = .ok (.sipush 6000, 3) := by decide +kernel
theorem dX12_type_31 : decode cX12_type 31 = .ok (.if_icmp .le 6, 3) := by decide +kernel
theorem dX12_type_34 : decode cX12_type 34 = .ok (.bipush (-4), 2) := by decide +kernel
theorem dX12_type_36 : decode cX12_type 36 = .ok (.ireturn, 1) := by decide +kernel
theorem dX12_type_37 : decode cX12_type 37 = .ok (.iload_n 3, 1) := by decide +kernel
theorem dX12_type_38 : decode cX12_type 38 = .ok (.iconst 1, 1) := by decide +kernel
theorem dX12_type_39 : decode cX12_type 39 = .ok (.isub, 1) := by decide +kernel
theorem dX12_type_40 : decode cX12_type 40 = .ok (.istore 4, 2) := by decide +kernel
theorem dX12_type_42 : decode cX12_type 42 = .ok (.iload 4, 2) := by decide +kernel
theorem dX12_type_44 : decode cX12_type 44 = .ok (.ifCond .lt 37, 3) := by decide +kernel
theorem dX12_type_47 : decode cX12_type 47 = .ok (.aload_n 0, 1) := by decide +kernel
theorem dX12_type_48 : decode cX12_type 48 = .ok (.getfield 68, 3) := by decide +kernel
theorem dX12_type_51 : decode cX12_type 51 = .ok (.aload_n 0, 1) := by decide +kernel
theorem dX12_type_52 : decode cX12_type 52 = .ok (.getfield 338, 3) := by decide +kernel
theorem dX12_type_55 : decode cX12_type 55 = .ok (.lload_n 1, 1) := by decide +kernel
theorem dX12_type_56 : decode cX12_type 56 = .ok (.bipush 8, 2) := by decide +kernel
theorem dX12_type_58 : decode cX12_type 58 = .ok (.iload 4, 2) := by decide +kernel
theorem dX12_type_60 : decode cX12_type 60 = .ok (.imul, 1) := by decide +kernel
theorem dX12_type_61 : decode cX12_type 61 = .ok (.lushr, 1) := by decide +kernel
theorem dX12_type_62 : decode cX12_type 62 = .ok (.l2i, 1) := by decide +kernel
theorem dX12_type_63 : decode cX12_type 63 = .ok (.i2b, 1) := by decide +kernel
theorem dX12_type_64 : decode cX12_type 64 = .ok (.bastore, 1) := by decide +kernel
theorem dX12_type_65 : decode cX12_type 65 = .ok (.aload_n 0, 1) := by decide +kernel
theorem dX12_type_66 : decode cX12_type 66 = .ok (.dup, 1) := by decide +kernel
theorem dX12_type_67 : decode cX12_type 67 = .ok (.getfield 338, 3) := by decide +kernel
theorem dX12_type_70 : decode cX12_type 70 = .ok (.iconst 1, 1) := by decide +kernel
theorem dX12_type_71 : decode cX12_type 71 = .ok (.iadd, 1) := by decide +kernel
theorem dX12_type_72 : decode cX12_type 72 = .ok (.putfield 338, 3) := by decide +kernel
theorem dX12_type_75 : decode cX12_type 75 = .ok (.iinc 4 (-1), 3) := by decide +kernel
theorem dX12_type_78 : decode cX12_type 78 = .ok (.goto (-36), 3) := by decide +kernel
theorem dX12_type_81 : decode cX12_type 81 = .ok (.aload_n 0, 1) := by decide +kernel
theorem dX12_type_82 : decode cX12_type 82 = .ok (.getfield 338, 3) := by decide +kernel
theorem dX12_type_85 : decode cX12_type 85 = .ok (.ireturn, 1) := by decide +kernel
theorem cc_type : Cond.code yX12_type cX12_type 5 (some .int) ∈ rf_tb := rf_at 1905 (by decide +kernel) (by decide +kernel)
noncomputable def lq_type_42 (x1 : Int64) (x4 : Int32) (ρ : rf_S) : Option ((Int32 × rf_S) ⊕ (Int32 × rf_S)) := (if x4 < 0 then some (.inr (x4, ρ)) else ix (ρ.1 0 26) 6000 (vl (rf_w ρ 16 (ρ.1 0 26).toNatClampNeg (((((x1.toUInt64 >>> (((8:Int32) * x4).toInt64.toUInt64 &&& Int64.toUInt64 63)).toInt64).toInt32).toInt8.toInt32).toInt8.toInt32)) (fun ρ_2 => vl (rf_w ρ_2 0 26 ((ρ_2.1 0 26) + (1:Int32))) (fun ρ_3 => vl (x4 + (-1:Int32)) (fun x4_4 => some (.inl (x4_4, ρ_3)))))))
noncomputable def eq_type_42 (x1 : Int64) (x4 : Int32) (ρ : rf_S) : Option (Int32 × rf_S) := some ((ρ.1 0 26), ρ)
noncomputable def bq_type_42 (x1 : Int64) (x4 : Int32) (ρ : rf_S) : Option (Int32 × rf_S) := (lp (fun z : (Int32 × rf_S) => lq_type_42 x1 z.1 z.2) (x4, ρ)).bind (fun z => eq_type_42 x1 z.1 z.2)
set_option maxHeartbeats 4000000 in
theorem wq_type_42 (C : rf_C D p s m args meth c cX12_type 5 (some .int)) {r : Int32} {x1 : Int64} {x4 : Int32} {ρ ρ' : rf_S} {H : Heap} {locs : List Loc} {ls : Array Slot} (h : bq_type_42 x1 x4 ρ = some (r, ρ')) (G : rf_G D h0 s ρ H locs) (hl : lv_has ls 5 [(0, .ref h0), (1, .long x1), (4, .int x4)]) : W p l e ({ frames := 0, cells := 0, slots := 0, locals := 0 }) s m args below meth c H locs 0 0 (MQ below (rf_Q D h0 (some (.int r)) ρ') args s 0 0 (rf_A h0)) (F0 m 42 ls []) := by
  unfold bq_type_42 at h
  obtain ⟨y, hy, h⟩ := bd_some h
  have hE : (fun z : (Int32 × rf_S) => ∀ (H : Heap) (locs : List Loc) (ls : Array Slot), rf_G D h0 s z.2 H locs → lv_has ls 5 [(0, .ref h0), (1, .long x1), (4, .int z.1)] → W p l e ({ frames := 0, cells := 0, slots := 0, locals := 0 }) s m args below meth c H locs 0 0 (MQ below (rf_Q D h0 (some (.int r)) ρ') args s 0 0 (rf_A h0)) (F0 m 81 ls [])) y := by
    intro H locs ls G hl
    obtain ⟨x4, ρ⟩ := y
    dsimp only at h G hl
    unfold eq_type_42 at h
    refine lv_aload_n C.1 C.2.1 dX12_type_81 rfl (lv_at hl 0 rfl) ?_
    refine gf_26 C G dX12_type_82 ?_
    exact rf_iret C G h dX12_type_85
  refine lp_recE (fun z : (Int32 × rf_S) => ∀ (H : Heap) (locs : List Loc) (ls : Array Slot), rf_G D h0 s z.2 H locs → lv_has ls 5 [(0, .ref h0), (1, .long x1), (4, .int z.1)] → W p l e ({ frames := 0, cells := 0, slots := 0, locals := 0 }) s m args below meth c H locs 0 0 (MQ below (rf_Q D h0 (some (.int r)) ρ') args s 0 0 (rf_A h0)) (F0 m 42 ls [])) (fun z : (Int32 × rf_S) => ∀ (H : Heap) (locs : List Loc) (ls : Array Slot), rf_G D h0 s z.2 H locs → lv_has ls 5 [(0, .ref h0), (1, .long x1), (4, .int z.1)] → W p l e ({ frames := 0, cells := 0, slots := 0, locals := 0 }) s m args below meth c H locs 0 0 (MQ below (rf_Q D h0 (some (.int r)) ρ') args s 0 0 (rf_A h0)) (F0 m 81 ls [])) ?_ _ _ hy hE _ _ _ G hl
  clear hE hy G hl h
  intro z o h hP H locs ls G hl
  obtain ⟨x4, ρ⟩ := z
  dsimp only at h G hl
  unfold lq_type_42 at h
  refine lv_iload C.1 C.2.1 dX12_type_42 (lv_at hl 2 rfl) ?_
  refine lv_if_lt (tgt := 81) C.1 C.2.1 dX12_type_44 (by decide) (fun hc => ?_) (fun hc => ?_)
  · rw [if_pos hc] at h
    cases h
    exact hP _ _ _ G (lv_sub hl [0, 1, 2] rfl)
  · rw [if_neg hc] at h
    refine lv_aload_n C.1 C.2.1 dX12_type_47 rfl (lv_at hl 0 rfl) ?_
    refine gf_25 C G dX12_type_48 ?_
    refine lv_aload_n C.1 C.2.1 dX12_type_51 rfl (lv_at hl 0 rfl) ?_
    refine gf_26 C G dX12_type_52 ?_
    refine lv_lload_n C.1 C.2.1 dX12_type_55 rfl (lv_at hl 1 rfl) ?_
    refine lv_bipush (v := (8:Int32)) C.1 C.2.1 dX12_type_56 (by decide) ?_
    refine lv_iload C.1 C.2.1 dX12_type_58 (lv_at hl 2 rfl) ?_
    refine lv_imul C.1 C.2.1 dX12_type_60 ?_
    refine lv_lushr C.1 C.2.1 dX12_type_61 rfl ?_
    refine lv_l2i C.1 C.2.1 dX12_type_62 rfl ?_
    refine lv_i2b C.1 C.2.1 dX12_type_63 rfl ?_
    obtain ⟨hi, h⟩ := ix_some h
    refine rf_bast C G 16 rfl (by decide) rfl rfl hi dX12_type_64 (fun H locs G => ?_)
    refine rf_nm G h (fun ρ_2 G h => ?_)
    refine lv_aload_n C.1 C.2.1 dX12_type_65 rfl (lv_at hl 0 rfl) ?_
    refine lv_dup C.1 C.2.1 dX12_type_66 rfl ?_
    refine gf_26 C G dX12_type_67 ?_
    refine lv_iconst (v := (1:Int32)) C.1 C.2.1 dX12_type_70 (by decide) ?_
    refine lv_iadd C.1 C.2.1 dX12_type_71 ?_
    refine pf_26 C G dX12_type_72 (fun H locs G => ?_)
    refine rf_nm G h (fun ρ_3 G h => ?_)
    refine vl_ex h (fun x4_4 ey h => ?_)
    refine lv_iinc (v := x4_4) (lv' := [(4, .int x4_4), (0, .ref h0), (1, .long x1)]) C.1 C.2.1 dX12_type_75 hl (k := 2) rfl (by rw [ey]; rfl) (by decide) rfl (fun ls hl => ?_)
    refine lv_goto (tgt := 42) C.1 C.2.1 dX12_type_78 (by decide) ?_
    cases h
    exact hP _ _ _ G (lv_sub hl [1, 2, 0] rfl)
noncomputable def bq_type_22 (x1 : Int64) (x3 : Int32) (ρ : rf_S) : Option (Int32 × rf_S) := (if ((ρ.1 0 26) + x3) ≤ (6000:Int32) then vl (x3 - (1:Int32)) (fun x4_1 => bq_type_42 x1 x4_1 ρ) else some ((-4:Int32), ρ))
set_option maxHeartbeats 4000000 in
theorem wq_type_22 (C : rf_C D p s m args meth c cX12_type 5 (some .int)) {r : Int32} {x1 : Int64} {x3 : Int32} {ρ ρ' : rf_S} {H : Heap} {locs : List Loc} {ls : Array Slot} (h : bq_type_22 x1 x3 ρ = some (r, ρ')) (G : rf_G D h0 s ρ H locs) (hl : lv_has ls 5 [(0, .ref h0), (1, .long x1), (3, .int x3)]) : W p l e ({ frames := 0, cells := 0, slots := 0, locals := 0 }) s m args below meth c H locs 0 0 (MQ below (rf_Q D h0 (some (.int r)) ρ') args s 0 0 (rf_A h0)) (F0 m 22 ls []) := by
  unfold bq_type_22 at h
  refine lv_aload_n C.1 C.2.1 dX12_type_22 rfl (lv_at hl 0 rfl) ?_
  refine gf_26 C G dX12_type_23 ?_
  refine lv_iload_n C.1 C.2.1 dX12_type_26 rfl (lv_at hl 2 rfl) ?_
  refine lv_iadd C.1 C.2.1 dX12_type_27 ?_
  refine lv_sipush (v := (6000:Int32)) C.1 C.2.1 dX12_type_28 (by decide) ?_
  refine lv_icmp_le (tgt := 37) C.1 C.2.1 dX12_type_31 (by decide) (fun hc => ?_) (fun hc => ?_)
  · rw [if_pos hc] at h
    refine lv_iload_n C.1 C.2.1 dX12_type_37 rfl (lv_at hl 2 rfl) ?_
    refine lv_iconst (v := (1:Int32)) C.1 C.2.1 dX12_type_38 (by decide) ?_
    refine lv_isub C.1 C.2.1 dX12_type_39 ?_
    refine vt_i h (fun x4_1 h => ?_)
    refine lv_istore (lv' := [(4, .int x4_1), (0, .ref h0), (1, .long x1), (3, .int x3)]) C.1 C.2.1 dX12_type_40 hl (by decide) rfl (fun ls hl => ?_)
    exact wq_type_42 C h G (lv_sub hl [1, 2, 0] rfl)
  · rw [if_neg hc] at h
    refine lv_bipush (v := (-4:Int32)) C.1 C.2.1 dX12_type_34 (by decide) ?_
    exact rf_iret C G h dX12_type_36
noncomputable def bq_type_0 (x1 : Int64) (x3 : Int32) (ρ : rf_S) : Option (Int32 × rf_S) := (if x3 < 0 then some ((-2:Int32), ρ) else (if x3 ≤ (8:Int32) then (if x3 = 0 then vl (rf_w ρ 0 26 (0:Int32)) (fun ρ_5 => bq_type_22 x1 x3 ρ_5) else bq_type_22 x1 x3 ρ) else some ((-2:Int32), ρ)))
set_option maxHeartbeats 4000000 in
theorem wq_type_0 (C : rf_C D p s m args meth c cX12_type 5 (some .int)) {r : Int32} {x1 : Int64} {x3 : Int32} {ρ ρ' : rf_S} {H : Heap} {locs : List Loc} {ls : Array Slot} (h : bq_type_0 x1 x3 ρ = some (r, ρ')) (G : rf_G D h0 s ρ H locs) (hl : lv_has ls 5 [(0, .ref h0), (1, .long x1), (3, .int x3)]) : W p l e ({ frames := 0, cells := 0, slots := 0, locals := 0 }) s m args below meth c H locs 0 0 (MQ below (rf_Q D h0 (some (.int r)) ρ') args s 0 0 (rf_A h0)) (F0 m 0 ls []) := by
  unfold bq_type_0 at h
  refine lv_iload_n C.1 C.2.1 dX12_type_0 rfl (lv_at hl 2 rfl) ?_
  refine lv_if_lt (tgt := 10) C.1 C.2.1 dX12_type_1 (by decide) (fun hc => ?_) (fun hc => ?_)
  · rw [if_pos hc] at h
    refine lv_bipush (v := (-2:Int32)) C.1 C.2.1 dX12_type_10 (by decide) ?_
    exact rf_iret C G h dX12_type_12
  · rw [if_neg hc] at h
    refine lv_iload_n C.1 C.2.1 dX12_type_4 rfl (lv_at hl 2 rfl) ?_
    refine lv_bipush (v := (8:Int32)) C.1 C.2.1 dX12_type_5 (by decide) ?_
    refine lv_icmp_le (tgt := 13) C.1 C.2.1 dX12_type_7 (by decide) (fun hc => ?_) (fun hc => ?_)
    · rw [if_pos hc] at h
      refine lv_iload_n C.1 C.2.1 dX12_type_13 rfl (lv_at hl 2 rfl) ?_
      refine lv_if_ne (tgt := 22) C.1 C.2.1 dX12_type_14 (by decide) (fun hc => ?_) (fun hc => ?_)
      · rw [if_neg hc] at h
        exact wq_type_22 C h G (lv_sub hl [0, 1, 2] rfl)
      · rw [if_pos hc] at h
        refine lv_aload_n C.1 C.2.1 dX12_type_17 rfl (lv_at hl 0 rfl) ?_
        refine lv_iconst (v := (0:Int32)) C.1 C.2.1 dX12_type_18 (by decide) ?_
        refine pf_26 C G dX12_type_19 (fun H locs G => ?_)
        refine rf_nm G h (fun ρ_5 G h => ?_)
        exact wq_type_22 C h G (lv_sub hl [0, 1, 2] rfl)
    · rw [if_neg hc] at h
      refine lv_bipush (v := (-2:Int32)) C.1 C.2.1 dX12_type_10 (by decide) ?_
      exact rf_iret C G h dX12_type_12
noncomputable def fq_type (x1 : Int64) (x3 : Int32) (ρ : rf_S) : Option (Int32 × rf_S) := bq_type_0 x1 x3 ρ
theorem kq_type (l : Launch) (D : rf_D) (h0 : Nat) {r : Int32} {x1 : Int64} {x3 : Int32} {ρ ρ' : rf_S} (h : fq_type x1 x3 ρ = some (r, ρ')) : rf_Met l D h0 yX12_type cX12_type 5 (some .int) 0 0 [.ref h0, .long x1, .int x3] ρ (some (.int r)) ρ' :=
  rf_of rfl cc_type (Nat.le_of_ble_eq_true rfl) (fun p e s m args below meth c ls C G hl => wq_type_0 C h G hl)
abbrev cX12_octet : ByteArray := prog_14_method_18_code
def yX12_octet : MethodName := ⟨RX12, "octet", "(I)I"⟩
theorem dX12_octet_0 : decode cX12_octet 0 = .ok (.iload_n 1, 1) := by decide +kernel
theorem dX12_octet_1 : decode cX12_octet 1 = .ok (.aload_n 0, 1) := by decide +kernel
theorem dX12_octet_2 : decode cX12_octet 2 = .ok (.getfield 338, 3) := by decide +kernel
theorem dX12_octet_5 : decode cX12_octet 5 = .ok (.if_icmp .ge 16, 3) := by decide +kernel
theorem dX12_octet_8 : decode cX12_octet 8 = .ok (.aload_n 0, 1) := by decide +kernel
theorem dX12_octet_9 : decode cX12_octet 9 = .ok (.getfield 68, 3) := by decide +kernel
theorem dX12_octet_12 : decode cX12_octet 12 = .ok (.iload_n 1, 1) := by decide +kernel
theorem dX12_octet_13 : decode cX12_octet 13 = .ok (.baload, 1) := by decide +kernel
theorem dX12_octet_14 : decode cX12_octet 14 = .ok (.sipush 255, 3) := by decide +kernel
theorem dX12_octet_17 : decode cX12_octet 17 = .ok (.iand, 1) := by decide +kernel
theorem dX12_octet_18 : decode cX12_octet 18 = .ok (.goto 4, 3) := by decide +kernel
theorem dX12_octet_21 : decode cX12_octet 21 = .ok (.iconst (-1), 1) := by decide +kernel
theorem dX12_octet_22 : decode cX12_octet 22 = .ok (.ireturn, 1) := by decide +kernel
theorem cc_octet : Cond.code yX12_octet cX12_octet 2 (some .int) ∈ rf_tb := rf_at 1921 (by decide +kernel) (by decide +kernel)
theorem cw_octet : rf_wV yX12_octet cX12_octet 2 (some .int) 348 1 := ⟨⟨rf_at 1918 (by decide +kernel) (by decide +kernel), rf_at 1920 (by decide +kernel) (by decide +kernel), rf_sel (q := (yX12_octet, 122)) 82 (by decide +kernel) (by decide +kernel), cc_octet⟩, rfl, by decide +kernel⟩
noncomputable def bq_octet_0 (x1 : Int32) (ρ : rf_S) : Option (Int32 × rf_S) := (if (ρ.1 0 26) ≤ x1 then some ((-1:Int32), ρ) else ix x1 6000 (some (((ρ.1 16 x1.toNatClampNeg) &&& (255:Int32)), ρ)))
set_option maxHeartbeats 4000000 in
theorem wq_octet_0 (C : rf_C D p s m args meth c cX12_octet 2 (some .int)) {r : Int32} {x1 : Int32} {ρ ρ' : rf_S} {H : Heap} {locs : List Loc} {ls : Array Slot} (h : bq_octet_0 x1 ρ = some (r, ρ')) (G : rf_G D h0 s ρ H locs) (hl : lv_has ls 2 [(0, .ref h0), (1, .int x1)]) : W p l e ({ frames := 0, cells := 0, slots := 0, locals := 0 }) s m args below meth c H locs 0 0 (MQ below (rf_Q D h0 (some (.int r)) ρ') args s 0 0 (rf_A h0)) (F0 m 0 ls []) := by
  unfold bq_octet_0 at h
  refine lv_iload_n C.1 C.2.1 dX12_octet_0 rfl (lv_at hl 1 rfl) ?_
  refine lv_aload_n C.1 C.2.1 dX12_octet_1 rfl (lv_at hl 0 rfl) ?_
  refine gf_26 C G dX12_octet_2 ?_
  refine lv_icmp_ge (tgt := 21) C.1 C.2.1 dX12_octet_5 (by decide) (fun hc => ?_) (fun hc => ?_)
  · rw [if_pos hc] at h
    refine lv_iconst (v := (-1:Int32)) C.1 C.2.1 dX12_octet_21 (by decide) ?_
    exact rf_iret C G h dX12_octet_22
  · rw [if_neg hc] at h
    refine lv_aload_n C.1 C.2.1 dX12_octet_8 rfl (lv_at hl 0 rfl) ?_
    refine gf_25 C G dX12_octet_9 ?_
    refine lv_iload_n C.1 C.2.1 dX12_octet_12 rfl (lv_at hl 1 rfl) ?_
    obtain ⟨hi, h⟩ := ix_some h
    refine rf_bald C G 16 rfl (by decide) rfl rfl hi dX12_octet_13 ?_
    refine lv_sipush (v := (255:Int32)) C.1 C.2.1 dX12_octet_14 (by decide) ?_
    refine lv_iand C.1 C.2.1 dX12_octet_17 ?_
    refine lv_goto (tgt := 22) C.1 C.2.1 dX12_octet_18 (by decide) ?_
    exact rf_iret C G h dX12_octet_22
noncomputable def fq_octet (x1 : Int32) (ρ : rf_S) : Option (Int32 × rf_S) := bq_octet_0 x1 ρ
theorem kq_octet (l : Launch) (D : rf_D) (h0 : Nat) {r : Int32} {x1 : Int32} {ρ ρ' : rf_S} (h : fq_octet x1 ρ = some (r, ρ')) : rf_Met l D h0 yX12_octet cX12_octet 2 (some .int) 0 0 [.ref h0, .int x1] ρ (some (.int r)) ρ' :=
  rf_of rfl cc_octet (Nat.le_of_ble_eq_true rfl) (fun p e s m args below meth c ls C G hl => wq_octet_0 C h G hl)
abbrev cX12_isFigure : ByteArray := prog_14_method_19_code
def yX12_isFigure : MethodName := ⟨RX12, "isFigure", "(I)Z"⟩
theorem dX12_isFigure_0 : decode cX12_isFigure 0 = .ok (.iload_n 0, 1) := by decide +kernel
theorem dX12_isFigure_1 : decode cX12_isFigure 1 = .ok (.bipush 48, 2) := by decide +kernel
theorem dX12_isFigure_3 : decode cX12_isFigure 3 = .ok (.if_icmp .lt 13, 3) := by decide +kernel
theorem dX12_isFigure_6 : decode cX12_isFigure 6 = .ok (.iload_n 0, 1) := by decide +kernel
theorem dX12_isFigure_7 : decode cX12_isFigure 7 = .ok (.bipush 57, 2) := by decide +kernel
theorem dX12_isFigure_9 : decode cX12_isFigure 9 = .ok (.if_icmp .gt 7, 3) := by decide +kernel
theorem dX12_isFigure_12 : decode cX12_isFigure 12 = .ok (.iconst 1, 1) := by decide +kernel
theorem dX12_isFigure_13 : decode cX12_isFigure 13 = .ok (.goto 4, 3) := by decide +kernel
theorem dX12_isFigure_16 : decode cX12_isFigure 16 = .ok (.iconst 0, 1) := by decide +kernel
theorem dX12_isFigure_17 : decode cX12_isFigure 17 = .ok (.ireturn, 1) := by decide +kernel
theorem cc_isFigure : Cond.code yX12_isFigure cX12_isFigure 1 (some .boolean) ∈ rf_tb := rf_at 1931 (by decide +kernel) (by decide +kernel)
theorem cw_isFigure : rf_wS yX12_isFigure cX12_isFigure 1 (some .boolean) 341 1 := ⟨⟨rf_at 1929 (by decide +kernel) (by decide +kernel), rf_at 1930 (by decide +kernel) (by decide +kernel), cc_isFigure⟩, rfl, by decide +kernel⟩
noncomputable def bq_isFigure_0 (x0 : Int32) (ρ : rf_S) : Option (Int32 × rf_S) := (if x0 < (48:Int32) then some ((0:Int32), ρ) else (if (57:Int32) < x0 then some ((0:Int32), ρ) else some ((1:Int32), ρ)))
set_option maxHeartbeats 4000000 in
theorem wq_isFigure_0 (C : rf_C D p s m args meth c cX12_isFigure 1 (some .boolean)) {r : Int32} {x0 : Int32} {ρ ρ' : rf_S} {H : Heap} {locs : List Loc} {ls : Array Slot} (h : bq_isFigure_0 x0 ρ = some (r, ρ')) (G : rf_G D h0 s ρ H locs) (hl : lv_has ls 1 [(0, .int x0)]) : W p l e ({ frames := 0, cells := 0, slots := 0, locals := 0 }) s m args below meth c H locs 0 0 (MQ below (rf_Q D h0 (some (.int r)) ρ') args s 0 0 (rf_A h0)) (F0 m 0 ls []) := by
  unfold bq_isFigure_0 at h
  refine lv_iload_n C.1 C.2.1 dX12_isFigure_0 rfl (lv_at hl 0 rfl) ?_
  refine lv_bipush (v := (48:Int32)) C.1 C.2.1 dX12_isFigure_1 (by decide) ?_
  refine lv_icmp_lt (tgt := 16) C.1 C.2.1 dX12_isFigure_3 (by decide) (fun hc => ?_) (fun hc => ?_)
  · rw [if_pos hc] at h
    refine lv_iconst (v := (0:Int32)) C.1 C.2.1 dX12_isFigure_16 (by decide) ?_
    exact rf_zret C G h rfl dX12_isFigure_17
  · rw [if_neg hc] at h
    refine lv_iload_n C.1 C.2.1 dX12_isFigure_6 rfl (lv_at hl 0 rfl) ?_
    refine lv_bipush (v := (57:Int32)) C.1 C.2.1 dX12_isFigure_7 (by decide) ?_
    refine lv_icmp_gt (tgt := 16) C.1 C.2.1 dX12_isFigure_9 (by decide) (fun hc => ?_) (fun hc => ?_)
    · rw [if_pos hc] at h
      refine lv_iconst (v := (0:Int32)) C.1 C.2.1 dX12_isFigure_16 (by decide) ?_
      exact rf_zret C G h rfl dX12_isFigure_17
    · rw [if_neg hc] at h
      refine lv_iconst (v := (1:Int32)) C.1 C.2.1 dX12_isFigure_12 (by decide) ?_
      refine lv_goto (tgt := 17) C.1 C.2.1 dX12_isFigure_13 (by decide) ?_
      exact rf_zret C G h rfl dX12_isFigure_17
noncomputable def fq_isFigure (x0 : Int32) (ρ : rf_S) : Option (Int32 × rf_S) := bq_isFigure_0 x0 ρ
theorem kq_isFigure (l : Launch) (D : rf_D) (h0 : Nat) {r : Int32} {x0 : Int32} {ρ ρ' : rf_S} (h : fq_isFigure x0 ρ = some (r, ρ')) : rf_Met l D h0 yX12_isFigure cX12_isFigure 1 (some .boolean) 0 0 [.int x0] ρ (some (.int r)) ρ' :=
  rf_of rfl cc_isFigure (Nat.le_of_ble_eq_true rfl) (fun p e s m args below meth c ls C G hl => wq_isFigure_0 C h G hl)
abbrev cX12_isLetter : ByteArray := prog_14_method_20_code
def yX12_isLetter : MethodName := ⟨RX12, "isLetter", "(I)Z"⟩
theorem dX12_isLetter_0 : decode cX12_isLetter 0 = .ok (.iload_n 0, 1) := by decide +kernel
theorem dX12_isLetter_1 : decode cX12_isLetter 1 = .ok (.bipush 97, 2) := by decide +kernel
theorem dX12_isLetter_3 : decode cX12_isLetter 3 = .ok (.if_icmp .lt 13, 3) := by decide +kernel
theorem dX12_isLetter_6 : decode cX12_isLetter 6 = .ok (.iload_n 0, 1) := by decide +kernel
theorem dX12_isLetter_7 : decode cX12_isLetter 7 = .ok (.bipush 122, 2) := by decide +kernel
theorem dX12_isLetter_9 : decode cX12_isLetter 9 = .ok (.if_icmp .gt 7, 3) := by decide +kernel
theorem dX12_isLetter_12 : decode cX12_isLetter 12 = .ok (.iconst 1, 1) := by decide +kernel
theorem dX12_isLetter_13 : decode cX12_isLetter 13 = .ok (.goto 4, 3) := by decide +kernel
theorem dX12_isLetter_16 : decode cX12_isLetter 16 = .ok (.iconst 0, 1) := by decide +kernel
theorem dX12_isLetter_17 : decode cX12_isLetter 17 = .ok (.ireturn, 1) := by decide +kernel
theorem cc_isLetter : Cond.code yX12_isLetter cX12_isLetter 1 (some .boolean) ∈ rf_tb := rf_at 1924 (by decide +kernel) (by decide +kernel)
theorem cw_isLetter : rf_wS yX12_isLetter cX12_isLetter 1 (some .boolean) 360 1 := ⟨⟨rf_at 1922 (by decide +kernel) (by decide +kernel), rf_at 1923 (by decide +kernel) (by decide +kernel), cc_isLetter⟩, rfl, by decide +kernel⟩
noncomputable def bq_isLetter_0 (x0 : Int32) (ρ : rf_S) : Option (Int32 × rf_S) := (if x0 < (97:Int32) then some ((0:Int32), ρ) else (if (122:Int32) < x0 then some ((0:Int32), ρ) else some ((1:Int32), ρ)))
set_option maxHeartbeats 4000000 in
theorem wq_isLetter_0 (C : rf_C D p s m args meth c cX12_isLetter 1 (some .boolean)) {r : Int32} {x0 : Int32} {ρ ρ' : rf_S} {H : Heap} {locs : List Loc} {ls : Array Slot} (h : bq_isLetter_0 x0 ρ = some (r, ρ')) (G : rf_G D h0 s ρ H locs) (hl : lv_has ls 1 [(0, .int x0)]) : W p l e ({ frames := 0, cells := 0, slots := 0, locals := 0 }) s m args below meth c H locs 0 0 (MQ below (rf_Q D h0 (some (.int r)) ρ') args s 0 0 (rf_A h0)) (F0 m 0 ls []) := by
  unfold bq_isLetter_0 at h
  refine lv_iload_n C.1 C.2.1 dX12_isLetter_0 rfl (lv_at hl 0 rfl) ?_
  refine lv_bipush (v := (97:Int32)) C.1 C.2.1 dX12_isLetter_1 (by decide) ?_
  refine lv_icmp_lt (tgt := 16) C.1 C.2.1 dX12_isLetter_3 (by decide) (fun hc => ?_) (fun hc => ?_)
  · rw [if_pos hc] at h
    refine lv_iconst (v := (0:Int32)) C.1 C.2.1 dX12_isLetter_16 (by decide) ?_
    exact rf_zret C G h rfl dX12_isLetter_17
  · rw [if_neg hc] at h
    refine lv_iload_n C.1 C.2.1 dX12_isLetter_6 rfl (lv_at hl 0 rfl) ?_
    refine lv_bipush (v := (122:Int32)) C.1 C.2.1 dX12_isLetter_7 (by decide) ?_
    refine lv_icmp_gt (tgt := 16) C.1 C.2.1 dX12_isLetter_9 (by decide) (fun hc => ?_) (fun hc => ?_)
    · rw [if_pos hc] at h
      refine lv_iconst (v := (0:Int32)) C.1 C.2.1 dX12_isLetter_16 (by decide) ?_
      exact rf_zret C G h rfl dX12_isLetter_17
    · rw [if_neg hc] at h
      refine lv_iconst (v := (1:Int32)) C.1 C.2.1 dX12_isLetter_12 (by decide) ?_
      refine lv_goto (tgt := 17) C.1 C.2.1 dX12_isLetter_13 (by decide) ?_
      exact rf_zret C G h rfl dX12_isLetter_17
noncomputable def fq_isLetter (x0 : Int32) (ρ : rf_S) : Option (Int32 × rf_S) := bq_isLetter_0 x0 ρ
theorem kq_isLetter (l : Launch) (D : rf_D) (h0 : Nat) {r : Int32} {x0 : Int32} {ρ ρ' : rf_S} (h : fq_isLetter x0 ρ = some (r, ρ')) : rf_Met l D h0 yX12_isLetter cX12_isLetter 1 (some .boolean) 0 0 [.int x0] ρ (some (.int r)) ρ' :=
  rf_of rfl cc_isLetter (Nat.le_of_ble_eq_true rfl) (fun p e s m args below meth c ls C G hl => wq_isLetter_0 C h G hl)
abbrev cX12_hexOf : ByteArray := prog_14_method_21_code
def yX12_hexOf : MethodName := ⟨RX12, "hexOf", "(I)I"⟩
theorem dX12_hexOf_0 : decode cX12_hexOf 0 = .ok (.iload_n 0, 1) := by decide +kernel
theorem dX12_hexOf_1 : decode cX12_hexOf 1 = .ok (.invokestatic 341, 3) := by decide +kernel
theorem dX12_hexOf_4 : decode cX12_hexOf 4 = .ok (.ifCond .eq 10, 3) := by decide +kernel
theorem dX12_hexOf_7 : decode cX12_hexOf 7 = .ok (.iload_n 0, 1) := by decide +kernel
theorem dX12_hexOf_8 : decode cX12_hexOf 8 = .ok (.bipush 48, 2) := by decide +kernel
theorem dX12_hexOf_10 : decode cX12_hexOf 10 = .ok (.isub, 1) := by decide +kernel
theorem dX12_hexOf_11 : decode cX12_hexOf 11 = .ok (.goto 26, 3) := by decide +kernel
theorem dX12_hexOf_14 : decode cX12_hexOf 14 = .ok (.iload_n 0, 1) := by decide +kernel
theorem dX12_hexOf_15 : decode cX12_hexOf 15 = .ok (.bipush 97, 2) := by decide +kernel
theorem dX12_hexOf_17 : decode cX12_hexOf 17 = .ok (.if_icmp .lt 19, 3) := by decide +kernel
theorem dX12_hexOf_20 : decode cX12_hexOf 20 = .ok (.iload_n 0, 1) := by decide +kernel
theorem dX12_hexOf_21 : decode cX12_hexOf 21 = .ok (.bipush 102, 2) := by decide +kernel
theorem dX12_hexOf_23 : decode cX12_hexOf 23 = .ok (.if_icmp .gt 13, 3) := by decide +kernel
theorem dX12_hexOf_26 : decode cX12_hexOf 26 = .ok (.iload_n 0, 1) := by decide +kernel
theorem dX12_hexOf_27 : decode cX12_hexOf 27 = .ok (.bipush 97, 2) := by decide +kernel
theorem dX12_hexOf_29 : decode cX12_hexOf 29 = .ok (.isub, 1) := by decide +kernel
theorem dX12_hexOf_30 : decode cX12_hexOf 30 = .ok (.bipush 10, 2) := by decide +kernel
theorem dX12_hexOf_32 : decode cX12_hexOf 32 = .ok (.iadd, 1) := by decide +kernel
theorem dX12_hexOf_33 : decode cX12_hexOf 33 = .ok (.goto 4, 3) := by decide +kernel
theorem dX12_hexOf_36 : decode cX12_hexOf 36 = .ok (.iconst (-1), 1) := by decide +kernel
theorem dX12_hexOf_37 : decode cX12_hexOf 37 = .ok (.ireturn, 1) := by decide +kernel
theorem cc_hexOf : Cond.code yX12_hexOf cX12_hexOf 1 (some .int) ∈ rf_tb := rf_at 1938 (by decide +kernel) (by decide +kernel)
theorem cw_hexOf : rf_wS yX12_hexOf cX12_hexOf 1 (some .int) 376 1 := ⟨⟨rf_at 1936 (by decide +kernel) (by decide +kernel), rf_at 1937 (by decide +kernel) (by decide +kernel), cc_hexOf⟩, rfl, by decide +kernel⟩
noncomputable def bq_hexOf_0 (x0 : Int32) (ρ : rf_S) : Option (Int32 × rf_S) := bd2 (fq_isFigure x0 ρ) (fun r_2 ρ_1 => (if r_2 = 0 then (if x0 < (97:Int32) then some ((-1:Int32), ρ_1) else (if (102:Int32) < x0 then some ((-1:Int32), ρ_1) else some (((x0 - (97:Int32)) + (10:Int32)), ρ_1))) else some ((x0 - (48:Int32)), ρ_1)))
set_option maxHeartbeats 4000000 in
theorem wq_hexOf_0 (C : rf_C D p s m args meth c cX12_hexOf 1 (some .int)) {r : Int32} {x0 : Int32} {ρ ρ' : rf_S} {H : Heap} {locs : List Loc} {ls : Array Slot} (h : bq_hexOf_0 x0 ρ = some (r, ρ')) (G : rf_G D h0 s ρ H locs) (hl : lv_has ls 1 [(0, .int x0)]) : W p l e ({ frames := 1, cells := 0, slots := 0, locals := 20 }) s m args below meth c H locs 0 0 (MQ below (rf_Q D h0 (some (.int r)) ρ') args s 0 0 (rf_A h0)) (F0 m 0 ls []) := by
  unfold bq_hexOf_0 at h
  refine lv_iload_n C.1 C.2.1 dX12_hexOf_0 rfl (lv_at hl 0 rfl) ?_
  obtain ⟨r_2, ρ_1, hq, h⟩ := bd2_some h
  refine rf_callS (rest := []) C G cw_isFigure [.int x0] _ (kq_isFigure l D h0 hq) (Nat.le_of_ble_eq_true rfl) (Nat.le_of_ble_eq_true rfl) rfl rfl hl.1 (Nat.le_of_ble_eq_true rfl) (Nat.zero_le _) (Nat.zero_le _) dX12_hexOf_1 (fun H locs G => ?_)
  refine W.eq (g2 := F0 m 4 ls [.int r_2]) rfl ?_
  refine lv_if_eq (tgt := 14) C.1 C.2.1 dX12_hexOf_4 (by decide) (fun hc => ?_) (fun hc => ?_)
  · rw [if_pos hc] at h
    refine lv_iload_n C.1 C.2.1 dX12_hexOf_14 rfl (lv_at hl 0 rfl) ?_
    refine lv_bipush (v := (97:Int32)) C.1 C.2.1 dX12_hexOf_15 (by decide) ?_
    refine lv_icmp_lt (tgt := 36) C.1 C.2.1 dX12_hexOf_17 (by decide) (fun hc => ?_) (fun hc => ?_)
    · rw [if_pos hc] at h
      refine lv_iconst (v := (-1:Int32)) C.1 C.2.1 dX12_hexOf_36 (by decide) ?_
      exact rf_iret C G h dX12_hexOf_37
    · rw [if_neg hc] at h
      refine lv_iload_n C.1 C.2.1 dX12_hexOf_20 rfl (lv_at hl 0 rfl) ?_
      refine lv_bipush (v := (102:Int32)) C.1 C.2.1 dX12_hexOf_21 (by decide) ?_
      refine lv_icmp_gt (tgt := 36) C.1 C.2.1 dX12_hexOf_23 (by decide) (fun hc => ?_) (fun hc => ?_)
      · rw [if_pos hc] at h
        refine lv_iconst (v := (-1:Int32)) C.1 C.2.1 dX12_hexOf_36 (by decide) ?_
        exact rf_iret C G h dX12_hexOf_37
      · rw [if_neg hc] at h
        refine lv_iload_n C.1 C.2.1 dX12_hexOf_26 rfl (lv_at hl 0 rfl) ?_
        refine lv_bipush (v := (97:Int32)) C.1 C.2.1 dX12_hexOf_27 (by decide) ?_
        refine lv_isub C.1 C.2.1 dX12_hexOf_29 ?_
        refine lv_bipush (v := (10:Int32)) C.1 C.2.1 dX12_hexOf_30 (by decide) ?_
        refine lv_iadd C.1 C.2.1 dX12_hexOf_32 ?_
        refine lv_goto (tgt := 37) C.1 C.2.1 dX12_hexOf_33 (by decide) ?_
        exact rf_iret C G h dX12_hexOf_37
  · rw [if_neg hc] at h
    refine lv_iload_n C.1 C.2.1 dX12_hexOf_7 rfl (lv_at hl 0 rfl) ?_
    refine lv_bipush (v := (48:Int32)) C.1 C.2.1 dX12_hexOf_8 (by decide) ?_
    refine lv_isub C.1 C.2.1 dX12_hexOf_10 ?_
    refine lv_goto (tgt := 37) C.1 C.2.1 dX12_hexOf_11 (by decide) ?_
    exact rf_iret C G h dX12_hexOf_37
noncomputable def fq_hexOf (x0 : Int32) (ρ : rf_S) : Option (Int32 × rf_S) := bq_hexOf_0 x0 ρ
theorem kq_hexOf (l : Launch) (D : rf_D) (h0 : Nat) {r : Int32} {x0 : Int32} {ρ ρ' : rf_S} (h : fq_hexOf x0 ρ = some (r, ρ')) : rf_Met l D h0 yX12_hexOf cX12_hexOf 1 (some .int) 1 20 [.int x0] ρ (some (.int r)) ρ' :=
  rf_of rfl cc_hexOf (Nat.le_of_ble_eq_true rfl) (fun p e s m args below meth c ls C G hl => wq_hexOf_0 C h G hl)
abbrev cX12_pass : ByteArray := prog_14_method_22_code
def yX12_pass : MethodName := ⟨RX12, "pass", "()V"⟩
theorem dX12_pass_0 : decode cX12_pass 0 = .ok (.iconst 1, 1) := by decide +kernel
theorem dX12_pass_1 : decode cX12_pass 1 = .ok (.istore_n 1, 1) := by decide +kernel
theorem dX12_pass_2 : decode cX12_pass 2 = .ok (.iload_n 1, 1) := by decide +kernel
theorem dX12_pass_3 : decode cX12_pass 3 = .ok (.ifCond .eq 91, 3) := by decide +kernel
theorem dX12_pass_6 : decode cX12_pass 6 = .ok (.aload_n 0, 1) := by decide +kernel
theorem dX12_pass_7 : decode cX12_pass 7 = .ok (.aload_n 0, 1) := by decide +kernel
theorem dX12_pass_8 : decode cX12_pass 8 = .ok (.getfield 345, 3) := by decide +kernel
theorem dX12_pass_11 : decode cX12_pass 11 = .ok (.invokevirtual 348, 3) := by decide +kernel
theorem dX12_pass_14 : decode cX12_pass 14 = .ok (.istore_n 2, 1) := by decide +kernel
theorem dX12_pass_15 : decode cX12_pass 15 = .ok (.iload_n 2, 1) := by decide +kernel
theorem dX12_pass_16 : decode cX12_pass 16 = .ok (.bipush 32, 2) := by decide +kernel
theorem dX12_pass_18 : decode cX12_pass 18 = .ok (.if_icmp .eq 15, 3) := by decide +kernel
theorem dX12_pass_21 : decode cX12_pass 21 = .ok (.iload_n 2, 1) := by decide +kernel
theorem dX12_pass_22 : decode cX12_pass 22 = .ok (.bipush 9, 2) := by decide +kernel
theorem dX12_pass_24 : decode cX12_pass 24 = .ok (.if_icmp .eq 9, 3) := by decide +kernel
theorem dX12_pass_27 : decode cX12_pass 27 = .ok (.iload_n 2, 1) := by decide +kernel
theorem dX12_pass_28 : decode cX12_pass 28 = .ok (.bipush 13, 2) := by decide +kernel
theorem dX12_pass_30 : decode cX12_pass 30 = .ok (.if_icmp .ne 16, 3) := by decide +kernel
theorem dX12_pass_33 : decode cX12_pass 33 = .ok (.aload_n 0, 1) := by decide +kernel
theorem dX12_pass_34 : decode cX12_pass 34 = .ok (.dup, 1) := by decide +kernel
theorem dX12_pass_35 : decode cX12_pass 35 = .ok (.getfield 345, 3) := by decide +kernel
theorem dX12_pass_38 : decode cX12_pass 38 = .ok (.iconst 1, 1) := by decide +kernel
theorem dX12_pass_39 : decode cX12_pass 39 = .ok (.iadd, 1) := by decide +kernel
theorem dX12_pass_40 : decode cX12_pass 40 = .ok (.putfield 345, 3) := by decide +kernel
theorem dX12_pass_43 : decode cX12_pass 43 = .ok (.goto 48, 3) := by decide +kernel
theorem dX12_pass_46 : decode cX12_pass 46 = .ok (.iload_n 2, 1) := by decide +kernel
theorem dX12_pass_47 : decode cX12_pass 47 = .ok (.bipush 59, 2) := by decide +kernel
theorem dX12_pass_49 : decode cX12_pass 49 = .ok (.if_icmp .ne 40, 3) := by decide +kernel
theorem dX12_pass_52 : decode cX12_pass 52 = .ok (.aload_n 0, 1) := by decide +kernel
theorem dX12_pass_53 : decode cX12_pass 53 = .ok (.aload_n 0, 1) := by decide +kernel
theorem dX12_pass_54 : decode cX12_pass 54 = .ok (.getfield 345, 3) := by decide +kernel
theorem dX12_pass_57 : decode cX12_pass 57 = .ok (.invokevirtual 348, 3) := by decide +kernel
theorem dX12_pass_60 : decode cX12_pass 60 = .ok (.ifCond .lt 31, 3) := by decide +kernel
theorem dX12_pass_63 : decode cX12_pass 63 = .ok (.aload_n 0, 1) := by decide +kernel
theorem dX12_pass_64 : decode cX12_pass 64 = .ok (.aload_n 0, 1) := by decide +kernel
theorem dX12_pass_65 : decode cX12_pass 65 = .ok (.getfield 345, 3) := by decide +kernel
theorem dX12_pass_68 : decode cX12_pass 68 = .ok (.invokevirtual 348, 3) := by decide +kernel
theorem dX12_pass_71 : decode cX12_pass 71 = .ok (.bipush 10, 2) := by decide +kernel
theorem dX12_pass_73 : decode cX12_pass 73 = .ok (.if_icmp .eq 18, 3) := by decide +kernel
theorem dX12_pass_76 : decode cX12_pass 76 = .ok (.aload_n 0, 1) := by decide +kernel
theorem dX12_pass_77 : decode cX12_pass 77 = .ok (.dup, 1) := by decide +kernel
theorem dX12_pass_78 : decode cX12_pass 78 = .ok (.getfield 345, 3) := by decide +kernel
theorem dX12_pass_81 : decode cX12_pass 81 = .ok (.iconst 1, 1) := by decide +kernel
theorem dX12_pass_82 : decode cX12_pass 82 = .ok (.iadd, 1) := by decide +kernel
theorem dX12_pass_83 : decode cX12_pass 83 = .ok (.putfield 345, 3) := by decide +kernel
theorem dX12_pass_86 : decode cX12_pass 86 = .ok (.goto (-34), 3) := by decide +kernel
theorem dX12_pass_89 : decode cX12_pass 89 = .ok (.iconst 0, 1) := by decide +kernel
theorem dX12_pass_90 : decode cX12_pass 90 = .ok (.istore_n 1, 1) := by decide +kernel
theorem dX12_pass_91 : decode cX12_pass 91 = .ok (.goto (-89), 3) := by decide +kernel
theorem dX12_pass_94 : decode cX12_pass 94 = .ok (.return_, 1) := by decide +kernel
theorem cc_pass : Cond.code yX12_pass cX12_pass 3 none ∈ rf_tb := rf_at 1917 (by decide +kernel) (by decide +kernel)
theorem cw_pass : rf_wV yX12_pass cX12_pass 3 none 351 0 := ⟨⟨rf_at 1914 (by decide +kernel) (by decide +kernel), rf_at 1916 (by decide +kernel) (by decide +kernel), rf_sel (q := (yX12_pass, 122)) 81 (by decide +kernel) (by decide +kernel), cc_pass⟩, rfl, by decide +kernel⟩
noncomputable def bq_pass_91i2 (x1 : Int32) (ρ : rf_S) : Option ((Int32 × rf_S) ⊕ (Int32 × rf_S)) := some (.inl (x1, ρ))
set_option maxHeartbeats 4000000 in
theorem wq_pass_91i2 (C : rf_C D p s m args meth c cX12_pass 3 none) {x1 : Int32} {ρ ρ' : rf_S} {H : Heap} {locs : List Loc} {ls : Array Slot} {o : (Int32 × rf_S) ⊕ (Int32 × rf_S)} (h : bq_pass_91i2 x1 ρ = some o) (hP : Sum.elim (fun z : (Int32 × rf_S) => ∀ (H : Heap) (locs : List Loc) (ls : Array Slot), rf_G D h0 s z.2 H locs → lv_has ls 3 [(0, .ref h0), (1, .int z.1)] → W p l e ({ frames := 1, cells := 0, slots := 0, locals := 21 }) s m args below meth c H locs 0 0 (MQ below (rf_Q D h0 none ρ') args s 0 0 (rf_A h0)) (F0 m 2 ls [])) (fun z : (Int32 × rf_S) => ∀ (H : Heap) (locs : List Loc) (ls : Array Slot), rf_G D h0 s z.2 H locs → lv_has ls 3 [(0, .ref h0), (1, .int z.1)] → W p l e ({ frames := 1, cells := 0, slots := 0, locals := 21 }) s m args below meth c H locs 0 0 (MQ below (rf_Q D h0 none ρ') args s 0 0 (rf_A h0)) (F0 m 94 ls [])) o) (G : rf_G D h0 s ρ H locs) (hl : lv_has ls 3 [(0, .ref h0), (1, .int x1)]) : W p l e ({ frames := 1, cells := 0, slots := 0, locals := 21 }) s m args below meth c H locs 0 0 (MQ below (rf_Q D h0 none ρ') args s 0 0 (rf_A h0)) (F0 m 91 ls []) := by
  unfold bq_pass_91i2 at h
  refine lv_goto (tgt := 2) C.1 C.2.1 dX12_pass_91 (by decide) ?_
  cases h
  exact hP _ _ _ G (lv_sub hl [0, 1] rfl)
noncomputable def bq_pass_33i2 (x1 : Int32) (ρ : rf_S) : Option ((Int32 × rf_S) ⊕ (Int32 × rf_S)) := vl (rf_w ρ 0 48 ((ρ.1 0 48) + (1:Int32))) (fun ρ_3 => bq_pass_91i2 x1 ρ_3)
set_option maxHeartbeats 4000000 in
theorem wq_pass_33i2 (C : rf_C D p s m args meth c cX12_pass 3 none) {x1 : Int32} {ρ ρ' : rf_S} {H : Heap} {locs : List Loc} {ls : Array Slot} {o : (Int32 × rf_S) ⊕ (Int32 × rf_S)} (h : bq_pass_33i2 x1 ρ = some o) (hP : Sum.elim (fun z : (Int32 × rf_S) => ∀ (H : Heap) (locs : List Loc) (ls : Array Slot), rf_G D h0 s z.2 H locs → lv_has ls 3 [(0, .ref h0), (1, .int z.1)] → W p l e ({ frames := 1, cells := 0, slots := 0, locals := 21 }) s m args below meth c H locs 0 0 (MQ below (rf_Q D h0 none ρ') args s 0 0 (rf_A h0)) (F0 m 2 ls [])) (fun z : (Int32 × rf_S) => ∀ (H : Heap) (locs : List Loc) (ls : Array Slot), rf_G D h0 s z.2 H locs → lv_has ls 3 [(0, .ref h0), (1, .int z.1)] → W p l e ({ frames := 1, cells := 0, slots := 0, locals := 21 }) s m args below meth c H locs 0 0 (MQ below (rf_Q D h0 none ρ') args s 0 0 (rf_A h0)) (F0 m 94 ls [])) o) (G : rf_G D h0 s ρ H locs) (hl : lv_has ls 3 [(0, .ref h0), (1, .int x1)]) : W p l e ({ frames := 1, cells := 0, slots := 0, locals := 21 }) s m args below meth c H locs 0 0 (MQ below (rf_Q D h0 none ρ') args s 0 0 (rf_A h0)) (F0 m 33 ls []) := by
  unfold bq_pass_33i2 at h
  refine lv_aload_n C.1 C.2.1 dX12_pass_33 rfl (lv_at hl 0 rfl) ?_
  refine lv_dup C.1 C.2.1 dX12_pass_34 rfl ?_
  refine gf_48 C G dX12_pass_35 ?_
  refine lv_iconst (v := (1:Int32)) C.1 C.2.1 dX12_pass_38 (by decide) ?_
  refine lv_iadd C.1 C.2.1 dX12_pass_39 ?_
  refine pf_48 C G dX12_pass_40 (fun H locs G => ?_)
  refine rf_nm G h (fun ρ_3 G h => ?_)
  refine lv_goto (tgt := 91) C.1 C.2.1 dX12_pass_43 (by decide) ?_
  exact wq_pass_91i2 C h hP G (lv_sub hl [0, 1] rfl)
noncomputable def lq_pass_52i2 (x1 : Int32) (ρ : rf_S) : Option ((rf_S) ⊕ (rf_S)) := bd2 (fq_octet (ρ.1 0 48) ρ) (fun r_5 ρ_4 => (if r_5 < 0 then some (.inr ρ_4) else bd2 (fq_octet (ρ_4.1 0 48) ρ_4) (fun r_7 ρ_6 => (if r_7 = (10:Int32) then some (.inr ρ_6) else vl (rf_w ρ_6 0 48 ((ρ_6.1 0 48) + (1:Int32))) (fun ρ_8 => some (.inl ρ_8))))))
noncomputable def eq_pass_52i2 (x1 : Int32) (ρ : rf_S) : Option ((Int32 × rf_S) ⊕ (Int32 × rf_S)) := bq_pass_91i2 x1 ρ
noncomputable def bq_pass_52i2 (x1 : Int32) (ρ : rf_S) : Option ((Int32 × rf_S) ⊕ (Int32 × rf_S)) := (lp (fun z : (rf_S) => lq_pass_52i2 x1 z) ρ).bind (fun z => eq_pass_52i2 x1 z)
set_option maxHeartbeats 4000000 in
theorem wq_pass_52i2 (C : rf_C D p s m args meth c cX12_pass 3 none) {x1 : Int32} {ρ ρ' : rf_S} {H : Heap} {locs : List Loc} {ls : Array Slot} {o : (Int32 × rf_S) ⊕ (Int32 × rf_S)} (h : bq_pass_52i2 x1 ρ = some o) (hP : Sum.elim (fun z : (Int32 × rf_S) => ∀ (H : Heap) (locs : List Loc) (ls : Array Slot), rf_G D h0 s z.2 H locs → lv_has ls 3 [(0, .ref h0), (1, .int z.1)] → W p l e ({ frames := 1, cells := 0, slots := 0, locals := 21 }) s m args below meth c H locs 0 0 (MQ below (rf_Q D h0 none ρ') args s 0 0 (rf_A h0)) (F0 m 2 ls [])) (fun z : (Int32 × rf_S) => ∀ (H : Heap) (locs : List Loc) (ls : Array Slot), rf_G D h0 s z.2 H locs → lv_has ls 3 [(0, .ref h0), (1, .int z.1)] → W p l e ({ frames := 1, cells := 0, slots := 0, locals := 21 }) s m args below meth c H locs 0 0 (MQ below (rf_Q D h0 none ρ') args s 0 0 (rf_A h0)) (F0 m 94 ls [])) o) (G : rf_G D h0 s ρ H locs) (hl : lv_has ls 3 [(0, .ref h0), (1, .int x1)]) : W p l e ({ frames := 1, cells := 0, slots := 0, locals := 21 }) s m args below meth c H locs 0 0 (MQ below (rf_Q D h0 none ρ') args s 0 0 (rf_A h0)) (F0 m 52 ls []) := by
  unfold bq_pass_52i2 at h
  obtain ⟨ρy, hy, h⟩ := bd_some h
  have hE : (fun z : (rf_S) => ∀ (H : Heap) (locs : List Loc) (ls : Array Slot), rf_G D h0 s z H locs → lv_has ls 3 [(0, .ref h0), (1, .int x1)] → W p l e ({ frames := 1, cells := 0, slots := 0, locals := 21 }) s m args below meth c H locs 0 0 (MQ below (rf_Q D h0 none ρ') args s 0 0 (rf_A h0)) (F0 m 91 ls [])) ρy := by
    intro H locs ls G hl
    unfold eq_pass_52i2 at h
    revert h G hl; generalize ρy = ρ; intro h G hl
    exact wq_pass_91i2 C h hP G (lv_sub hl [0, 1] rfl)
  refine lp_recE (fun z : (rf_S) => ∀ (H : Heap) (locs : List Loc) (ls : Array Slot), rf_G D h0 s z H locs → lv_has ls 3 [(0, .ref h0), (1, .int x1)] → W p l e ({ frames := 1, cells := 0, slots := 0, locals := 21 }) s m args below meth c H locs 0 0 (MQ below (rf_Q D h0 none ρ') args s 0 0 (rf_A h0)) (F0 m 52 ls [])) (fun z : (rf_S) => ∀ (H : Heap) (locs : List Loc) (ls : Array Slot), rf_G D h0 s z H locs → lv_has ls 3 [(0, .ref h0), (1, .int x1)] → W p l e ({ frames := 1, cells := 0, slots := 0, locals := 21 }) s m args below meth c H locs 0 0 (MQ below (rf_Q D h0 none ρ') args s 0 0 (rf_A h0)) (F0 m 91 ls [])) ?_ _ _ hy hE _ _ _ G hl
  clear hE hy G hl h hP
  intro ρ o h hP H locs ls G hl
  unfold lq_pass_52i2 at h
  refine lv_aload_n C.1 C.2.1 dX12_pass_52 rfl (lv_at hl 0 rfl) ?_
  refine lv_aload_n C.1 C.2.1 dX12_pass_53 rfl (lv_at hl 0 rfl) ?_
  refine gf_48 C G dX12_pass_54 ?_
  obtain ⟨r_5, ρ_4, hq, h⟩ := bd2_some h
  refine rf_callV (rest := []) C G cw_octet [.int (ρ.1 0 48)] _ (kq_octet l D h0 hq) (Nat.le_of_ble_eq_true rfl) (Nat.le_of_ble_eq_true rfl) rfl rfl hl.1 (Nat.le_of_ble_eq_true rfl) (Nat.zero_le _) (Nat.zero_le _) dX12_pass_57 (fun H locs G => ?_)
  refine W.eq (g2 := F0 m 60 ls [.int r_5]) rfl ?_
  refine lv_if_lt (tgt := 91) C.1 C.2.1 dX12_pass_60 (by decide) (fun hc => ?_) (fun hc => ?_)
  · rw [if_pos hc] at h
    cases h
    exact hP _ _ _ G (lv_sub hl [0, 1] rfl)
  · rw [if_neg hc] at h
    refine lv_aload_n C.1 C.2.1 dX12_pass_63 rfl (lv_at hl 0 rfl) ?_
    refine lv_aload_n C.1 C.2.1 dX12_pass_64 rfl (lv_at hl 0 rfl) ?_
    refine gf_48 C G dX12_pass_65 ?_
    obtain ⟨r_7, ρ_6, hq, h⟩ := bd2_some h
    refine rf_callV (rest := []) C G cw_octet [.int (ρ_4.1 0 48)] _ (kq_octet l D h0 hq) (Nat.le_of_ble_eq_true rfl) (Nat.le_of_ble_eq_true rfl) rfl rfl hl.1 (Nat.le_of_ble_eq_true rfl) (Nat.zero_le _) (Nat.zero_le _) dX12_pass_68 (fun H locs G => ?_)
    refine W.eq (g2 := F0 m 71 ls [.int r_7]) rfl ?_
    refine lv_bipush (v := (10:Int32)) C.1 C.2.1 dX12_pass_71 (by decide) ?_
    refine lv_icmp_eq (tgt := 91) C.1 C.2.1 dX12_pass_73 (by decide) (fun hc => ?_) (fun hc => ?_)
    · rw [if_pos hc] at h
      cases h
      exact hP _ _ _ G (lv_sub hl [0, 1] rfl)
    · rw [if_neg hc] at h
      refine lv_aload_n C.1 C.2.1 dX12_pass_76 rfl (lv_at hl 0 rfl) ?_
      refine lv_dup C.1 C.2.1 dX12_pass_77 rfl ?_
      refine gf_48 C G dX12_pass_78 ?_
      refine lv_iconst (v := (1:Int32)) C.1 C.2.1 dX12_pass_81 (by decide) ?_
      refine lv_iadd C.1 C.2.1 dX12_pass_82 ?_
      refine pf_48 C G dX12_pass_83 (fun H locs G => ?_)
      refine rf_nm G h (fun ρ_8 G h => ?_)
      refine lv_goto (tgt := 52) C.1 C.2.1 dX12_pass_86 (by decide) ?_
      cases h
      exact hP _ _ _ G (lv_sub hl [0, 1] rfl)
noncomputable def lq_pass_2 (x1 : Int32) (ρ : rf_S) : Option ((Int32 × rf_S) ⊕ (Int32 × rf_S)) := (if x1 = 0 then some (.inr (x1, ρ)) else bd2 (fq_octet (ρ.1 0 48) ρ) (fun r_2 ρ_1 => (if r_2 = (32:Int32) then bq_pass_33i2 x1 ρ_1 else (if r_2 = (9:Int32) then bq_pass_33i2 x1 ρ_1 else (if r_2 = (13:Int32) then bq_pass_33i2 x1 ρ_1 else (if r_2 = (59:Int32) then bq_pass_52i2 x1 ρ_1 else bq_pass_91i2 (0:Int32) ρ_1))))))
noncomputable def eq_pass_2 (x1 : Int32) (ρ : rf_S) : Option (rf_S) := some ρ
noncomputable def bq_pass_2 (x1 : Int32) (ρ : rf_S) : Option (rf_S) := (lp (fun z : (Int32 × rf_S) => lq_pass_2  z.1 z.2) (x1, ρ)).bind (fun z => eq_pass_2  z.1 z.2)
set_option maxHeartbeats 4000000 in
theorem wq_pass_2 (C : rf_C D p s m args meth c cX12_pass 3 none) {x1 : Int32} {ρ ρ' : rf_S} {H : Heap} {locs : List Loc} {ls : Array Slot} (h : bq_pass_2 x1 ρ = some ρ') (G : rf_G D h0 s ρ H locs) (hl : lv_has ls 3 [(0, .ref h0), (1, .int x1)]) : W p l e ({ frames := 1, cells := 0, slots := 0, locals := 21 }) s m args below meth c H locs 0 0 (MQ below (rf_Q D h0 none ρ') args s 0 0 (rf_A h0)) (F0 m 2 ls []) := by
  unfold bq_pass_2 at h
  obtain ⟨y, hy, h⟩ := bd_some h
  have hE : (fun z : (Int32 × rf_S) => ∀ (H : Heap) (locs : List Loc) (ls : Array Slot), rf_G D h0 s z.2 H locs → lv_has ls 3 [(0, .ref h0), (1, .int z.1)] → W p l e ({ frames := 1, cells := 0, slots := 0, locals := 21 }) s m args below meth c H locs 0 0 (MQ below (rf_Q D h0 none ρ') args s 0 0 (rf_A h0)) (F0 m 94 ls [])) y := by
    intro H locs ls G hl
    obtain ⟨x1, ρ⟩ := y
    dsimp only at h G hl
    unfold eq_pass_2 at h
    exact rf_vret C G h dX12_pass_94
  refine lp_recE (fun z : (Int32 × rf_S) => ∀ (H : Heap) (locs : List Loc) (ls : Array Slot), rf_G D h0 s z.2 H locs → lv_has ls 3 [(0, .ref h0), (1, .int z.1)] → W p l e ({ frames := 1, cells := 0, slots := 0, locals := 21 }) s m args below meth c H locs 0 0 (MQ below (rf_Q D h0 none ρ') args s 0 0 (rf_A h0)) (F0 m 2 ls [])) (fun z : (Int32 × rf_S) => ∀ (H : Heap) (locs : List Loc) (ls : Array Slot), rf_G D h0 s z.2 H locs → lv_has ls 3 [(0, .ref h0), (1, .int z.1)] → W p l e ({ frames := 1, cells := 0, slots := 0, locals := 21 }) s m args below meth c H locs 0 0 (MQ below (rf_Q D h0 none ρ') args s 0 0 (rf_A h0)) (F0 m 94 ls [])) ?_ _ _ hy hE _ _ _ G hl
  clear hE hy G hl h
  intro z o h hP H locs ls G hl
  obtain ⟨x1, ρ⟩ := z
  dsimp only at h G hl
  unfold lq_pass_2 at h
  refine lv_iload_n C.1 C.2.1 dX12_pass_2 rfl (lv_at hl 1 rfl) ?_
  refine lv_if_eq (tgt := 94) C.1 C.2.1 dX12_pass_3 (by decide) (fun hc => ?_) (fun hc => ?_)
  · rw [if_pos hc] at h
    cases h
    exact hP _ _ _ G (lv_sub hl [0, 1] rfl)
  · rw [if_neg hc] at h
    refine lv_aload_n C.1 C.2.1 dX12_pass_6 rfl (lv_at hl 0 rfl) ?_
    refine lv_aload_n C.1 C.2.1 dX12_pass_7 rfl (lv_at hl 0 rfl) ?_
    refine gf_48 C G dX12_pass_8 ?_
    obtain ⟨r_2, ρ_1, hq, h⟩ := bd2_some h
    refine rf_callV (rest := []) C G cw_octet [.int (ρ.1 0 48)] _ (kq_octet l D h0 hq) (Nat.le_of_ble_eq_true rfl) (Nat.le_of_ble_eq_true rfl) rfl rfl hl.1 (Nat.le_of_ble_eq_true rfl) (Nat.zero_le _) (Nat.zero_le _) dX12_pass_11 (fun H locs G => ?_)
    refine W.eq (g2 := F0 m 14 ls [.int r_2]) rfl ?_
    refine lv_istore_n (lv' := [(2, .int r_2), (0, .ref h0), (1, .int x1)]) C.1 C.2.1 dX12_pass_14 rfl hl (by decide) rfl (fun ls hl => ?_)
    refine lv_iload_n C.1 C.2.1 dX12_pass_15 rfl (lv_at hl 0 rfl) ?_
    refine lv_bipush (v := (32:Int32)) C.1 C.2.1 dX12_pass_16 (by decide) ?_
    refine lv_icmp_eq (tgt := 33) C.1 C.2.1 dX12_pass_18 (by decide) (fun hc => ?_) (fun hc => ?_)
    · rw [if_pos hc] at h
      exact wq_pass_33i2 C h hP G (lv_sub hl [1, 2] rfl)
    · rw [if_neg hc] at h
      refine lv_iload_n C.1 C.2.1 dX12_pass_21 rfl (lv_at hl 0 rfl) ?_
      refine lv_bipush (v := (9:Int32)) C.1 C.2.1 dX12_pass_22 (by decide) ?_
      refine lv_icmp_eq (tgt := 33) C.1 C.2.1 dX12_pass_24 (by decide) (fun hc => ?_) (fun hc => ?_)
      · rw [if_pos hc] at h
        exact wq_pass_33i2 C h hP G (lv_sub hl [1, 2] rfl)
      · rw [if_neg hc] at h
        refine lv_iload_n C.1 C.2.1 dX12_pass_27 rfl (lv_at hl 0 rfl) ?_
        refine lv_bipush (v := (13:Int32)) C.1 C.2.1 dX12_pass_28 (by decide) ?_
        refine lv_icmp_ne (tgt := 46) C.1 C.2.1 dX12_pass_30 (by decide) (fun hc => ?_) (fun hc => ?_)
        · rw [if_neg hc] at h
          refine lv_iload_n C.1 C.2.1 dX12_pass_46 rfl (lv_at hl 0 rfl) ?_
          refine lv_bipush (v := (59:Int32)) C.1 C.2.1 dX12_pass_47 (by decide) ?_
          refine lv_icmp_ne (tgt := 89) C.1 C.2.1 dX12_pass_49 (by decide) (fun hc => ?_) (fun hc => ?_)
          · rw [if_neg hc] at h
            refine lv_iconst (v := (0:Int32)) C.1 C.2.1 dX12_pass_89 (by decide) ?_
            refine lv_istore_n (lv' := [(1, .int (0:Int32)), (2, .int r_2), (0, .ref h0)]) C.1 C.2.1 dX12_pass_90 rfl hl (by decide) rfl (fun ls hl => ?_)
            exact wq_pass_91i2 C h hP G (lv_sub hl [2, 0] rfl)
          · rw [if_pos hc] at h
            exact wq_pass_52i2 C h hP G (lv_sub hl [1, 2] rfl)
        · rw [if_pos hc] at h
          exact wq_pass_33i2 C h hP G (lv_sub hl [1, 2] rfl)
noncomputable def bq_pass_0  (ρ : rf_S) : Option (rf_S) := bq_pass_2 (1:Int32) ρ
set_option maxHeartbeats 4000000 in
theorem wq_pass_0 (C : rf_C D p s m args meth c cX12_pass 3 none) {ρ ρ' : rf_S} {H : Heap} {locs : List Loc} {ls : Array Slot} (h : bq_pass_0 ρ = some ρ') (G : rf_G D h0 s ρ H locs) (hl : lv_has ls 3 [(0, .ref h0)]) : W p l e ({ frames := 1, cells := 0, slots := 0, locals := 21 }) s m args below meth c H locs 0 0 (MQ below (rf_Q D h0 none ρ') args s 0 0 (rf_A h0)) (F0 m 0 ls []) := by
  unfold bq_pass_0 at h
  refine lv_iconst (v := (1:Int32)) C.1 C.2.1 dX12_pass_0 (by decide) ?_
  refine lv_istore_n (lv' := [(1, .int (1:Int32)), (0, .ref h0)]) C.1 C.2.1 dX12_pass_1 rfl hl (by decide) rfl (fun ls hl => ?_)
  exact wq_pass_2 C h G (lv_sub hl [1, 0] rfl)
noncomputable def fq_pass  (ρ : rf_S) : Option (rf_S) := bq_pass_0 ρ
theorem kq_pass (l : Launch) (D : rf_D) (h0 : Nat) {ρ ρ' : rf_S} (h : fq_pass ρ = some ρ') : rf_Met l D h0 yX12_pass cX12_pass 3 none 1 21 [.ref h0] ρ none ρ' :=
  rf_of rfl cc_pass (Nat.le_of_ble_eq_true rfl) (fun p e s m args below meth c ls C G hl => wq_pass_0 C h G hl)
end RQ1
