section RQ10
variable {p : Program} {l : Launch} {e : Env} {s : State} {m : MethodId} {args : Array Value} {below : List Frame} {meth : Method} {c : Code} {D : rf_D} {h0 : Nat}
abbrev cX12_send : ByteArray := prog_14_method_87_code
def yX12_send : MethodName := ⟨RX12, "send", "(II)I"⟩
theorem dX12_send_0 : decode cX12_send 0 = .ok (.aload_n 0, 1) := by decide +kernel
theorem dX12_send_1 : decode cX12_send 1 = .ok (.iload_n 1, 1) := by decide +kernel
theorem dX12_send_2 : decode cX12_send 2 = .ok (.iconst 1, 1) := by decide +kernel
theorem dX12_send_3 : decode cX12_send 3 = .ok (.invokevirtual 635, 3) := by decide +kernel
theorem dX12_send_6 : decode cX12_send 6 = .ok (.ifCond .ne 5, 3) := by decide +kernel
theorem dX12_send_9 : decode cX12_send 9 = .ok (.iconst (-1), 1) := by decide +kernel
theorem dX12_send_10 : decode cX12_send 10 = .ok (.ireturn, 1) := by decide +kernel
theorem dX12_send_11 : decode cX12_send 11 = .ok (.aload_n 0, 1) := by decide +kernel
theorem dX12_send_12 : decode cX12_send 12 = .ok (.iload_n 2, 1) := by decide +kernel
theorem dX12_send_13 : decode cX12_send 13 = .ok (.aload_n 0, 1) := by decide +kernel
theorem dX12_send_14 : decode cX12_send 14 = .ok (.getfield 125, 3) := by decide +kernel
theorem dX12_send_17 : decode cX12_send 17 = .ok (.iload_n 1, 1) := by decide +kernel
theorem dX12_send_18 : decode cX12_send 18 = .ok (.iaload, 1) := by decide +kernel
theorem dX12_send_19 : decode cX12_send 19 = .ok (.invokevirtual 651, 3) := by decide +kernel
theorem dX12_send_22 : decode cX12_send 22 = .ok (.ifCond .ne 6, 3) := by decide +kernel
theorem dX12_send_25 : decode cX12_send 25 = .ok (.bipush (-2), 2) := by decide +kernel
theorem dX12_send_27 : decode cX12_send 27 = .ok (.ireturn, 1) := by decide +kernel
theorem dX12_send_28 : decode cX12_send 28 = .ok (.bipush 16, 2) := by decide +kernel
theorem dX12_send_30 : decode cX12_send 30 = .ok (.aload_n 0, 1) := by decide +kernel
theorem dX12_send_31 : decode cX12_send 31 = .ok (.getfield 525, 3) := by decide +kernel
theorem dX12_send_34 : decode cX12_send 34 = .ok (.imul, 1) := by decide +kernel
theorem dX12_send_35 : decode cX12_send 35 = .ok (.iload_n 1, 1) := by decide +kernel
theorem dX12_send_36 : decode cX12_send 36 = .ok (.iadd, 1) := by decide +kernel
theorem dX12_send_37 : decode cX12_send 37 = .ok (.istore_n 3, 1) := by decide +kernel
theorem dX12_send_38 : decode cX12_send 38 = .ok (.iconst 0, 1) := by decide +kernel
theorem dX12_send_39 : decode cX12_send 39 = .ok (.istore 4, 2) := by decide +kernel
theorem dX12_send_41 : decode cX12_send 41 = .ok (.iload 4, 2) := by decide +kernel
theorem dX12_send_43 : decode cX12_send 43 = .ok (.aload_n 0, 1) := by decide +kernel
theorem dX12_send_44 : decode cX12_send 44 = .ok (.getfield 125, 3) := by decide +kernel
theorem dX12_send_47 : decode cX12_send 47 = .ok (.iload_n 1, 1) := by decide +kernel
theorem dX12_send_48 : decode cX12_send 48 = .ok (.iaload, 1) := by decide +kernel
theorem dX12_send_49 : decode cX12_send 49 = .ok (.if_icmp .ge 37, 3) := by decide +kernel
theorem dX12_send_52 : decode cX12_send 52 = .ok (.aload_n 0, 1) := by decide +kernel
theorem dX12_send_53 : decode cX12_send 53 = .ok (.getfield 236, 3) := by decide +kernel
theorem dX12_send_56 : decode cX12_send 56 = .ok (.bipush 16, 2) := by decide +kernel
theorem dX12_send_58 : decode cX12_send 58 = .ok (.iload_n 3, 1) := by decide +kernel
theorem dX12_send_59 : decode cX12_send 59 = .ok (.imul, 1) := by decide +kernel
theorem dX12_send_60 : decode cX12_send 60 = .ok (.iload 4, 2) := by decide +kernel
theorem dX12_send_62 : decode cX12_send 62 = .ok (.iadd, 1) := by decide +kernel
theorem dX12_send_63 : decode cX12_send 63 = .ok (.aload_n 0, 1) := by decide +kernel
theorem dX12_send_64 : decode cX12_send 64 = .ok (.getfield 179, 3) := by decide +kernel
theorem dX12_send_67 : decode cX12_send 67 = .ok (.aload_n 0, 1) := by decide +kernel
theorem dX12_send_68 : decode cX12_send 68 = .ok (.getfield 570, 3) := by decide +kernel
theorem dX12_send_71 : decode cX12_send 71 = .ok (.iload_n 2, 1) := by decide +kernel
theorem dX12_send_72 : decode cX12_send 72 = .ok (.iconst 4, 1) := by decide +kernel
theorem dX12_send_73 : decode cX12_send 73 = .ok (.idiv, 1) := by decide +kernel
theorem dX12_send_74 : decode cX12_send 74 = .ok (.iadd, 1) := by decide +kernel
theorem dX12_send_75 : decode cX12_send 75 = .ok (.iload 4, 2) := by decide +kernel
theorem dX12_send_77 : decode cX12_send 77 = .ok (.iadd, 1) := by decide +kernel
theorem dX12_send_78 : decode cX12_send 78 = .ok (.iaload, 1) := by decide +kernel
theorem dX12_send_79 : decode cX12_send 79 = .ok (.iastore, 1) := by decide +kernel
theorem dX12_send_80 : decode cX12_send 80 = .ok (.iinc 4 1, 3) := by decide +kernel
theorem dX12_send_83 : decode cX12_send 83 = .ok (.goto (-42), 3) := by decide +kernel
theorem dX12_send_86 : decode cX12_send 86 = .ok (.aload_n 0, 1) := by decide +kernel
theorem dX12_send_87 : decode cX12_send 87 = .ok (.getfield 239, 3) := by decide +kernel
theorem dX12_send_90 : decode cX12_send 90 = .ok (.iload_n 3, 1) := by decide +kernel
theorem dX12_send_91 : decode cX12_send 91 = .ok (.iconst 1, 1) := by decide +kernel
theorem dX12_send_92 : decode cX12_send 92 = .ok (.bastore, 1) := by decide +kernel
theorem dX12_send_93 : decode cX12_send 93 = .ok (.iconst 0, 1) := by decide +kernel
theorem dX12_send_94 : decode cX12_send 94 = .ok (.ireturn, 1) := by decide +kernel
theorem cc_send : Cond.code yX12_send cX12_send 5 (some .int) ∈ rf_tb := rf_at 2167 (by decide +kernel) (by decide +kernel)
theorem cw_send : rf_wV yX12_send cX12_send 5 (some .int) 629 2 := ⟨⟨rf_at 2164 (by decide +kernel) (by decide +kernel), rf_at 2166 (by decide +kernel) (by decide +kernel), rf_sel (q := (yX12_send, 122)) 120 (by decide +kernel) (by decide +kernel), cc_send⟩, rfl, by decide +kernel⟩
noncomputable def lq_send_41 (x1 : Int32) (x2 : Int32) (x3 : Int32) (x4 : Int32) (ρ : rf_S) : Option ((Int32 × rf_S) ⊕ (Int32 × rf_S)) := ix x1 16 ((if (ρ.1 34 x1.toNatClampNeg) ≤ x4 then some (.inr (x4, ρ)) else ix (((ρ.1 0 120) + (x2 / (4:Int32))) + x4) 16384 (ix (((16:Int32) * x3) + x4) 512 (vl (rf_w ρ 71 (((16:Int32) * x3) + x4).toNatClampNeg (ρ.1 52 (((ρ.1 0 120) + (x2 / (4:Int32))) + x4).toNatClampNeg)) (fun ρ_6 => vl (x4 + (1:Int32)) (fun x4_7 => some (.inl (x4_7, ρ_6))))))))
noncomputable def eq_send_41 (x1 : Int32) (x2 : Int32) (x3 : Int32) (x4 : Int32) (ρ : rf_S) : Option (Int32 × rf_S) := ix x3 32 (vl (rf_w ρ 72 x3.toNatClampNeg (vp_nar .boolean (1:Int32))) (fun ρ_8 => some ((0:Int32), ρ_8)))
noncomputable def bq_send_41 (x1 : Int32) (x2 : Int32) (x3 : Int32) (x4 : Int32) (ρ : rf_S) : Option (Int32 × rf_S) := (lp (fun z : (Int32 × rf_S) => lq_send_41 x1 x2 x3 z.1 z.2) (x4, ρ)).bind (fun z => eq_send_41 x1 x2 x3 z.1 z.2)
set_option maxHeartbeats 4000000 in
theorem wq_send_41 (C : rf_C D p s m args meth c cX12_send 5 (some .int)) {r : Int32} {x1 : Int32} {x2 : Int32} {x3 : Int32} {x4 : Int32} {ρ ρ' : rf_S} {H : Heap} {locs : List Loc} {ls : Array Slot} (h : bq_send_41 x1 x2 x3 x4 ρ = some (r, ρ')) (G : rf_G D h0 s ρ H locs) (hl : lv_has ls 5 [(0, .ref h0), (1, .int x1), (2, .int x2), (3, .int x3), (4, .int x4)]) : W p l e ({ frames := 1, cells := 0, slots := 0, locals := 22 }) s m args below meth c H locs 0 0 (MQ below (rf_Q D h0 (some (.int r)) ρ') args s 0 0 (rf_A h0)) (F0 m 41 ls []) := by
  unfold bq_send_41 at h
  obtain ⟨y, hy, h⟩ := bd_some h
  have hE : (fun z : (Int32 × rf_S) => ∀ (H : Heap) (locs : List Loc) (ls : Array Slot), rf_G D h0 s z.2 H locs → lv_has ls 5 [(0, .ref h0), (1, .int x1), (2, .int x2), (3, .int x3), (4, .int z.1)] → W p l e ({ frames := 1, cells := 0, slots := 0, locals := 22 }) s m args below meth c H locs 0 0 (MQ below (rf_Q D h0 (some (.int r)) ρ') args s 0 0 (rf_A h0)) (F0 m 86 ls [])) y := by
    intro H locs ls G hl
    obtain ⟨x4, ρ⟩ := y
    dsimp only at h G hl
    unfold eq_send_41 at h
    refine lv_aload_n C.1 C.2.1 dX12_send_86 rfl (lv_at hl 0 rfl) ?_
    refine gf_104 C G dX12_send_87 ?_
    refine lv_iload_n C.1 C.2.1 dX12_send_90 rfl (lv_at hl 3 rfl) ?_
    refine lv_iconst (v := (1:Int32)) C.1 C.2.1 dX12_send_91 (by decide) ?_
    obtain ⟨hi, h⟩ := ix_some h
    refine rf_zast C G 72 rfl (by decide) rfl rfl hi dX12_send_92 (fun H locs G => ?_)
    refine rf_nm G h (fun ρ_8 G h => ?_)
    refine lv_iconst (v := (0:Int32)) C.1 C.2.1 dX12_send_93 (by decide) ?_
    exact rf_iret C G h dX12_send_94
  refine lp_recE (fun z : (Int32 × rf_S) => ∀ (H : Heap) (locs : List Loc) (ls : Array Slot), rf_G D h0 s z.2 H locs → lv_has ls 5 [(0, .ref h0), (1, .int x1), (2, .int x2), (3, .int x3), (4, .int z.1)] → W p l e ({ frames := 1, cells := 0, slots := 0, locals := 22 }) s m args below meth c H locs 0 0 (MQ below (rf_Q D h0 (some (.int r)) ρ') args s 0 0 (rf_A h0)) (F0 m 41 ls [])) (fun z : (Int32 × rf_S) => ∀ (H : Heap) (locs : List Loc) (ls : Array Slot), rf_G D h0 s z.2 H locs → lv_has ls 5 [(0, .ref h0), (1, .int x1), (2, .int x2), (3, .int x3), (4, .int z.1)] → W p l e ({ frames := 1, cells := 0, slots := 0, locals := 22 }) s m args below meth c H locs 0 0 (MQ below (rf_Q D h0 (some (.int r)) ρ') args s 0 0 (rf_A h0)) (F0 m 86 ls [])) ?_ _ _ hy hE _ _ _ G hl
  clear hE hy G hl h
  intro z o h hP H locs ls G hl
  obtain ⟨x4, ρ⟩ := z
  dsimp only at h G hl
  unfold lq_send_41 at h
  refine lv_iload C.1 C.2.1 dX12_send_41 (lv_at hl 4 rfl) ?_
  refine lv_aload_n C.1 C.2.1 dX12_send_43 rfl (lv_at hl 0 rfl) ?_
  refine gf_63 C G dX12_send_44 ?_
  refine lv_iload_n C.1 C.2.1 dX12_send_47 rfl (lv_at hl 1 rfl) ?_
  obtain ⟨hi, h⟩ := ix_some h
  refine rf_iald C G 34 rfl (by decide) rfl rfl hi dX12_send_48 ?_
  refine lv_icmp_ge (tgt := 86) C.1 C.2.1 dX12_send_49 (by decide) (fun hc => ?_) (fun hc => ?_)
  · rw [if_pos hc] at h
    cases h
    exact hP _ _ _ G (lv_sub hl [0, 1, 2, 3, 4] rfl)
  · rw [if_neg hc] at h
    refine lv_aload_n C.1 C.2.1 dX12_send_52 rfl (lv_at hl 0 rfl) ?_
    refine gf_103 C G dX12_send_53 ?_
    refine lv_bipush (v := (16:Int32)) C.1 C.2.1 dX12_send_56 (by decide) ?_
    refine lv_iload_n C.1 C.2.1 dX12_send_58 rfl (lv_at hl 3 rfl) ?_
    refine lv_imul C.1 C.2.1 dX12_send_59 ?_
    refine lv_iload C.1 C.2.1 dX12_send_60 (lv_at hl 4 rfl) ?_
    refine lv_iadd C.1 C.2.1 dX12_send_62 ?_
    refine lv_aload_n C.1 C.2.1 dX12_send_63 rfl (lv_at hl 0 rfl) ?_
    refine gf_84 C G dX12_send_64 ?_
    refine lv_aload_n C.1 C.2.1 dX12_send_67 rfl (lv_at hl 0 rfl) ?_
    refine gf_120 C G dX12_send_68 ?_
    refine lv_iload_n C.1 C.2.1 dX12_send_71 rfl (lv_at hl 2 rfl) ?_
    refine lv_iconst (v := (4:Int32)) C.1 C.2.1 dX12_send_72 (by decide) ?_
    refine lv_idiv C.1 C.2.1 dX12_send_73 (by decide) ?_
    refine lv_iadd C.1 C.2.1 dX12_send_74 ?_
    refine lv_iload C.1 C.2.1 dX12_send_75 (lv_at hl 4 rfl) ?_
    refine lv_iadd C.1 C.2.1 dX12_send_77 ?_
    obtain ⟨hi, h⟩ := ix_some h
    refine rf_iald C G 52 rfl (by decide) rfl rfl hi dX12_send_78 ?_
    obtain ⟨hi, h⟩ := ix_some h
    refine rf_iast C G 71 rfl (by decide) rfl rfl hi dX12_send_79 (fun H locs G => ?_)
    refine rf_nm G h (fun ρ_6 G h => ?_)
    refine vl_ex h (fun x4_7 ey h => ?_)
    refine lv_iinc (v := x4_7) (lv' := [(4, .int x4_7), (0, .ref h0), (1, .int x1), (2, .int x2), (3, .int x3)]) C.1 C.2.1 dX12_send_80 hl (k := 4) rfl (by rw [ey]; rfl) (by decide) rfl (fun ls hl => ?_)
    refine lv_goto (tgt := 41) C.1 C.2.1 dX12_send_83 (by decide) ?_
    cases h
    exact hP _ _ _ G (lv_sub hl [1, 2, 3, 4, 0] rfl)
noncomputable def bq_send_0 (x1 : Int32) (x2 : Int32) (ρ : rf_S) : Option (Int32 × rf_S) := bd2 (fq_isChannel x1 (1:Int32) ρ) (fun r_2 ρ_1 => (if r_2 = 0 then some ((-1:Int32), ρ_1) else ix x1 16 (bd2 (fq_isIn x2 (ρ_1.1 34 x1.toNatClampNeg) ρ_1) (fun r_4 ρ_3 => (if r_4 = 0 then some ((-2:Int32), ρ_3) else vl (((16:Int32) * (ρ_3.1 0 79)) + x1) (fun x3_5 => bq_send_41 x1 x2 x3_5 (0:Int32) ρ_3))))))
set_option maxHeartbeats 4000000 in
theorem wq_send_0 (C : rf_C D p s m args meth c cX12_send 5 (some .int)) {r : Int32} {x1 : Int32} {x2 : Int32} {ρ ρ' : rf_S} {H : Heap} {locs : List Loc} {ls : Array Slot} (h : bq_send_0 x1 x2 ρ = some (r, ρ')) (G : rf_G D h0 s ρ H locs) (hl : lv_has ls 5 [(0, .ref h0), (1, .int x1), (2, .int x2)]) : W p l e ({ frames := 1, cells := 0, slots := 0, locals := 22 }) s m args below meth c H locs 0 0 (MQ below (rf_Q D h0 (some (.int r)) ρ') args s 0 0 (rf_A h0)) (F0 m 0 ls []) := by
  unfold bq_send_0 at h
  refine lv_aload_n C.1 C.2.1 dX12_send_0 rfl (lv_at hl 0 rfl) ?_
  refine lv_iload_n C.1 C.2.1 dX12_send_1 rfl (lv_at hl 1 rfl) ?_
  refine lv_iconst (v := (1:Int32)) C.1 C.2.1 dX12_send_2 (by decide) ?_
  obtain ⟨r_2, ρ_1, hq, h⟩ := bd2_some h
  refine rf_callV (rest := []) C G cw_isChannel [.int x1, .int (1:Int32)] _ (kq_isChannel l D h0 hq) (Nat.le_of_ble_eq_true rfl) (Nat.le_of_ble_eq_true rfl) rfl rfl hl.1 (Nat.le_of_ble_eq_true rfl) (Nat.zero_le _) (Nat.zero_le _) dX12_send_3 (fun H locs G => ?_)
  refine W.eq (g2 := F0 m 6 ls [.int r_2]) rfl ?_
  refine lv_if_ne (tgt := 11) C.1 C.2.1 dX12_send_6 (by decide) (fun hc => ?_) (fun hc => ?_)
  · rw [if_neg hc] at h
    refine lv_aload_n C.1 C.2.1 dX12_send_11 rfl (lv_at hl 0 rfl) ?_
    refine lv_iload_n C.1 C.2.1 dX12_send_12 rfl (lv_at hl 2 rfl) ?_
    refine lv_aload_n C.1 C.2.1 dX12_send_13 rfl (lv_at hl 0 rfl) ?_
    refine gf_63 C G dX12_send_14 ?_
    refine lv_iload_n C.1 C.2.1 dX12_send_17 rfl (lv_at hl 1 rfl) ?_
    obtain ⟨hi, h⟩ := ix_some h
    refine rf_iald C G 34 rfl (by decide) rfl rfl hi dX12_send_18 ?_
    obtain ⟨r_4, ρ_3, hq, h⟩ := bd2_some h
    refine rf_callV (rest := []) C G cw_isIn [.int x2, .int (ρ_1.1 34 x1.toNatClampNeg)] _ (kq_isIn l D h0 hq) (Nat.le_of_ble_eq_true rfl) (Nat.le_of_ble_eq_true rfl) rfl rfl hl.1 (Nat.le_of_ble_eq_true rfl) (Nat.zero_le _) (Nat.zero_le _) dX12_send_19 (fun H locs G => ?_)
    refine W.eq (g2 := F0 m 22 ls [.int r_4]) rfl ?_
    refine lv_if_ne (tgt := 28) C.1 C.2.1 dX12_send_22 (by decide) (fun hc => ?_) (fun hc => ?_)
    · rw [if_neg hc] at h
      refine lv_bipush (v := (16:Int32)) C.1 C.2.1 dX12_send_28 (by decide) ?_
      refine lv_aload_n C.1 C.2.1 dX12_send_30 rfl (lv_at hl 0 rfl) ?_
      refine gf_79 C G dX12_send_31 ?_
      refine lv_imul C.1 C.2.1 dX12_send_34 ?_
      refine lv_iload_n C.1 C.2.1 dX12_send_35 rfl (lv_at hl 1 rfl) ?_
      refine lv_iadd C.1 C.2.1 dX12_send_36 ?_
      refine vt_i h (fun x3_5 h => ?_)
      refine lv_istore_n (lv' := [(3, .int x3_5), (0, .ref h0), (1, .int x1), (2, .int x2)]) C.1 C.2.1 dX12_send_37 rfl hl (by decide) rfl (fun ls hl => ?_)
      refine lv_iconst (v := (0:Int32)) C.1 C.2.1 dX12_send_38 (by decide) ?_
      refine lv_istore (lv' := [(4, .int (0:Int32)), (3, .int x3_5), (0, .ref h0), (1, .int x1), (2, .int x2)]) C.1 C.2.1 dX12_send_39 hl (by decide) rfl (fun ls hl => ?_)
      exact wq_send_41 C h G (lv_sub hl [2, 3, 4, 1, 0] rfl)
    · rw [if_pos hc] at h
      refine lv_bipush (v := (-2:Int32)) C.1 C.2.1 dX12_send_25 (by decide) ?_
      exact rf_iret C G h dX12_send_27
  · rw [if_pos hc] at h
    refine lv_iconst (v := (-1:Int32)) C.1 C.2.1 dX12_send_9 (by decide) ?_
    exact rf_iret C G h dX12_send_10
noncomputable def fq_send (x1 : Int32) (x2 : Int32) (ρ : rf_S) : Option (Int32 × rf_S) := bq_send_0 x1 x2 ρ
theorem kq_send (l : Launch) (D : rf_D) (h0 : Nat) {r : Int32} {x1 : Int32} {x2 : Int32} {ρ ρ' : rf_S} (h : fq_send x1 x2 ρ = some (r, ρ')) : rf_Met l D h0 yX12_send cX12_send 5 (some .int) 1 22 [.ref h0, .int x1, .int x2] ρ (some (.int r)) ρ' :=
  rf_of rfl cc_send (Nat.le_of_ble_eq_true rfl) (fun p e s m args below meth c ls C G hl => wq_send_0 C h G hl)
abbrev cX12_receive : ByteArray := prog_14_method_88_code
def yX12_receive : MethodName := ⟨RX12, "receive", "(II)I"⟩
theorem dX12_receive_0 : decode cX12_receive 0 = .ok (.aload_n 0, 1) := by decide +kernel
theorem dX12_receive_1 : decode cX12_receive 1 = .ok (.iload_n 1, 1) := by decide +kernel
theorem dX12_receive_2 : decode cX12_receive 2 = .ok (.iconst 0, 1) := by decide +kernel
theorem dX12_receive_3 : decode cX12_receive 3 = .ok (.invokevirtual 635, 3) := by decide +kernel
theorem dX12_receive_6 : decode cX12_receive 6 = .ok (.ifCond .ne 5, 3) := by decide +kernel
theorem dX12_receive_9 : decode cX12_receive 9 = .ok (.iconst (-1), 1) := by decide +kernel
theorem dX12_receive_10 : decode cX12_receive 10 = .ok (.ireturn, 1) := by decide +kernel
theorem dX12_receive_11 : decode cX12_receive 11 = .ok (.aload_n 0, 1) := by decide +kernel
theorem dX12_receive_12 : decode cX12_receive 12 = .ok (.iload_n 2, 1) := by decide +kernel
theorem dX12_receive_13 : decode cX12_receive 13 = .ok (.aload_n 0, 1) := by decide +kernel
theorem dX12_receive_14 : decode cX12_receive 14 = .ok (.getfield 125, 3) := by decide +kernel
theorem dX12_receive_17 : decode cX12_receive 17 = .ok (.iload_n 1, 1) := by decide +kernel
theorem dX12_receive_18 : decode cX12_receive 18 = .ok (.iaload, 1) := by decide +kernel
theorem dX12_receive_19 : decode cX12_receive 19 = .ok (.invokevirtual 651, 3) := by decide +kernel
theorem dX12_receive_22 : decode cX12_receive 22 = .ok (.ifCond .ne 6, 3) := by decide +kernel
theorem dX12_receive_25 : decode cX12_receive 25 = .ok (.bipush (-2), 2) := by decide +kernel
theorem dX12_receive_27 : decode cX12_receive 27 = .ok (.ireturn, 1) := by decide +kernel
theorem dX12_receive_28 : decode cX12_receive 28 = .ok (.bipush 16, 2) := by decide +kernel
theorem dX12_receive_30 : decode cX12_receive 30 = .ok (.aload_n 0, 1) := by decide +kernel
theorem dX12_receive_31 : decode cX12_receive 31 = .ok (.getfield 525, 3) := by decide +kernel
theorem dX12_receive_34 : decode cX12_receive 34 = .ok (.imul, 1) := by decide +kernel
theorem dX12_receive_35 : decode cX12_receive 35 = .ok (.iload_n 1, 1) := by decide +kernel
theorem dX12_receive_36 : decode cX12_receive 36 = .ok (.iadd, 1) := by decide +kernel
theorem dX12_receive_37 : decode cX12_receive 37 = .ok (.istore_n 3, 1) := by decide +kernel
theorem dX12_receive_38 : decode cX12_receive 38 = .ok (.iconst 0, 1) := by decide +kernel
theorem dX12_receive_39 : decode cX12_receive 39 = .ok (.istore 4, 2) := by decide +kernel
theorem dX12_receive_41 : decode cX12_receive 41 = .ok (.iload 4, 2) := by decide +kernel
theorem dX12_receive_43 : decode cX12_receive 43 = .ok (.aload_n 0, 1) := by decide +kernel
theorem dX12_receive_44 : decode cX12_receive 44 = .ok (.getfield 125, 3) := by decide +kernel
theorem dX12_receive_47 : decode cX12_receive 47 = .ok (.iload_n 1, 1) := by decide +kernel
theorem dX12_receive_48 : decode cX12_receive 48 = .ok (.iaload, 1) := by decide +kernel
theorem dX12_receive_49 : decode cX12_receive 49 = .ok (.if_icmp .ge 37, 3) := by decide +kernel
theorem dX12_receive_52 : decode cX12_receive 52 = .ok (.aload_n 0, 1) := by decide +kernel
theorem dX12_receive_53 : decode cX12_receive 53 = .ok (.getfield 179, 3) := by decide +kernel
theorem dX12_receive_56 : decode cX12_receive 56 = .ok (.aload_n 0, 1) := by decide +kernel
theorem dX12_receive_57 : decode cX12_receive 57 = .ok (.getfield 570, 3) := by decide +kernel
theorem dX12_receive_60 : decode cX12_receive 60 = .ok (.iload_n 2, 1) := by decide +kernel
theorem dX12_receive_61 : decode cX12_receive 61 = .ok (.iconst 4, 1) := by decide +kernel
theorem dX12_receive_62 : decode cX12_receive 62 = .ok (.idiv, 1) := by decide +kernel
theorem dX12_receive_63 : decode cX12_receive 63 = .ok (.iadd, 1) := by decide +kernel
theorem dX12_receive_64 : decode cX12_receive 64 = .ok (.iload 4, 2) := by decide +kernel
theorem dX12_receive_66 : decode cX12_receive 66 = .ok (.iadd, 1) := by decide +kernel
theorem dX12_receive_67 : decode cX12_receive 67 = .ok (.aload_n 0, 1) := by decide +kernel
theorem dX12_receive_68 : decode cX12_receive 68 = .ok (.getfield 236, 3) := by decide +kernel
theorem dX12_receive_71 : decode cX12_receive 71 = .ok (.bipush 16, 2) := by decide +kernel
theorem dX12_receive_73 : decode cX12_receive 73 = .ok (.iload_n 3, 1) := by decide +kernel
theorem dX12_receive_74 : decode cX12_receive 74 = .ok (.imul, 1) := by decide +kernel
theorem dX12_receive_75 : decode cX12_receive 75 = .ok (.iload 4, 2) := by decide +kernel
theorem dX12_receive_77 : decode cX12_receive 77 = .ok (.iadd, 1) := by decide +kernel
theorem dX12_receive_78 : decode cX12_receive 78 = .ok (.iaload, 1) := by decide +kernel
theorem dX12_receive_79 : decode cX12_receive 79 = .ok (.iastore, 1) := by decide +kernel
theorem dX12_receive_80 : decode cX12_receive 80 = .ok (.iinc 4 1, 3) := by decide +kernel
theorem dX12_receive_83 : decode cX12_receive 83 = .ok (.goto (-42), 3) := by decide +kernel
theorem dX12_receive_86 : decode cX12_receive 86 = .ok (.aload_n 0, 1) := by decide +kernel
theorem dX12_receive_87 : decode cX12_receive 87 = .ok (.getfield 239, 3) := by decide +kernel
theorem dX12_receive_90 : decode cX12_receive 90 = .ok (.iload_n 3, 1) := by decide +kernel
theorem dX12_receive_91 : decode cX12_receive 91 = .ok (.baload, 1) := by decide +kernel
theorem dX12_receive_92 : decode cX12_receive 92 = .ok (.istore 4, 2) := by decide +kernel
theorem dX12_receive_94 : decode cX12_receive 94 = .ok (.aload_n 0, 1) := by decide +kernel
theorem dX12_receive_95 : decode cX12_receive 95 = .ok (.getfield 239, 3) := by decide +kernel
theorem dX12_receive_98 : decode cX12_receive 98 = .ok (.iload_n 3, 1) := by decide +kernel
theorem dX12_receive_99 : decode cX12_receive 99 = .ok (.iconst 0, 1) := by decide +kernel
theorem dX12_receive_100 : decode cX12_receive 100 = .ok (.bastore, 1) := by decide +kernel
theorem dX12_receive_101 : decode cX12_receive 101 = .ok (.iload 4, 2) := by decide +kernel
theorem dX12_receive_103 : decode cX12_receive 103 = .ok (.ifCond .eq 7, 3) := by decide +kernel
theorem dX12_receive_106 : decode cX12_receive 106 = .ok (.iconst 1, 1) := by decide +kernel
theorem dX12_receive_107 : decode cX12_receive 107 = .ok (.goto 4, 3) := by decide +kernel
theorem dX12_receive_110 : decode cX12_receive 110 = .ok (.iconst 0, 1) := by decide +kernel
theorem dX12_receive_111 : decode cX12_receive 111 = .ok (.ireturn, 1) := by decide +kernel
theorem cc_receive : Cond.code yX12_receive cX12_receive 5 (some .int) ∈ rf_tb := rf_at 2179 (by decide +kernel) (by decide +kernel)
theorem cw_receive : rf_wV yX12_receive cX12_receive 5 (some .int) 632 2 := ⟨⟨rf_at 2176 (by decide +kernel) (by decide +kernel), rf_at 2178 (by decide +kernel) (by decide +kernel), rf_sel (q := (yX12_receive, 122)) 123 (by decide +kernel) (by decide +kernel), cc_receive⟩, rfl, by decide +kernel⟩
noncomputable def lq_receive_41 (x1 : Int32) (x2 : Int32) (x3 : Int32) (x4 : Int32) (ρ : rf_S) : Option ((Int32 × rf_S) ⊕ (Int32 × rf_S)) := ix x1 16 ((if (ρ.1 34 x1.toNatClampNeg) ≤ x4 then some (.inr (x4, ρ)) else ix (((16:Int32) * x3) + x4) 512 (ix (((ρ.1 0 120) + (x2 / (4:Int32))) + x4) 16384 (vl (rf_w ρ 52 (((ρ.1 0 120) + (x2 / (4:Int32))) + x4).toNatClampNeg (ρ.1 71 (((16:Int32) * x3) + x4).toNatClampNeg)) (fun ρ_6 => vl (x4 + (1:Int32)) (fun x4_7 => some (.inl (x4_7, ρ_6))))))))
noncomputable def eq_receive_41 (x1 : Int32) (x2 : Int32) (x3 : Int32) (x4 : Int32) (ρ : rf_S) : Option (Int32 × rf_S) := ix x3 32 (vl (ρ.1 72 x3.toNatClampNeg) (fun x4_8 => ix x3 32 (vl (rf_w ρ 72 x3.toNatClampNeg (vp_nar .boolean (0:Int32))) (fun ρ_9 => (if x4_8 = 0 then some ((0:Int32), ρ_9) else some ((1:Int32), ρ_9))))))
noncomputable def bq_receive_41 (x1 : Int32) (x2 : Int32) (x3 : Int32) (x4 : Int32) (ρ : rf_S) : Option (Int32 × rf_S) := (lp (fun z : (Int32 × rf_S) => lq_receive_41 x1 x2 x3 z.1 z.2) (x4, ρ)).bind (fun z => eq_receive_41 x1 x2 x3 z.1 z.2)
set_option maxHeartbeats 4000000 in
theorem wq_receive_41 (C : rf_C D p s m args meth c cX12_receive 5 (some .int)) {r : Int32} {x1 : Int32} {x2 : Int32} {x3 : Int32} {x4 : Int32} {ρ ρ' : rf_S} {H : Heap} {locs : List Loc} {ls : Array Slot} (h : bq_receive_41 x1 x2 x3 x4 ρ = some (r, ρ')) (G : rf_G D h0 s ρ H locs) (hl : lv_has ls 5 [(0, .ref h0), (1, .int x1), (2, .int x2), (3, .int x3), (4, .int x4)]) : W p l e ({ frames := 1, cells := 0, slots := 0, locals := 22 }) s m args below meth c H locs 0 0 (MQ below (rf_Q D h0 (some (.int r)) ρ') args s 0 0 (rf_A h0)) (F0 m 41 ls []) := by
  unfold bq_receive_41 at h
  obtain ⟨y, hy, h⟩ := bd_some h
  have hE : (fun z : (Int32 × rf_S) => ∀ (H : Heap) (locs : List Loc) (ls : Array Slot), rf_G D h0 s z.2 H locs → lv_has ls 5 [(0, .ref h0), (1, .int x1), (2, .int x2), (3, .int x3), (4, .int z.1)] → W p l e ({ frames := 1, cells := 0, slots := 0, locals := 22 }) s m args below meth c H locs 0 0 (MQ below (rf_Q D h0 (some (.int r)) ρ') args s 0 0 (rf_A h0)) (F0 m 86 ls [])) y := by
    intro H locs ls G hl
    obtain ⟨x4, ρ⟩ := y
    dsimp only at h G hl
    unfold eq_receive_41 at h
    refine lv_aload_n C.1 C.2.1 dX12_receive_86 rfl (lv_at hl 0 rfl) ?_
    refine gf_104 C G dX12_receive_87 ?_
    refine lv_iload_n C.1 C.2.1 dX12_receive_90 rfl (lv_at hl 3 rfl) ?_
    obtain ⟨hi, h⟩ := ix_some h
    refine rf_zald C G 72 rfl (by decide) rfl rfl hi dX12_receive_91 ?_
    refine vt_i h (fun x4_8 h => ?_)
    refine lv_istore (lv' := [(4, .int x4_8), (0, .ref h0), (1, .int x1), (2, .int x2), (3, .int x3)]) C.1 C.2.1 dX12_receive_92 hl (by decide) rfl (fun ls hl => ?_)
    refine lv_aload_n C.1 C.2.1 dX12_receive_94 rfl (lv_at hl 1 rfl) ?_
    refine gf_104 C G dX12_receive_95 ?_
    refine lv_iload_n C.1 C.2.1 dX12_receive_98 rfl (lv_at hl 4 rfl) ?_
    refine lv_iconst (v := (0:Int32)) C.1 C.2.1 dX12_receive_99 (by decide) ?_
    obtain ⟨hi, h⟩ := ix_some h
    refine rf_zast C G 72 rfl (by decide) rfl rfl hi dX12_receive_100 (fun H locs G => ?_)
    refine rf_nm G h (fun ρ_9 G h => ?_)
    refine lv_iload C.1 C.2.1 dX12_receive_101 (lv_at hl 0 rfl) ?_
    refine lv_if_eq (tgt := 110) C.1 C.2.1 dX12_receive_103 (by decide) (fun hc => ?_) (fun hc => ?_)
    · rw [if_pos hc] at h
      refine lv_iconst (v := (0:Int32)) C.1 C.2.1 dX12_receive_110 (by decide) ?_
      exact rf_iret C G h dX12_receive_111
    · rw [if_neg hc] at h
      refine lv_iconst (v := (1:Int32)) C.1 C.2.1 dX12_receive_106 (by decide) ?_
      refine lv_goto (tgt := 111) C.1 C.2.1 dX12_receive_107 (by decide) ?_
      exact rf_iret C G h dX12_receive_111
  refine lp_recE (fun z : (Int32 × rf_S) => ∀ (H : Heap) (locs : List Loc) (ls : Array Slot), rf_G D h0 s z.2 H locs → lv_has ls 5 [(0, .ref h0), (1, .int x1), (2, .int x2), (3, .int x3), (4, .int z.1)] → W p l e ({ frames := 1, cells := 0, slots := 0, locals := 22 }) s m args below meth c H locs 0 0 (MQ below (rf_Q D h0 (some (.int r)) ρ') args s 0 0 (rf_A h0)) (F0 m 41 ls [])) (fun z : (Int32 × rf_S) => ∀ (H : Heap) (locs : List Loc) (ls : Array Slot), rf_G D h0 s z.2 H locs → lv_has ls 5 [(0, .ref h0), (1, .int x1), (2, .int x2), (3, .int x3), (4, .int z.1)] → W p l e ({ frames := 1, cells := 0, slots := 0, locals := 22 }) s m args below meth c H locs 0 0 (MQ below (rf_Q D h0 (some (.int r)) ρ') args s 0 0 (rf_A h0)) (F0 m 86 ls [])) ?_ _ _ hy hE _ _ _ G hl
  clear hE hy G hl h
  intro z o h hP H locs ls G hl
  obtain ⟨x4, ρ⟩ := z
  dsimp only at h G hl
  unfold lq_receive_41 at h
  refine lv_iload C.1 C.2.1 dX12_receive_41 (lv_at hl 4 rfl) ?_
  refine lv_aload_n C.1 C.2.1 dX12_receive_43 rfl (lv_at hl 0 rfl) ?_
  refine gf_63 C G dX12_receive_44 ?_
  refine lv_iload_n C.1 C.2.1 dX12_receive_47 rfl (lv_at hl 1 rfl) ?_
  obtain ⟨hi, h⟩ := ix_some h
  refine rf_iald C G 34 rfl (by decide) rfl rfl hi dX12_receive_48 ?_
  refine lv_icmp_ge (tgt := 86) C.1 C.2.1 dX12_receive_49 (by decide) (fun hc => ?_) (fun hc => ?_)
  · rw [if_pos hc] at h
    cases h
    exact hP _ _ _ G (lv_sub hl [0, 1, 2, 3, 4] rfl)
  · rw [if_neg hc] at h
    refine lv_aload_n C.1 C.2.1 dX12_receive_52 rfl (lv_at hl 0 rfl) ?_
    refine gf_84 C G dX12_receive_53 ?_
    refine lv_aload_n C.1 C.2.1 dX12_receive_56 rfl (lv_at hl 0 rfl) ?_
    refine gf_120 C G dX12_receive_57 ?_
    refine lv_iload_n C.1 C.2.1 dX12_receive_60 rfl (lv_at hl 2 rfl) ?_
    refine lv_iconst (v := (4:Int32)) C.1 C.2.1 dX12_receive_61 (by decide) ?_
    refine lv_idiv C.1 C.2.1 dX12_receive_62 (by decide) ?_
    refine lv_iadd C.1 C.2.1 dX12_receive_63 ?_
    refine lv_iload C.1 C.2.1 dX12_receive_64 (lv_at hl 4 rfl) ?_
    refine lv_iadd C.1 C.2.1 dX12_receive_66 ?_
    refine lv_aload_n C.1 C.2.1 dX12_receive_67 rfl (lv_at hl 0 rfl) ?_
    refine gf_103 C G dX12_receive_68 ?_
    refine lv_bipush (v := (16:Int32)) C.1 C.2.1 dX12_receive_71 (by decide) ?_
    refine lv_iload_n C.1 C.2.1 dX12_receive_73 rfl (lv_at hl 3 rfl) ?_
    refine lv_imul C.1 C.2.1 dX12_receive_74 ?_
    refine lv_iload C.1 C.2.1 dX12_receive_75 (lv_at hl 4 rfl) ?_
    refine lv_iadd C.1 C.2.1 dX12_receive_77 ?_
    obtain ⟨hi, h⟩ := ix_some h
    refine rf_iald C G 71 rfl (by decide) rfl rfl hi dX12_receive_78 ?_
    obtain ⟨hi, h⟩ := ix_some h
    refine rf_iast C G 52 rfl (by decide) rfl rfl hi dX12_receive_79 (fun H locs G => ?_)
    refine rf_nm G h (fun ρ_6 G h => ?_)
    refine vl_ex h (fun x4_7 ey h => ?_)
    refine lv_iinc (v := x4_7) (lv' := [(4, .int x4_7), (0, .ref h0), (1, .int x1), (2, .int x2), (3, .int x3)]) C.1 C.2.1 dX12_receive_80 hl (k := 4) rfl (by rw [ey]; rfl) (by decide) rfl (fun ls hl => ?_)
    refine lv_goto (tgt := 41) C.1 C.2.1 dX12_receive_83 (by decide) ?_
    cases h
    exact hP _ _ _ G (lv_sub hl [1, 2, 3, 4, 0] rfl)
noncomputable def bq_receive_0 (x1 : Int32) (x2 : Int32) (ρ : rf_S) : Option (Int32 × rf_S) := bd2 (fq_isChannel x1 (0:Int32) ρ) (fun r_2 ρ_1 => (if r_2 = 0 then some ((-1:Int32), ρ_1) else ix x1 16 (bd2 (fq_isIn x2 (ρ_1.1 34 x1.toNatClampNeg) ρ_1) (fun r_4 ρ_3 => (if r_4 = 0 then some ((-2:Int32), ρ_3) else vl (((16:Int32) * (ρ_3.1 0 79)) + x1) (fun x3_5 => bq_receive_41 x1 x2 x3_5 (0:Int32) ρ_3))))))
set_option maxHeartbeats 4000000 in
theorem wq_receive_0 (C : rf_C D p s m args meth c cX12_receive 5 (some .int)) {r : Int32} {x1 : Int32} {x2 : Int32} {ρ ρ' : rf_S} {H : Heap} {locs : List Loc} {ls : Array Slot} (h : bq_receive_0 x1 x2 ρ = some (r, ρ')) (G : rf_G D h0 s ρ H locs) (hl : lv_has ls 5 [(0, .ref h0), (1, .int x1), (2, .int x2)]) : W p l e ({ frames := 1, cells := 0, slots := 0, locals := 22 }) s m args below meth c H locs 0 0 (MQ below (rf_Q D h0 (some (.int r)) ρ') args s 0 0 (rf_A h0)) (F0 m 0 ls []) := by
  unfold bq_receive_0 at h
  refine lv_aload_n C.1 C.2.1 dX12_receive_0 rfl (lv_at hl 0 rfl) ?_
  refine lv_iload_n C.1 C.2.1 dX12_receive_1 rfl (lv_at hl 1 rfl) ?_
  refine lv_iconst (v := (0:Int32)) C.1 C.2.1 dX12_receive_2 (by decide) ?_
  obtain ⟨r_2, ρ_1, hq, h⟩ := bd2_some h
  refine rf_callV (rest := []) C G cw_isChannel [.int x1, .int (0:Int32)] _ (kq_isChannel l D h0 hq) (Nat.le_of_ble_eq_true rfl) (Nat.le_of_ble_eq_true rfl) rfl rfl hl.1 (Nat.le_of_ble_eq_true rfl) (Nat.zero_le _) (Nat.zero_le _) dX12_receive_3 (fun H locs G => ?_)
  refine W.eq (g2 := F0 m 6 ls [.int r_2]) rfl ?_
  refine lv_if_ne (tgt := 11) C.1 C.2.1 dX12_receive_6 (by decide) (fun hc => ?_) (fun hc => ?_)
  · rw [if_neg hc] at h
    refine lv_aload_n C.1 C.2.1 dX12_receive_11 rfl (lv_at hl 0 rfl) ?_
    refine lv_iload_n C.1 C.2.1 dX12_receive_12 rfl (lv_at hl 2 rfl) ?_
    refine lv_aload_n C.1 C.2.1 dX12_receive_13 rfl (lv_at hl 0 rfl) ?_
    refine gf_63 C G dX12_receive_14 ?_
    refine lv_iload_n C.1 C.2.1 dX12_receive_17 rfl (lv_at hl 1 rfl) ?_
    obtain ⟨hi, h⟩ := ix_some h
    refine rf_iald C G 34 rfl (by decide) rfl rfl hi dX12_receive_18 ?_
    obtain ⟨r_4, ρ_3, hq, h⟩ := bd2_some h
    refine rf_callV (rest := []) C G cw_isIn [.int x2, .int (ρ_1.1 34 x1.toNatClampNeg)] _ (kq_isIn l D h0 hq) (Nat.le_of_ble_eq_true rfl) (Nat.le_of_ble_eq_true rfl) rfl rfl hl.1 (Nat.le_of_ble_eq_true rfl) (Nat.zero_le _) (Nat.zero_le _) dX12_receive_19 (fun H locs G => ?_)
    refine W.eq (g2 := F0 m 22 ls [.int r_4]) rfl ?_
    refine lv_if_ne (tgt := 28) C.1 C.2.1 dX12_receive_22 (by decide) (fun hc => ?_) (fun hc => ?_)
    · rw [if_neg hc] at h
      refine lv_bipush (v := (16:Int32)) C.1 C.2.1 dX12_receive_28 (by decide) ?_
      refine lv_aload_n C.1 C.2.1 dX12_receive_30 rfl (lv_at hl 0 rfl) ?_
      refine gf_79 C G dX12_receive_31 ?_
      refine lv_imul C.1 C.2.1 dX12_receive_34 ?_
      refine lv_iload_n C.1 C.2.1 dX12_receive_35 rfl (lv_at hl 1 rfl) ?_
      refine lv_iadd C.1 C.2.1 dX12_receive_36 ?_
      refine vt_i h (fun x3_5 h => ?_)
      refine lv_istore_n (lv' := [(3, .int x3_5), (0, .ref h0), (1, .int x1), (2, .int x2)]) C.1 C.2.1 dX12_receive_37 rfl hl (by decide) rfl (fun ls hl => ?_)
      refine lv_iconst (v := (0:Int32)) C.1 C.2.1 dX12_receive_38 (by decide) ?_
      refine lv_istore (lv' := [(4, .int (0:Int32)), (3, .int x3_5), (0, .ref h0), (1, .int x1), (2, .int x2)]) C.1 C.2.1 dX12_receive_39 hl (by decide) rfl (fun ls hl => ?_)
      exact wq_receive_41 C h G (lv_sub hl [2, 3, 4, 1, 0] rfl)
    · rw [if_pos hc] at h
      refine lv_bipush (v := (-2:Int32)) C.1 C.2.1 dX12_receive_25 (by decide) ?_
      exact rf_iret C G h dX12_receive_27
  · rw [if_pos hc] at h
    refine lv_iconst (v := (-1:Int32)) C.1 C.2.1 dX12_receive_9 (by decide) ?_
    exact rf_iret C G h dX12_receive_10
noncomputable def fq_receive (x1 : Int32) (x2 : Int32) (ρ : rf_S) : Option (Int32 × rf_S) := bq_receive_0 x1 x2 ρ
theorem kq_receive (l : Launch) (D : rf_D) (h0 : Nat) {r : Int32} {x1 : Int32} {x2 : Int32} {ρ ρ' : rf_S} (h : fq_receive x1 x2 ρ = some (r, ρ')) : rf_Met l D h0 yX12_receive cX12_receive 5 (some .int) 1 22 [.ref h0, .int x1, .int x2] ρ (some (.int r)) ρ' :=
  rf_of rfl cc_receive (Nat.le_of_ble_eq_true rfl) (fun p e s m args below meth c ls C G hl => wq_receive_0 C h G hl)
abbrev cX12_isHandle : ByteArray := prog_14_method_76_code
def yX12_isHandle : MethodName := ⟨RX12, "isHandle", "(I)Z"⟩
theorem dX12_isHandle_0 : decode cX12_isHandle 0 = .ok (.iload_n 1, 1) := by decide +kernel
theorem dX12_isHandle_1 : decode cX12_isHandle 1 = .ok (.iconst 1, 1) := by decide +kernel
theorem dX12_isHandle_2 : decode cX12_isHandle 2 = .ok (.if_icmp .lt 20, 3) := by decide +kernel
theorem dX12_isHandle_5 : decode cX12_isHandle 5 = .ok (.iload_n 1, 1) := by decide +kernel
theorem dX12_isHandle_6 : decode cX12_isHandle 6 = .ok (.aload_n 0, 1) := by decide +kernel
theorem dX12_isHandle_7 : decode cX12_isHandle 7 = .ok (.getfield 206, 3) := by decide +kernel
theorem dX12_isHandle_10 : decode cX12_isHandle 10 = .ok (.aload_n 0, 1) := by decide +kernel
theorem dX12_isHandle_11 : decode cX12_isHandle 11 = .ok (.getfield 563, 3) := by decide +kernel
theorem dX12_isHandle_14 : decode cX12_isHandle 14 = .ok (.iaload, 1) := by decide +kernel
theorem dX12_isHandle_15 : decode cX12_isHandle 15 = .ok (.if_icmp .gt 7, 3) := by decide +kernel
theorem dX12_isHandle_18 : decode cX12_isHandle 18 = .ok (.iconst 1, 1) := by decide +kernel
theorem dX12_isHandle_19 : decode cX12_isHandle 19 = .ok (.goto 4, 3) := by decide +kernel
theorem dX12_isHandle_22 : decode cX12_isHandle 22 = .ok (.iconst 0, 1) := by decide +kernel
theorem dX12_isHandle_23 : decode cX12_isHandle 23 = .ok (.ireturn, 1) := by decide +kernel
theorem cc_isHandle : Cond.code yX12_isHandle cX12_isHandle 2 (some .boolean) ∈ rf_tb := rf_at 2183 (by decide +kernel) (by decide +kernel)
theorem cw_isHandle : rf_wV yX12_isHandle cX12_isHandle 2 (some .boolean) 639 1 := ⟨⟨rf_at 2180 (by decide +kernel) (by decide +kernel), rf_at 2182 (by decide +kernel) (by decide +kernel), rf_sel (q := (yX12_isHandle, 122)) 124 (by decide +kernel) (by decide +kernel), cc_isHandle⟩, rfl, by decide +kernel⟩
noncomputable def bq_isHandle_0 (x1 : Int32) (ρ : rf_S) : Option (Int32 × rf_S) := (if x1 < (1:Int32) then some ((0:Int32), ρ) else ix (ρ.1 0 119) 16 ((if (ρ.1 61 (ρ.1 0 119).toNatClampNeg) < x1 then some ((0:Int32), ρ) else some ((1:Int32), ρ))))
set_option maxHeartbeats 4000000 in
theorem wq_isHandle_0 (C : rf_C D p s m args meth c cX12_isHandle 2 (some .boolean)) {r : Int32} {x1 : Int32} {ρ ρ' : rf_S} {H : Heap} {locs : List Loc} {ls : Array Slot} (h : bq_isHandle_0 x1 ρ = some (r, ρ')) (G : rf_G D h0 s ρ H locs) (hl : lv_has ls 2 [(0, .ref h0), (1, .int x1)]) : W p l e ({ frames := 0, cells := 0, slots := 0, locals := 0 }) s m args below meth c H locs 0 0 (MQ below (rf_Q D h0 (some (.int r)) ρ') args s 0 0 (rf_A h0)) (F0 m 0 ls []) := by
  unfold bq_isHandle_0 at h
  refine lv_iload_n C.1 C.2.1 dX12_isHandle_0 rfl (lv_at hl 1 rfl) ?_
  refine lv_iconst (v := (1:Int32)) C.1 C.2.1 dX12_isHandle_1 (by decide) ?_
  refine lv_icmp_lt (tgt := 22) C.1 C.2.1 dX12_isHandle_2 (by decide) (fun hc => ?_) (fun hc => ?_)
  · rw [if_pos hc] at h
    refine lv_iconst (v := (0:Int32)) C.1 C.2.1 dX12_isHandle_22 (by decide) ?_
    exact rf_zret C G h rfl dX12_isHandle_23
  · rw [if_neg hc] at h
    refine lv_iload_n C.1 C.2.1 dX12_isHandle_5 rfl (lv_at hl 1 rfl) ?_
    refine lv_aload_n C.1 C.2.1 dX12_isHandle_6 rfl (lv_at hl 0 rfl) ?_
    refine gf_93 C G dX12_isHandle_7 ?_
    refine lv_aload_n C.1 C.2.1 dX12_isHandle_10 rfl (lv_at hl 0 rfl) ?_
    refine gf_119 C G dX12_isHandle_11 ?_
    obtain ⟨hi, h⟩ := ix_some h
    refine rf_iald C G 61 rfl (by decide) rfl rfl hi dX12_isHandle_14 ?_
    refine lv_icmp_gt (tgt := 22) C.1 C.2.1 dX12_isHandle_15 (by decide) (fun hc => ?_) (fun hc => ?_)
    · rw [if_pos hc] at h
      refine lv_iconst (v := (0:Int32)) C.1 C.2.1 dX12_isHandle_22 (by decide) ?_
      exact rf_zret C G h rfl dX12_isHandle_23
    · rw [if_neg hc] at h
      refine lv_iconst (v := (1:Int32)) C.1 C.2.1 dX12_isHandle_18 (by decide) ?_
      refine lv_goto (tgt := 23) C.1 C.2.1 dX12_isHandle_19 (by decide) ?_
      exact rf_zret C G h rfl dX12_isHandle_23
noncomputable def fq_isHandle (x1 : Int32) (ρ : rf_S) : Option (Int32 × rf_S) := bq_isHandle_0 x1 ρ
theorem kq_isHandle (l : Launch) (D : rf_D) (h0 : Nat) {r : Int32} {x1 : Int32} {ρ ρ' : rf_S} (h : fq_isHandle x1 ρ = some (r, ρ')) : rf_Met l D h0 yX12_isHandle cX12_isHandle 2 (some .boolean) 0 0 [.ref h0, .int x1] ρ (some (.int r)) ρ' :=
  rf_of rfl cc_isHandle (Nat.le_of_ble_eq_true rfl) (fun p e s m args below meth c ls C G hl => wq_isHandle_0 C h G hl)
abbrev cX12_of : ByteArray := prog_14_method_77_code
def yX12_of : MethodName := ⟨RX12, "of", "(I)I"⟩
theorem dX12_of_0 : decode cX12_of 0 = .ok (.aload_n 0, 1) := by decide +kernel
theorem dX12_of_1 : decode cX12_of 1 = .ok (.getfield 203, 3) := by decide +kernel
theorem dX12_of_4 : decode cX12_of 4 = .ok (.bipush 100, 2) := by decide +kernel
theorem dX12_of_6 : decode cX12_of 6 = .ok (.aload_n 0, 1) := by decide +kernel
theorem dX12_of_7 : decode cX12_of 7 = .ok (.getfield 563, 3) := by decide +kernel
theorem dX12_of_10 : decode cX12_of 10 = .ok (.imul, 1) := by decide +kernel
theorem dX12_of_11 : decode cX12_of 11 = .ok (.iload_n 1, 1) := by decide +kernel
theorem dX12_of_12 : decode cX12_of 12 = .ok (.iadd, 1) := by decide +kernel
theorem dX12_of_13 : decode cX12_of 13 = .ok (.iconst 1, 1) := by decide +kernel
theorem dX12_of_14 : decode cX12_of 14 = .ok (.isub, 1) := by decide +kernel
theorem dX12_of_15 : decode cX12_of 15 = .ok (.iaload, 1) := by decide +kernel
theorem dX12_of_16 : decode cX12_of 16 = .ok (.ireturn, 1) := by decide +kernel
theorem cc_of : Cond.code yX12_of cX12_of 2 (some .int) ∈ rf_tb := rf_at 2187 (by decide +kernel) (by decide +kernel)
theorem cw_of : rf_wV yX12_of cX12_of 2 (some .int) 642 1 := ⟨⟨rf_at 2184 (by decide +kernel) (by decide +kernel), rf_at 2186 (by decide +kernel) (by decide +kernel), rf_sel (q := (yX12_of, 122)) 125 (by decide +kernel) (by decide +kernel), cc_of⟩, rfl, by decide +kernel⟩
noncomputable def bq_of_0 (x1 : Int32) (ρ : rf_S) : Option (Int32 × rf_S) := ix ((((100:Int32) * (ρ.1 0 119)) + x1) - (1:Int32)) 1600 (some ((ρ.1 60 ((((100:Int32) * (ρ.1 0 119)) + x1) - (1:Int32)).toNatClampNeg), ρ))
set_option maxHeartbeats 4000000 in
theorem wq_of_0 (C : rf_C D p s m args meth c cX12_of 2 (some .int)) {r : Int32} {x1 : Int32} {ρ ρ' : rf_S} {H : Heap} {locs : List Loc} {ls : Array Slot} (h : bq_of_0 x1 ρ = some (r, ρ')) (G : rf_G D h0 s ρ H locs) (hl : lv_has ls 2 [(0, .ref h0), (1, .int x1)]) : W p l e ({ frames := 0, cells := 0, slots := 0, locals := 0 }) s m args below meth c H locs 0 0 (MQ below (rf_Q D h0 (some (.int r)) ρ') args s 0 0 (rf_A h0)) (F0 m 0 ls []) := by
  unfold bq_of_0 at h
  refine lv_aload_n C.1 C.2.1 dX12_of_0 rfl (lv_at hl 0 rfl) ?_
  refine gf_92 C G dX12_of_1 ?_
  refine lv_bipush (v := (100:Int32)) C.1 C.2.1 dX12_of_4 (by decide) ?_
  refine lv_aload_n C.1 C.2.1 dX12_of_6 rfl (lv_at hl 0 rfl) ?_
  refine gf_119 C G dX12_of_7 ?_
  refine lv_imul C.1 C.2.1 dX12_of_10 ?_
  refine lv_iload_n C.1 C.2.1 dX12_of_11 rfl (lv_at hl 1 rfl) ?_
  refine lv_iadd C.1 C.2.1 dX12_of_12 ?_
  refine lv_iconst (v := (1:Int32)) C.1 C.2.1 dX12_of_13 (by decide) ?_
  refine lv_isub C.1 C.2.1 dX12_of_14 ?_
  obtain ⟨hi, h⟩ := ix_some h
  refine rf_iald C G 60 rfl (by decide) rfl rfl hi dX12_of_15 ?_
  exact rf_iret C G h dX12_of_16
noncomputable def fq_of (x1 : Int32) (ρ : rf_S) : Option (Int32 × rf_S) := bq_of_0 x1 ρ
theorem kq_of (l : Launch) (D : rf_D) (h0 : Nat) {r : Int32} {x1 : Int32} {ρ ρ' : rf_S} (h : fq_of x1 ρ = some (r, ρ')) : rf_Met l D h0 yX12_of cX12_of 2 (some .int) 0 0 [.ref h0, .int x1] ρ (some (.int r)) ρ' :=
  rf_of rfl cc_of (Nat.le_of_ble_eq_true rfl) (fun p e s m args below meth c ls C G hl => wq_of_0 C h G hl)
abbrev cX12_find : ByteArray := prog_14_method_75_code
def yX12_find : MethodName := ⟨RX12, "find", "(I)I"⟩
theorem dX12_find_0 : decode cX12_find 0 = .ok (.iconst 0, 1) := by decide +kernel
theorem dX12_find_1 : decode cX12_find 1 = .ok (.istore_n 2, 1) := by decide +kernel
theorem dX12_find_2 : decode cX12_find 2 = .ok (.iload_n 2, 1) := by decide +kernel
theorem dX12_find_3 : decode cX12_find 3 = .ok (.aload_n 0, 1) := by decide +kernel
theorem dX12_find_4 : decode cX12_find 4 = .ok (.getfield 206, 3) := by decide +kernel
theorem dX12_find_7 : decode cX12_find 7 = .ok (.aload_n 0, 1) := by decide +kernel
theorem dX12_find_8 : decode cX12_find 8 = .ok (.getfield 563, 3) := by decide +kernel
theorem dX12_find_11 : decode cX12_find 11 = .ok (.iaload, 1) := by decide +kernel
theorem dX12_find_12 : decode cX12_find 12 = .ok (.if_icmp .ge 31, 3) := by decide +kernel
theorem dX12_find_15 : decode cX12_find 15 = .ok (.aload_n 0, 1) := by decide +kernel
theorem dX12_find_16 : decode cX12_find 16 = .ok (.getfield 203, 3) := by decide +kernel
theorem dX12_find_19 : decode cX12_find 19 = .ok (.bipush 100, 2) := by decide +kernel
theorem dX12_find_21 : decode cX12_find 21 = .ok (.aload_n 0, 1) := by decide +kernel
theorem dX12_find_22 : decode cX12_find 22 = .ok (.getfield 563, 3) := by decide +kernel
theorem dX12_find_25 : decode cX12_find 25 = .ok (.imul, 1) := by decide +kernel
theorem dX12_find_26 : decode cX12_find 26 = .ok (.iload_n 2, 1) := by decide +kernel
theorem dX12_find_27 : decode cX12_find 27 = .ok (.iadd, 1) := by decide +kernel
theorem dX12_find_28 : decode cX12_find 28 = .ok (.iaload, 1) := by decide +kernel
theorem dX12_find_29 : decode cX12_find 29 = .ok (.iload_n 1, 1) := by decide +kernel
theorem dX12_find_30 : decode cX12_find 30 = .ok (.if_icmp .ne 7, 3) := by decide +kernel
theorem dX12_find_33 : decode cX12_find 33 = .ok (.iload_n 2, 1) := by decide +kernel
theorem dX12_find_34 : decode cX12_find 34 = .ok (.iconst 1, 1) := by decide +kernel
theorem dX12_find_35 : decode cX12_find 35 = .ok (.iadd, 1) := by decide +kernel
theorem dX12_find_36 : decode cX12_find 36 = .ok (.ireturn, 1) := by decide +kernel
theorem dX12_find_37 : decode cX12_find 37 = .ok (.iinc 2 1, 3) := by decide +kernel
theorem dX12_find_40 : decode cX12_find 40 = .ok (.goto (-38), 3) := by decide +kernel
theorem dX12_find_43 : decode cX12_find 43 = .ok (.iconst 0, 1) := by decide +kernel
theorem dX12_find_44 : decode cX12_find 44 = .ok (.ireturn, 1) := by decide +kernel
theorem cc_find : Cond.code yX12_find cX12_find 3 (some .int) ∈ rf_tb := rf_at 2195 (by decide +kernel) (by decide +kernel)
theorem cw_find : rf_wV yX12_find cX12_find 3 (some .int) 607 1 := ⟨⟨rf_at 2192 (by decide +kernel) (by decide +kernel), rf_at 2194 (by decide +kernel) (by decide +kernel), rf_sel (q := (yX12_find, 122)) 127 (by decide +kernel) (by decide +kernel), cc_find⟩, rfl, by decide +kernel⟩
noncomputable def lq_find_2 (x1 : Int32) (x2 : Int32) (ρ : rf_S) : Option ((Int32 × rf_S) ⊕ ((Int32 × rf_S) ⊕ (Int32 × rf_S))) := ix (ρ.1 0 119) 16 ((if (ρ.1 61 (ρ.1 0 119).toNatClampNeg) ≤ x2 then some (.inr (.inr (x2, ρ))) else ix (((100:Int32) * (ρ.1 0 119)) + x2) 1600 ((if (ρ.1 60 (((100:Int32) * (ρ.1 0 119)) + x2).toNatClampNeg) = x1 then some (.inr (.inl ((x2 + (1:Int32)), ρ))) else vl (x2 + (1:Int32)) (fun x2_1 => some (.inl (x2_1, ρ)))))))
noncomputable def eq_find_2 (x1 : Int32) (x2 : Int32) (ρ : rf_S) : Option (Int32 × rf_S) := some ((0:Int32), ρ)
noncomputable def bq_find_2 (x1 : Int32) (x2 : Int32) (ρ : rf_S) : Option (Int32 × rf_S) := (lp (fun z : (Int32 × rf_S) => lq_find_2 x1 z.1 z.2) (x2, ρ)).bind (fun y => Sum.elim (fun z => some z) (fun z => eq_find_2 x1 z.1 z.2) y)
set_option maxHeartbeats 4000000 in
theorem wq_find_2 (C : rf_C D p s m args meth c cX12_find 3 (some .int)) {r : Int32} {x1 : Int32} {x2 : Int32} {ρ ρ' : rf_S} {H : Heap} {locs : List Loc} {ls : Array Slot} (h : bq_find_2 x1 x2 ρ = some (r, ρ')) (G : rf_G D h0 s ρ H locs) (hl : lv_has ls 3 [(0, .ref h0), (1, .int x1), (2, .int x2)]) : W p l e ({ frames := 0, cells := 0, slots := 0, locals := 0 }) s m args below meth c H locs 0 0 (MQ below (rf_Q D h0 (some (.int r)) ρ') args s 0 0 (rf_A h0)) (F0 m 2 ls []) := by
  unfold bq_find_2 at h
  obtain ⟨y, hy, h⟩ := bd_some h
  have hE : (Sum.elim (fun z : Int32 × rf_S => z = (r, ρ')) (fun z : (Int32 × rf_S) => ∀ (H : Heap) (locs : List Loc) (ls : Array Slot), rf_G D h0 s z.2 H locs → lv_has ls 3 [(0, .ref h0), (1, .int x1), (2, .int z.1)] → W p l e ({ frames := 0, cells := 0, slots := 0, locals := 0 }) s m args below meth c H locs 0 0 (MQ below (rf_Q D h0 (some (.int r)) ρ') args s 0 0 (rf_A h0)) (F0 m 43 ls []))) y := by
    cases y with
    | inl z =>
      exact Option.some.inj h
    | inr z =>
      intro H locs ls G hl
      have h := se_r h
      obtain ⟨x2, ρ⟩ := z
      dsimp only at h G hl
      unfold eq_find_2 at h
      refine lv_iconst (v := (0:Int32)) C.1 C.2.1 dX12_find_43 (by decide) ?_
      exact rf_iret C G h dX12_find_44
  refine lp_recE (fun z : (Int32 × rf_S) => ∀ (H : Heap) (locs : List Loc) (ls : Array Slot), rf_G D h0 s z.2 H locs → lv_has ls 3 [(0, .ref h0), (1, .int x1), (2, .int z.1)] → W p l e ({ frames := 0, cells := 0, slots := 0, locals := 0 }) s m args below meth c H locs 0 0 (MQ below (rf_Q D h0 (some (.int r)) ρ') args s 0 0 (rf_A h0)) (F0 m 2 ls [])) (Sum.elim (fun z : Int32 × rf_S => z = (r, ρ')) (fun z : (Int32 × rf_S) => ∀ (H : Heap) (locs : List Loc) (ls : Array Slot), rf_G D h0 s z.2 H locs → lv_has ls 3 [(0, .ref h0), (1, .int x1), (2, .int z.1)] → W p l e ({ frames := 0, cells := 0, slots := 0, locals := 0 }) s m args below meth c H locs 0 0 (MQ below (rf_Q D h0 (some (.int r)) ρ') args s 0 0 (rf_A h0)) (F0 m 43 ls []))) ?_ _ _ hy hE _ _ _ G hl
  clear hE hy G hl h
  intro z o h hP H locs ls G hl
  obtain ⟨x2, ρ⟩ := z
  dsimp only at h G hl
  unfold lq_find_2 at h
  refine lv_iload_n C.1 C.2.1 dX12_find_2 rfl (lv_at hl 2 rfl) ?_
  refine lv_aload_n C.1 C.2.1 dX12_find_3 rfl (lv_at hl 0 rfl) ?_
  refine gf_93 C G dX12_find_4 ?_
  refine lv_aload_n C.1 C.2.1 dX12_find_7 rfl (lv_at hl 0 rfl) ?_
  refine gf_119 C G dX12_find_8 ?_
  obtain ⟨hi, h⟩ := ix_some h
  refine rf_iald C G 61 rfl (by decide) rfl rfl hi dX12_find_11 ?_
  refine lv_icmp_ge (tgt := 43) C.1 C.2.1 dX12_find_12 (by decide) (fun hc => ?_) (fun hc => ?_)
  · rw [if_pos hc] at h
    cases h
    exact hP _ _ _ G (lv_sub hl [0, 1, 2] rfl)
  · rw [if_neg hc] at h
    refine lv_aload_n C.1 C.2.1 dX12_find_15 rfl (lv_at hl 0 rfl) ?_
    refine gf_92 C G dX12_find_16 ?_
    refine lv_bipush (v := (100:Int32)) C.1 C.2.1 dX12_find_19 (by decide) ?_
    refine lv_aload_n C.1 C.2.1 dX12_find_21 rfl (lv_at hl 0 rfl) ?_
    refine gf_119 C G dX12_find_22 ?_
    refine lv_imul C.1 C.2.1 dX12_find_25 ?_
    refine lv_iload_n C.1 C.2.1 dX12_find_26 rfl (lv_at hl 2 rfl) ?_
    refine lv_iadd C.1 C.2.1 dX12_find_27 ?_
    obtain ⟨hi, h⟩ := ix_some h
    refine rf_iald C G 60 rfl (by decide) rfl rfl hi dX12_find_28 ?_
    refine lv_iload_n C.1 C.2.1 dX12_find_29 rfl (lv_at hl 1 rfl) ?_
    refine lv_icmp_ne (tgt := 37) C.1 C.2.1 dX12_find_30 (by decide) (fun hc => ?_) (fun hc => ?_)
    · rw [if_neg hc] at h
      refine vl_ex h (fun x2_1 ey h => ?_)
      refine lv_iinc (v := x2_1) (lv' := [(2, .int x2_1), (0, .ref h0), (1, .int x1)]) C.1 C.2.1 dX12_find_37 hl (k := 2) rfl (by rw [ey]; rfl) (by decide) rfl (fun ls hl => ?_)
      refine lv_goto (tgt := 2) C.1 C.2.1 dX12_find_40 (by decide) ?_
      cases h
      exact hP _ _ _ G (lv_sub hl [1, 2, 0] rfl)
    · rw [if_pos hc] at h
      refine lv_iload_n C.1 C.2.1 dX12_find_33 rfl (lv_at hl 2 rfl) ?_
      refine lv_iconst (v := (1:Int32)) C.1 C.2.1 dX12_find_34 (by decide) ?_
      refine lv_iadd C.1 C.2.1 dX12_find_35 ?_
      cases h
      have hP := congrArg some hP
      exact rf_iret C G hP dX12_find_36
noncomputable def bq_find_0 (x1 : Int32) (ρ : rf_S) : Option (Int32 × rf_S) := bq_find_2 x1 (0:Int32) ρ
set_option maxHeartbeats 4000000 in
theorem wq_find_0 (C : rf_C D p s m args meth c cX12_find 3 (some .int)) {r : Int32} {x1 : Int32} {ρ ρ' : rf_S} {H : Heap} {locs : List Loc} {ls : Array Slot} (h : bq_find_0 x1 ρ = some (r, ρ')) (G : rf_G D h0 s ρ H locs) (hl : lv_has ls 3 [(0, .ref h0), (1, .int x1)]) : W p l e ({ frames := 0, cells := 0, slots := 0, locals := 0 }) s m args below meth c H locs 0 0 (MQ below (rf_Q D h0 (some (.int r)) ρ') args s 0 0 (rf_A h0)) (F0 m 0 ls []) := by
  unfold bq_find_0 at h
  refine lv_iconst (v := (0:Int32)) C.1 C.2.1 dX12_find_0 (by decide) ?_
  refine lv_istore_n (lv' := [(2, .int (0:Int32)), (0, .ref h0), (1, .int x1)]) C.1 C.2.1 dX12_find_1 rfl hl (by decide) rfl (fun ls hl => ?_)
  exact wq_find_2 C h G (lv_sub hl [1, 2, 0] rfl)
noncomputable def fq_find (x1 : Int32) (ρ : rf_S) : Option (Int32 × rf_S) := bq_find_0 x1 ρ
theorem kq_find (l : Launch) (D : rf_D) (h0 : Nat) {r : Int32} {x1 : Int32} {ρ ρ' : rf_S} (h : fq_find x1 ρ = some (r, ρ')) : rf_Met l D h0 yX12_find cX12_find 3 (some .int) 0 0 [.ref h0, .int x1] ρ (some (.int r)) ρ' :=
  rf_of rfl cc_find (Nat.le_of_ble_eq_true rfl) (fun p e s m args below meth c ls C G hl => wq_find_0 C h G hl)
abbrev cX12_comes : ByteArray := prog_14_method_78_code
def yX12_comes : MethodName := ⟨RX12, "comes", "(I)I"⟩
theorem dX12_comes_0 : decode cX12_comes 0 = .ok (.aload_n 0, 1) := by decide +kernel
theorem dX12_comes_1 : decode cX12_comes 1 = .ok (.iload_n 1, 1) := by decide +kernel
theorem dX12_comes_2 : decode cX12_comes 2 = .ok (.invokevirtual 607, 3) := by decide +kernel
theorem dX12_comes_5 : decode cX12_comes 5 = .ok (.istore_n 2, 1) := by decide +kernel
theorem dX12_comes_6 : decode cX12_comes 6 = .ok (.iload_n 2, 1) := by decide +kernel
theorem dX12_comes_7 : decode cX12_comes 7 = .ok (.ifCond .le 5, 3) := by decide +kernel
theorem dX12_comes_10 : decode cX12_comes 10 = .ok (.iload_n 2, 1) := by decide +kernel
theorem dX12_comes_11 : decode cX12_comes 11 = .ok (.ireturn, 1) := by decide +kernel
theorem dX12_comes_12 : decode cX12_comes 12 = .ok (.aload_n 0, 1) := by decide +kernel
theorem dX12_comes_13 : decode cX12_comes 13 = .ok (.getfield 206, 3) := by decide +kernel
theorem dX12_comes_16 : decode cX12_comes 16 = .ok (.aload_n 0, 1) := by decide +kernel
theorem dX12_comes_17 : decode cX12_comes 17 = .ok (.getfield 563, 3) := by decide +kernel
theorem dX12_comes_20 : decode cX12_comes 20 = .ok (.iaload, 1) := by decide +kernel
theorem dX12_comes_21 : decode cX12_comes 21 = .ok (.bipush 100, 2) := by decide +kernel
theorem dX12_comes_23 : decode cX12_comes 23 = .ok (.if_icmp .ne 6, 3) := by decide +kernel
theorem dX12_comes_26 : decode cX12_comes 26 = .ok (.bipush (-4), 2) := by decide +kernel
theorem dX12_comes_28 : decode cX12_comes 28 = .ok (.ireturn, 1) := by decide +kernel
theorem dX12_comes_29 : decode cX12_comes 29 = .ok (.aload_n 0, 1) := by decide +kernel
theorem dX12_comes_30 : decode cX12_comes 30 = .ok (.getfield 203, 3) := by decide +kernel
theorem dX12_comes_33 : decode cX12_comes 33 = .ok (.bipush 100, 2) := by decide +kernel
theorem dX12_comes_35 : decode cX12_comes 35 = .ok (.aload_n 0, 1) := by decide +kernel
theorem dX12_comes_36 : decode cX12_comes 36 = .ok (.getfield 563, 3) := by decide +kernel
theorem dX12_comes_39 : decode cX12_comes 39 = .ok (.imul, 1) := by decide +kernel
theorem dX12_comes_40 : decode cX12_comes 40 = .ok (.aload_n 0, 1) := by decide +kernel
theorem dX12_comes_41 : decode cX12_comes 41 = .ok (.getfield 206, 3) := by decide +kernel
theorem dX12_comes_44 : decode cX12_comes 44 = .ok (.aload_n 0, 1) := by decide +kernel
theorem dX12_comes_45 : decode cX12_comes 45 = .ok (.getfield 563, 3) := by decide +kernel
theorem dX12_comes_48 : decode cX12_comes 48 = .ok (.iaload, 1) := by decide +kernel
theorem dX12_comes_49 : decode cX12_comes 49 = .ok (.iadd, 1) := by decide +kernel
theorem dX12_comes_50 : decode cX12_comes 50 = .ok (.iload_n 1, 1) := by decide +kernel
theorem dX12_comes_51 : decode cX12_comes 51 = .ok (.iastore, 1) := by decide +kernel
theorem dX12_comes_52 : decode cX12_comes 52 = .ok (.aload_n 0, 1) := by decide +kernel
theorem dX12_comes_53 : decode cX12_comes 53 = .ok (.getfield 206, 3) := by decide +kernel
theorem dX12_comes_56 : decode cX12_comes 56 = .ok (.aload_n 0, 1) := by decide +kernel
theorem dX12_comes_57 : decode cX12_comes 57 = .ok (.getfield 563, 3) := by decide +kernel
theorem dX12_comes_60 : decode cX12_comes 60 = .ok (.dup2, 1) := by decide +kernel
theorem dX12_comes_61 : decode cX12_comes 61 = .ok (.iaload, 1) := by decide +kernel
theorem dX12_comes_62 : decode cX12_comes 62 = .ok (.iconst 1, 1) := by decide +kernel
theorem dX12_comes_63 : decode cX12_comes 63 = .ok (.iadd, 1) := by decide +kernel
theorem dX12_comes_64 : decode cX12_comes 64 = .ok (.iastore, 1) := by decide +kernel
theorem dX12_comes_65 : decode cX12_comes 65 = .ok (.aload_n 0, 1) := by decide +kernel
theorem dX12_comes_66 : decode cX12_comes 66 = .ok (.getfield 206, 3) := by decide +kernel
theorem dX12_comes_69 : decode cX12_comes 69 = .ok (.aload_n 0, 1) := by decide +kernel
theorem dX12_comes_70 : decode cX12_comes 70 = .ok (.getfield 563, 3) := by decide +kernel
theorem dX12_comes_73 : decode cX12_comes 73 = .ok (.iaload, 1) := by decide +kernel
theorem dX12_comes_74 : decode cX12_comes 74 = .ok (.ireturn, 1) := by decide +kernel
theorem cc_comes : Cond.code yX12_comes cX12_comes 3 (some .int) ∈ rf_tb := rf_at 2191 (by decide +kernel) (by decide +kernel)
theorem cw_comes : rf_wV yX12_comes cX12_comes 3 (some .int) 610 1 := ⟨⟨rf_at 2188 (by decide +kernel) (by decide +kernel), rf_at 2190 (by decide +kernel) (by decide +kernel), rf_sel (q := (yX12_comes, 122)) 126 (by decide +kernel) (by decide +kernel), cc_comes⟩, rfl, by decide +kernel⟩
noncomputable def bq_comes_0 (x1 : Int32) (ρ : rf_S) : Option (Int32 × rf_S) := bd2 (fq_find x1 ρ) (fun r_2 ρ_1 => (if r_2 ≤ 0 then ix (ρ_1.1 0 119) 16 ((if (ρ_1.1 61 (ρ_1.1 0 119).toNatClampNeg) = (100:Int32) then some ((-4:Int32), ρ_1) else ix (ρ_1.1 0 119) 16 (ix (((100:Int32) * (ρ_1.1 0 119)) + (ρ_1.1 61 (ρ_1.1 0 119).toNatClampNeg)) 1600 (vl (rf_w ρ_1 60 (((100:Int32) * (ρ_1.1 0 119)) + (ρ_1.1 61 (ρ_1.1 0 119).toNatClampNeg)).toNatClampNeg x1) (fun ρ_3 => ix (ρ_3.1 0 119) 16 (ix (ρ_3.1 0 119) 16 (vl (rf_w ρ_3 61 (ρ_3.1 0 119).toNatClampNeg ((ρ_3.1 61 (ρ_3.1 0 119).toNatClampNeg) + (1:Int32))) (fun ρ_4 => ix (ρ_4.1 0 119) 16 (some ((ρ_4.1 61 (ρ_4.1 0 119).toNatClampNeg), ρ_4)))))))))) else some (r_2, ρ_1)))
set_option maxHeartbeats 4000000 in
theorem wq_comes_0 (C : rf_C D p s m args meth c cX12_comes 3 (some .int)) {r : Int32} {x1 : Int32} {ρ ρ' : rf_S} {H : Heap} {locs : List Loc} {ls : Array Slot} (h : bq_comes_0 x1 ρ = some (r, ρ')) (G : rf_G D h0 s ρ H locs) (hl : lv_has ls 3 [(0, .ref h0), (1, .int x1)]) : W p l e ({ frames := 1, cells := 0, slots := 0, locals := 22 }) s m args below meth c H locs 0 0 (MQ below (rf_Q D h0 (some (.int r)) ρ') args s 0 0 (rf_A h0)) (F0 m 0 ls []) := by
  unfold bq_comes_0 at h
  refine lv_aload_n C.1 C.2.1 dX12_comes_0 rfl (lv_at hl 0 rfl) ?_
  refine lv_iload_n C.1 C.2.1 dX12_comes_1 rfl (lv_at hl 1 rfl) ?_
  obtain ⟨r_2, ρ_1, hq, h⟩ := bd2_some h
  refine rf_callV (rest := []) C G cw_find [.int x1] _ (kq_find l D h0 hq) (Nat.le_of_ble_eq_true rfl) (Nat.le_of_ble_eq_true rfl) rfl rfl hl.1 (Nat.le_of_ble_eq_true rfl) (Nat.zero_le _) (Nat.zero_le _) dX12_comes_2 (fun H locs G => ?_)
  refine W.eq (g2 := F0 m 5 ls [.int r_2]) rfl ?_
  refine lv_istore_n (lv' := [(2, .int r_2), (0, .ref h0), (1, .int x1)]) C.1 C.2.1 dX12_comes_5 rfl hl (by decide) rfl (fun ls hl => ?_)
  refine lv_iload_n C.1 C.2.1 dX12_comes_6 rfl (lv_at hl 0 rfl) ?_
  refine lv_if_le (tgt := 12) C.1 C.2.1 dX12_comes_7 (by decide) (fun hc => ?_) (fun hc => ?_)
  · rw [if_pos hc] at h
    refine lv_aload_n C.1 C.2.1 dX12_comes_12 rfl (lv_at hl 1 rfl) ?_
    refine gf_93 C G dX12_comes_13 ?_
    refine lv_aload_n C.1 C.2.1 dX12_comes_16 rfl (lv_at hl 1 rfl) ?_
    refine gf_119 C G dX12_comes_17 ?_
    obtain ⟨hi, h⟩ := ix_some h
    refine rf_iald C G 61 rfl (by decide) rfl rfl hi dX12_comes_20 ?_
    refine lv_bipush (v := (100:Int32)) C.1 C.2.1 dX12_comes_21 (by decide) ?_
    refine lv_icmp_ne (tgt := 29) C.1 C.2.1 dX12_comes_23 (by decide) (fun hc => ?_) (fun hc => ?_)
    · rw [if_neg hc] at h
      refine lv_aload_n C.1 C.2.1 dX12_comes_29 rfl (lv_at hl 1 rfl) ?_
      refine gf_92 C G dX12_comes_30 ?_
      refine lv_bipush (v := (100:Int32)) C.1 C.2.1 dX12_comes_33 (by decide) ?_
      refine lv_aload_n C.1 C.2.1 dX12_comes_35 rfl (lv_at hl 1 rfl) ?_
      refine gf_119 C G dX12_comes_36 ?_
      refine lv_imul C.1 C.2.1 dX12_comes_39 ?_
      refine lv_aload_n C.1 C.2.1 dX12_comes_40 rfl (lv_at hl 1 rfl) ?_
      refine gf_93 C G dX12_comes_41 ?_
      refine lv_aload_n C.1 C.2.1 dX12_comes_44 rfl (lv_at hl 1 rfl) ?_
      refine gf_119 C G dX12_comes_45 ?_
      obtain ⟨hi, h⟩ := ix_some h
      refine rf_iald C G 61 rfl (by decide) rfl rfl hi dX12_comes_48 ?_
      refine lv_iadd C.1 C.2.1 dX12_comes_49 ?_
      refine lv_iload_n C.1 C.2.1 dX12_comes_50 rfl (lv_at hl 2 rfl) ?_
      obtain ⟨hi, h⟩ := ix_some h
      refine rf_iast C G 60 rfl (by decide) rfl rfl hi dX12_comes_51 (fun H locs G => ?_)
      refine rf_nm G h (fun ρ_3 G h => ?_)
      refine lv_aload_n C.1 C.2.1 dX12_comes_52 rfl (lv_at hl 1 rfl) ?_
      refine gf_93 C G dX12_comes_53 ?_
      refine lv_aload_n C.1 C.2.1 dX12_comes_56 rfl (lv_at hl 1 rfl) ?_
      refine gf_119 C G dX12_comes_57 ?_
      refine lv_dup2_11 C.1 C.2.1 dX12_comes_60 rfl rfl ?_
      obtain ⟨hi, h⟩ := ix_some h
      refine rf_iald C G 61 rfl (by decide) rfl rfl hi dX12_comes_61 ?_
      refine lv_iconst (v := (1:Int32)) C.1 C.2.1 dX12_comes_62 (by decide) ?_
      refine lv_iadd C.1 C.2.1 dX12_comes_63 ?_
      obtain ⟨hi, h⟩ := ix_some h
      refine rf_iast C G 61 rfl (by decide) rfl rfl hi dX12_comes_64 (fun H locs G => ?_)
      refine rf_nm G h (fun ρ_4 G h => ?_)
      refine lv_aload_n C.1 C.2.1 dX12_comes_65 rfl (lv_at hl 1 rfl) ?_
      refine gf_93 C G dX12_comes_66 ?_
      refine lv_aload_n C.1 C.2.1 dX12_comes_69 rfl (lv_at hl 1 rfl) ?_
      refine gf_119 C G dX12_comes_70 ?_
      obtain ⟨hi, h⟩ := ix_some h
      refine rf_iald C G 61 rfl (by decide) rfl rfl hi dX12_comes_73 ?_
      exact rf_iret C G h dX12_comes_74
    · rw [if_pos hc] at h
      refine lv_bipush (v := (-4:Int32)) C.1 C.2.1 dX12_comes_26 (by decide) ?_
      exact rf_iret C G h dX12_comes_28
  · rw [if_neg hc] at h
    refine lv_iload_n C.1 C.2.1 dX12_comes_10 rfl (lv_at hl 0 rfl) ?_
    exact rf_iret C G h dX12_comes_11
noncomputable def fq_comes (x1 : Int32) (ρ : rf_S) : Option (Int32 × rf_S) := bq_comes_0 x1 ρ
theorem kq_comes (l : Launch) (D : rf_D) (h0 : Nat) {r : Int32} {x1 : Int32} {ρ ρ' : rf_S} (h : fq_comes x1 ρ = some (r, ρ')) : rf_Met l D h0 yX12_comes cX12_comes 3 (some .int) 1 22 [.ref h0, .int x1] ρ (some (.int r)) ρ' :=
  rf_of rfl cc_comes (Nat.le_of_ble_eq_true rfl) (fun p e s m args below meth c ls C G hl => wq_comes_0 C h G hl)
abbrev cX12_nextTerm : ByteArray := prog_14_method_85_code
def yX12_nextTerm : MethodName := ⟨RX12, "nextTerm", "()I"⟩
theorem dX12_nextTerm_0 : decode cX12_nextTerm 0 = .ok (.aload_n 0, 1) := by decide +kernel
theorem dX12_nextTerm_1 : decode cX12_nextTerm 1 = .ok (.getfield 227, 3) := by decide +kernel
theorem dX12_nextTerm_4 : decode cX12_nextTerm 4 = .ok (.aload_n 0, 1) := by decide +kernel
theorem dX12_nextTerm_5 : decode cX12_nextTerm 5 = .ok (.getfield 563, 3) := by decide +kernel
theorem dX12_nextTerm_8 : decode cX12_nextTerm 8 = .ok (.iaload, 1) := by decide +kernel
theorem dX12_nextTerm_9 : decode cX12_nextTerm 9 = .ok (.ifCond .ne 5, 3) := by decide +kernel
theorem dX12_nextTerm_12 : decode cX12_nextTerm 12 = .ok (.iconst 0, 1) := by decide +kernel
theorem dX12_nextTerm_13 : decode cX12_nextTerm 13 = .ok (.ireturn, 1) := by decide +kernel
theorem dX12_nextTerm_14 : decode cX12_nextTerm 14 = .ok (.aload_n 0, 1) := by decide +kernel
theorem dX12_nextTerm_15 : decode cX12_nextTerm 15 = .ok (.aload_n 0, 1) := by decide +kernel
theorem dX12_nextTerm_16 : decode cX12_nextTerm 16 = .ok (.getfield 224, 3) := by decide +kernel
theorem dX12_nextTerm_19 : decode cX12_nextTerm 19 = .ok (.bipush 64, 2) := by decide +kernel
theorem dX12_nextTerm_21 : decode cX12_nextTerm 21 = .ok (.aload_n 0, 1) := by decide +kernel
theorem dX12_nextTerm_22 : decode cX12_nextTerm 22 = .ok (.getfield 563, 3) := by decide +kernel
theorem dX12_nextTerm_25 : decode cX12_nextTerm 25 = .ok (.imul, 1) := by decide +kernel
theorem dX12_nextTerm_26 : decode cX12_nextTerm 26 = .ok (.iaload, 1) := by decide +kernel
theorem dX12_nextTerm_27 : decode cX12_nextTerm 27 = .ok (.invokevirtual 610, 3) := by decide +kernel
theorem dX12_nextTerm_30 : decode cX12_nextTerm 30 = .ok (.istore_n 1, 1) := by decide +kernel
theorem dX12_nextTerm_31 : decode cX12_nextTerm 31 = .ok (.iload_n 1, 1) := by decide +kernel
theorem dX12_nextTerm_32 : decode cX12_nextTerm 32 = .ok (.ifCond .le 67, 3) := by decide +kernel
theorem dX12_nextTerm_35 : decode cX12_nextTerm 35 = .ok (.aload_n 0, 1) := by decide +kernel
theorem dX12_nextTerm_36 : decode cX12_nextTerm 36 = .ok (.getfield 227, 3) := by decide +kernel
theorem dX12_nextTerm_39 : decode cX12_nextTerm 39 = .ok (.aload_n 0, 1) := by decide +kernel
theorem dX12_nextTerm_40 : decode cX12_nextTerm 40 = .ok (.getfield 563, 3) := by decide +kernel
theorem dX12_nextTerm_43 : decode cX12_nextTerm 43 = .ok (.dup2, 1) := by decide +kernel
theorem dX12_nextTerm_44 : decode cX12_nextTerm 44 = .ok (.iaload, 1) := by decide +kernel
theorem dX12_nextTerm_45 : decode cX12_nextTerm 45 = .ok (.iconst 1, 1) := by decide +kernel
theorem dX12_nextTerm_46 : decode cX12_nextTerm 46 = .ok (.isub, 1) := by decide +kernel
theorem dX12_nextTerm_47 : decode cX12_nextTerm 47 = .ok (.iastore, 1) := by decide +kernel
theorem dX12_nextTerm_48 : decode cX12_nextTerm 48 = .ok (.iconst 0, 1) := by decide +kernel
theorem dX12_nextTerm_49 : decode cX12_nextTerm 49 = .ok (.istore_n 2, 1) := by decide +kernel
theorem dX12_nextTerm_50 : decode cX12_nextTerm 50 = .ok (.iload_n 2, 1) := by decide +kernel
theorem dX12_nextTerm_51 : decode cX12_nextTerm 51 = .ok (.aload_n 0, 1) := by decide +kernel
theorem dX12_nextTerm_52 : decode cX12_nextTerm 52 = .ok (.getfield 227, 3) := by decide +kernel
theorem dX12_nextTerm_55 : decode cX12_nextTerm 55 = .ok (.aload_n 0, 1) := by decide +kernel
theorem dX12_nextTerm_56 : decode cX12_nextTerm 56 = .ok (.getfield 563, 3) := by decide +kernel
theorem dX12_nextTerm_59 : decode cX12_nextTerm 59 = .ok (.iaload, 1) := by decide +kernel
theorem dX12_nextTerm_60 : decode cX12_nextTerm 60 = .ok (.if_icmp .ge 39, 3) := by decide +kernel
theorem dX12_nextTerm_63 : decode cX12_nextTerm 63 = .ok (.aload_n 0, 1) := by decide +kernel
theorem dX12_nextTerm_64 : decode cX12_nextTerm 64 = .ok (.getfield 224, 3) := by decide +kernel
theorem dX12_nextTerm_67 : decode cX12_nextTerm 67 = .ok (.bipush 64, 2) := by decide +kernel
theorem dX12_nextTerm_69 : decode cX12_nextTerm 69 = .ok (.aload_n 0, 1) := by decide +kernel
theorem dX12_nextTerm_70 : decode cX12_nextTerm 70 = .ok (.getfield 563, 3) := by decide +kernel
theorem dX12_nextTerm_73 : decode cX12_nextTerm 73 = .ok (.imul, 1) := by decide +kernel
theorem dX12_nextTerm_74 : decode cX12_nextTerm 74 = .ok (.iload_n 2, 1) := by decide +kernel
theorem dX12_nextTerm_75 : decode cX12_nextTerm 75 = .ok (.iadd, 1) := by decide +kernel
theorem dX12_nextTerm_76 : decode cX12_nextTerm 76 = .ok (.aload_n 0, 1) := by decide +kernel
theorem dX12_nextTerm_77 : decode cX12_nextTerm 77 = .ok (.getfield 224, 3) := by decide +kernel
theorem dX12_nextTerm_80 : decode cX12_nextTerm 80 = .ok (.bipush 64, 2) := by decide +kernel
theorem dX12_nextTerm_82 : decode cX12_nextTerm 82 = .ok (.aload_n 0, 1) := by decide +kernel
theorem dX12_nextTerm_83 : decode cX12_nextTerm 83 = .ok (.getfield 563, 3) := by decide +kernel
theorem dX12_nextTerm_86 : decode cX12_nextTerm 86 = .ok (.imul, 1) := by decide +kernel
theorem dX12_nextTerm_87 : decode cX12_nextTerm 87 = .ok (.iload_n 2, 1) := by decide +kernel
theorem dX12_nextTerm_88 : decode cX12_nextTerm 88 = .ok (.iadd, 1) := by decide +kernel
theorem dX12_nextTerm_89 : decode cX12_nextTerm 89 = .ok (.iconst 1, 1) := by decide +kernel
theorem dX12_nextTerm_90 : decode cX12_nextTerm 90 = .ok (.iadd, 1) := by decide +kernel
theorem dX12_nextTerm_91 : decode cX12_nextTerm 91 = .ok (.iaload, 1) := by decide +kernel
theorem dX12_nextTerm_92 : decode cX12_nextTerm 92 = .ok (.iastore, 1) := by decide +kernel
theorem dX12_nextTerm_93 : decode cX12_nextTerm 93 = .ok (.iinc 2 1, 3) := by decide +kernel
theorem dX12_nextTerm_96 : decode cX12_nextTerm 96 = .ok (.goto (-46), 3) := by decide +kernel
theorem dX12_nextTerm_99 : decode cX12_nextTerm 99 = .ok (.iload_n 1, 1) := by decide +kernel
theorem dX12_nextTerm_100 : decode cX12_nextTerm 100 = .ok (.ireturn, 1) := by decide +kernel
theorem cc_nextTerm : Cond.code yX12_nextTerm cX12_nextTerm 3 (some .int) ∈ rf_tb := rf_at 2199 (by decide +kernel) (by decide +kernel)
theorem cw_nextTerm : rf_wV yX12_nextTerm cX12_nextTerm 3 (some .int) 645 0 := ⟨⟨rf_at 2196 (by decide +kernel) (by decide +kernel), rf_at 2198 (by decide +kernel) (by decide +kernel), rf_sel (q := (yX12_nextTerm, 122)) 128 (by decide +kernel) (by decide +kernel), cc_nextTerm⟩, rfl, by decide +kernel⟩
noncomputable def lq_nextTerm_50 (x1 : Int32) (x2 : Int32) (ρ : rf_S) : Option ((Int32 × rf_S) ⊕ (Int32 × rf_S)) := ix (ρ.1 0 119) 16 ((if (ρ.1 68 (ρ.1 0 119).toNatClampNeg) ≤ x2 then some (.inr (x2, ρ)) else ix ((((64:Int32) * (ρ.1 0 119)) + x2) + (1:Int32)) 1024 (ix (((64:Int32) * (ρ.1 0 119)) + x2) 1024 (vl (rf_w ρ 67 (((64:Int32) * (ρ.1 0 119)) + x2).toNatClampNeg (ρ.1 67 ((((64:Int32) * (ρ.1 0 119)) + x2) + (1:Int32)).toNatClampNeg)) (fun ρ_4 => vl (x2 + (1:Int32)) (fun x2_5 => some (.inl (x2_5, ρ_4))))))))
noncomputable def eq_nextTerm_50 (x1 : Int32) (x2 : Int32) (ρ : rf_S) : Option (Int32 × rf_S) := some (x1, ρ)
noncomputable def bq_nextTerm_50 (x1 : Int32) (x2 : Int32) (ρ : rf_S) : Option (Int32 × rf_S) := (lp (fun z : (Int32 × rf_S) => lq_nextTerm_50 x1 z.1 z.2) (x2, ρ)).bind (fun z => eq_nextTerm_50 x1 z.1 z.2)
set_option maxHeartbeats 4000000 in
theorem wq_nextTerm_50 (C : rf_C D p s m args meth c cX12_nextTerm 3 (some .int)) {r : Int32} {x1 : Int32} {x2 : Int32} {ρ ρ' : rf_S} {H : Heap} {locs : List Loc} {ls : Array Slot} (h : bq_nextTerm_50 x1 x2 ρ = some (r, ρ')) (G : rf_G D h0 s ρ H locs) (hl : lv_has ls 3 [(0, .ref h0), (1, .int x1), (2, .int x2)]) : W p l e ({ frames := 2, cells := 0, slots := 0, locals := 44 }) s m args below meth c H locs 0 0 (MQ below (rf_Q D h0 (some (.int r)) ρ') args s 0 0 (rf_A h0)) (F0 m 50 ls []) := by
  unfold bq_nextTerm_50 at h
  obtain ⟨y, hy, h⟩ := bd_some h
  have hE : (fun z : (Int32 × rf_S) => ∀ (H : Heap) (locs : List Loc) (ls : Array Slot), rf_G D h0 s z.2 H locs → lv_has ls 3 [(0, .ref h0), (1, .int x1), (2, .int z.1)] → W p l e ({ frames := 2, cells := 0, slots := 0, locals := 44 }) s m args below meth c H locs 0 0 (MQ below (rf_Q D h0 (some (.int r)) ρ') args s 0 0 (rf_A h0)) (F0 m 99 ls [])) y := by
    intro H locs ls G hl
    obtain ⟨x2, ρ⟩ := y
    dsimp only at h G hl
    unfold eq_nextTerm_50 at h
    refine lv_iload_n C.1 C.2.1 dX12_nextTerm_99 rfl (lv_at hl 1 rfl) ?_
    exact rf_iret C G h dX12_nextTerm_100
  refine lp_recE (fun z : (Int32 × rf_S) => ∀ (H : Heap) (locs : List Loc) (ls : Array Slot), rf_G D h0 s z.2 H locs → lv_has ls 3 [(0, .ref h0), (1, .int x1), (2, .int z.1)] → W p l e ({ frames := 2, cells := 0, slots := 0, locals := 44 }) s m args below meth c H locs 0 0 (MQ below (rf_Q D h0 (some (.int r)) ρ') args s 0 0 (rf_A h0)) (F0 m 50 ls [])) (fun z : (Int32 × rf_S) => ∀ (H : Heap) (locs : List Loc) (ls : Array Slot), rf_G D h0 s z.2 H locs → lv_has ls 3 [(0, .ref h0), (1, .int x1), (2, .int z.1)] → W p l e ({ frames := 2, cells := 0, slots := 0, locals := 44 }) s m args below meth c H locs 0 0 (MQ below (rf_Q D h0 (some (.int r)) ρ') args s 0 0 (rf_A h0)) (F0 m 99 ls [])) ?_ _ _ hy hE _ _ _ G hl
  clear hE hy G hl h
  intro z o h hP H locs ls G hl
  obtain ⟨x2, ρ⟩ := z
  dsimp only at h G hl
  unfold lq_nextTerm_50 at h
  refine lv_iload_n C.1 C.2.1 dX12_nextTerm_50 rfl (lv_at hl 2 rfl) ?_
  refine lv_aload_n C.1 C.2.1 dX12_nextTerm_51 rfl (lv_at hl 0 rfl) ?_
  refine gf_100 C G dX12_nextTerm_52 ?_
  refine lv_aload_n C.1 C.2.1 dX12_nextTerm_55 rfl (lv_at hl 0 rfl) ?_
  refine gf_119 C G dX12_nextTerm_56 ?_
  obtain ⟨hi, h⟩ := ix_some h
  refine rf_iald C G 68 rfl (by decide) rfl rfl hi dX12_nextTerm_59 ?_
  refine lv_icmp_ge (tgt := 99) C.1 C.2.1 dX12_nextTerm_60 (by decide) (fun hc => ?_) (fun hc => ?_)
  · rw [if_pos hc] at h
    cases h
    exact hP _ _ _ G (lv_sub hl [0, 1, 2] rfl)
  · rw [if_neg hc] at h
    refine lv_aload_n C.1 C.2.1 dX12_nextTerm_63 rfl (lv_at hl 0 rfl) ?_
    refine gf_99 C G dX12_nextTerm_64 ?_
    refine lv_bipush (v := (64:Int32)) C.1 C.2.1 dX12_nextTerm_67 (by decide) ?_
    refine lv_aload_n C.1 C.2.1 dX12_nextTerm_69 rfl (lv_at hl 0 rfl) ?_
    refine gf_119 C G dX12_nextTerm_70 ?_
    refine lv_imul C.1 C.2.1 dX12_nextTerm_73 ?_
    refine lv_iload_n C.1 C.2.1 dX12_nextTerm_74 rfl (lv_at hl 2 rfl) ?_
    refine lv_iadd C.1 C.2.1 dX12_nextTerm_75 ?_
    refine lv_aload_n C.1 C.2.1 dX12_nextTerm_76 rfl (lv_at hl 0 rfl) ?_
    refine gf_99 C G dX12_nextTerm_77 ?_
    refine lv_bipush (v := (64:Int32)) C.1 C.2.1 dX12_nextTerm_80 (by decide) ?_
    refine lv_aload_n C.1 C.2.1 dX12_nextTerm_82 rfl (lv_at hl 0 rfl) ?_
    refine gf_119 C G dX12_nextTerm_83 ?_
    refine lv_imul C.1 C.2.1 dX12_nextTerm_86 ?_
    refine lv_iload_n C.1 C.2.1 dX12_nextTerm_87 rfl (lv_at hl 2 rfl) ?_
    refine lv_iadd C.1 C.2.1 dX12_nextTerm_88 ?_
    refine lv_iconst (v := (1:Int32)) C.1 C.2.1 dX12_nextTerm_89 (by decide) ?_
    refine lv_iadd C.1 C.2.1 dX12_nextTerm_90 ?_
    obtain ⟨hi, h⟩ := ix_some h
    refine rf_iald C G 67 rfl (by decide) rfl rfl hi dX12_nextTerm_91 ?_
    obtain ⟨hi, h⟩ := ix_some h
    refine rf_iast C G 67 rfl (by decide) rfl rfl hi dX12_nextTerm_92 (fun H locs G => ?_)
    refine rf_nm G h (fun ρ_4 G h => ?_)
    refine vl_ex h (fun x2_5 ey h => ?_)
    refine lv_iinc (v := x2_5) (lv' := [(2, .int x2_5), (0, .ref h0), (1, .int x1)]) C.1 C.2.1 dX12_nextTerm_93 hl (k := 2) rfl (by rw [ey]; rfl) (by decide) rfl (fun ls hl => ?_)
    refine lv_goto (tgt := 50) C.1 C.2.1 dX12_nextTerm_96 (by decide) ?_
    cases h
    exact hP _ _ _ G (lv_sub hl [1, 2, 0] rfl)
noncomputable def bq_nextTerm_0  (ρ : rf_S) : Option (Int32 × rf_S) := ix (ρ.1 0 119) 16 ((if (ρ.1 68 (ρ.1 0 119).toNatClampNeg) = 0 then some ((0:Int32), ρ) else ix ((64:Int32) * (ρ.1 0 119)) 1024 (bd2 (fq_comes (ρ.1 67 ((64:Int32) * (ρ.1 0 119)).toNatClampNeg) ρ) (fun r_2 ρ_1 => (if r_2 ≤ 0 then some (r_2, ρ_1) else ix (ρ_1.1 0 119) 16 (ix (ρ_1.1 0 119) 16 (vl (rf_w ρ_1 68 (ρ_1.1 0 119).toNatClampNeg ((ρ_1.1 68 (ρ_1.1 0 119).toNatClampNeg) - (1:Int32))) (fun ρ_3 => bq_nextTerm_50 r_2 (0:Int32) ρ_3))))))))
set_option maxHeartbeats 4000000 in
theorem wq_nextTerm_0 (C : rf_C D p s m args meth c cX12_nextTerm 3 (some .int)) {r : Int32} {ρ ρ' : rf_S} {H : Heap} {locs : List Loc} {ls : Array Slot} (h : bq_nextTerm_0 ρ = some (r, ρ')) (G : rf_G D h0 s ρ H locs) (hl : lv_has ls 3 [(0, .ref h0)]) : W p l e ({ frames := 2, cells := 0, slots := 0, locals := 44 }) s m args below meth c H locs 0 0 (MQ below (rf_Q D h0 (some (.int r)) ρ') args s 0 0 (rf_A h0)) (F0 m 0 ls []) := by
  unfold bq_nextTerm_0 at h
  refine lv_aload_n C.1 C.2.1 dX12_nextTerm_0 rfl (lv_at hl 0 rfl) ?_
  refine gf_100 C G dX12_nextTerm_1 ?_
  refine lv_aload_n C.1 C.2.1 dX12_nextTerm_4 rfl (lv_at hl 0 rfl) ?_
  refine gf_119 C G dX12_nextTerm_5 ?_
  obtain ⟨hi, h⟩ := ix_some h
  refine rf_iald C G 68 rfl (by decide) rfl rfl hi dX12_nextTerm_8 ?_
  refine lv_if_ne (tgt := 14) C.1 C.2.1 dX12_nextTerm_9 (by decide) (fun hc => ?_) (fun hc => ?_)
  · rw [if_neg hc] at h
    refine lv_aload_n C.1 C.2.1 dX12_nextTerm_14 rfl (lv_at hl 0 rfl) ?_
    refine lv_aload_n C.1 C.2.1 dX12_nextTerm_15 rfl (lv_at hl 0 rfl) ?_
    refine gf_99 C G dX12_nextTerm_16 ?_
    refine lv_bipush (v := (64:Int32)) C.1 C.2.1 dX12_nextTerm_19 (by decide) ?_
    refine lv_aload_n C.1 C.2.1 dX12_nextTerm_21 rfl (lv_at hl 0 rfl) ?_
    refine gf_119 C G dX12_nextTerm_22 ?_
    refine lv_imul C.1 C.2.1 dX12_nextTerm_25 ?_
    obtain ⟨hi, h⟩ := ix_some h
    refine rf_iald C G 67 rfl (by decide) rfl rfl hi dX12_nextTerm_26 ?_
    obtain ⟨r_2, ρ_1, hq, h⟩ := bd2_some h
    refine rf_callV (rest := []) C G cw_comes [.int (ρ.1 67 ((64:Int32) * (ρ.1 0 119)).toNatClampNeg)] _ (kq_comes l D h0 hq) (Nat.le_of_ble_eq_true rfl) (Nat.le_of_ble_eq_true rfl) rfl rfl hl.1 (Nat.le_of_ble_eq_true rfl) (Nat.zero_le _) (Nat.zero_le _) dX12_nextTerm_27 (fun H locs G => ?_)
    refine W.eq (g2 := F0 m 30 ls [.int r_2]) rfl ?_
    refine lv_istore_n (lv' := [(1, .int r_2), (0, .ref h0)]) C.1 C.2.1 dX12_nextTerm_30 rfl hl (by decide) rfl (fun ls hl => ?_)
    refine lv_iload_n C.1 C.2.1 dX12_nextTerm_31 rfl (lv_at hl 0 rfl) ?_
    refine lv_if_le (tgt := 99) C.1 C.2.1 dX12_nextTerm_32 (by decide) (fun hc => ?_) (fun hc => ?_)
    · rw [if_pos hc] at h
      refine lv_iload_n C.1 C.2.1 dX12_nextTerm_99 rfl (lv_at hl 0 rfl) ?_
      exact rf_iret C G h dX12_nextTerm_100
    · rw [if_neg hc] at h
      refine lv_aload_n C.1 C.2.1 dX12_nextTerm_35 rfl (lv_at hl 1 rfl) ?_
      refine gf_100 C G dX12_nextTerm_36 ?_
      refine lv_aload_n C.1 C.2.1 dX12_nextTerm_39 rfl (lv_at hl 1 rfl) ?_
      refine gf_119 C G dX12_nextTerm_40 ?_
      refine lv_dup2_11 C.1 C.2.1 dX12_nextTerm_43 rfl rfl ?_
      obtain ⟨hi, h⟩ := ix_some h
      refine rf_iald C G 68 rfl (by decide) rfl rfl hi dX12_nextTerm_44 ?_
      refine lv_iconst (v := (1:Int32)) C.1 C.2.1 dX12_nextTerm_45 (by decide) ?_
      refine lv_isub C.1 C.2.1 dX12_nextTerm_46 ?_
      obtain ⟨hi, h⟩ := ix_some h
      refine rf_iast C G 68 rfl (by decide) rfl rfl hi dX12_nextTerm_47 (fun H locs G => ?_)
      refine rf_nm G h (fun ρ_3 G h => ?_)
      refine lv_iconst (v := (0:Int32)) C.1 C.2.1 dX12_nextTerm_48 (by decide) ?_
      refine lv_istore_n (lv' := [(2, .int (0:Int32)), (1, .int r_2), (0, .ref h0)]) C.1 C.2.1 dX12_nextTerm_49 rfl hl (by decide) rfl (fun ls hl => ?_)
      exact wq_nextTerm_50 C h G (lv_sub hl [2, 1, 0] rfl)
  · rw [if_pos hc] at h
    refine lv_iconst (v := (0:Int32)) C.1 C.2.1 dX12_nextTerm_12 (by decide) ?_
    exact rf_iret C G h dX12_nextTerm_13
noncomputable def fq_nextTerm  (ρ : rf_S) : Option (Int32 × rf_S) := bq_nextTerm_0 ρ
theorem kq_nextTerm (l : Launch) (D : rf_D) (h0 : Nat) {r : Int32} {ρ ρ' : rf_S} (h : fq_nextTerm ρ = some (r, ρ')) : rf_Met l D h0 yX12_nextTerm cX12_nextTerm 3 (some .int) 2 44 [.ref h0] ρ (some (.int r)) ρ' :=
  rf_of rfl cc_nextTerm (Nat.le_of_ble_eq_true rfl) (fun p e s m args below meth c ls C G hl => wq_nextTerm_0 C h G hl)
abbrev cX12_askMachine : ByteArray := prog_14_method_83_code
def yX12_askMachine : MethodName := ⟨RX12, "askMachine", "(III)I"⟩
theorem dX12_askMachine_0 : decode cX12_askMachine 0 = .ok (.iload_n 1, 1) := by decide +kernel
theorem dX12_askMachine_1 : decode cX12_askMachine 1 = .ok (.tableswitch 291 0 11 #[63, 75, 117, 127, 137, 147, 152, 159, 166, 173, 216, 267], 63) := by decide +kernel
theorem dX12_askMachine_64 : decode cX12_askMachine 64 = .ok (.aload_n 0, 1) := by decide +kernel
theorem dX12_askMachine_65 : decode cX12_askMachine 65 = .ok (.getfield 176, 3) := by decide +kernel
theorem dX12_askMachine_68 : decode cX12_askMachine 68 = .ok (.aload_n 0, 1) := by decide +kernel
theorem dX12_askMachine_69 : decode cX12_askMachine 69 = .ok (.getfield 525, 3) := by decide +kernel
theorem dX12_askMachine_72 : decode cX12_askMachine 72 = .ok (.iconst 1, 1) := by decide +kernel
theorem dX12_askMachine_73 : decode cX12_askMachine 73 = .ok (.bastore, 1) := by decide +kernel
theorem dX12_askMachine_74 : decode cX12_askMachine 74 = .ok (.iconst 0, 1) := by decide +kernel
theorem dX12_askMachine_75 : decode cX12_askMachine 75 = .ok (.ireturn, 1) := by decide +kernel
theorem dX12_askMachine_76 : decode cX12_askMachine 76 = .ok (.iload_n 2, 1) := by decide +kernel
theorem dX12_askMachine_77 : decode cX12_askMachine 77 = .ok (.ifCond .lt 26, 3) := by decide +kernel
theorem dX12_askMachine_80 : decode cX12_askMachine 80 = .ok (.iload_n 2, 1) := by decide +kernel
theorem dX12_askMachine_81 : decode cX12_askMachine 81 = .ok (.iconst 4, 1) := by decide +kernel
theorem dX12_askMachine_82 : decode cX12_askMachine 82 = .ok (.aload_n 0, 1) := by decide +kernel
theorem dX12_askMachine_83 : decode cX12_askMachine 83 = .ok (.getfield 110, 3) := by decide +kernel
theorem dX12_askMachine_86 : decode cX12_askMachine 86 = .ok (.aload_n 0, 1) := by decide +kernel
theorem dX12_askMachine_87 : decode cX12_askMachine 87 = .ok (.getfield 567, 3) := by decide +kernel
theorem dX12_askMachine_90 : decode cX12_askMachine 90 = .ok (.iaload, 1) := by decide +kernel
theorem dX12_askMachine_91 : decode cX12_askMachine 91 = .ok (.imul, 1) := by decide +kernel
theorem dX12_askMachine_92 : decode cX12_askMachine 92 = .ok (.iconst 4, 1) := by decide +kernel
theorem dX12_askMachine_93 : decode cX12_askMachine 93 = .ok (.isub, 1) := by decide +kernel
theorem dX12_askMachine_94 : decode cX12_askMachine 94 = .ok (.if_icmp .gt 9, 3) := by decide +kernel
theorem dX12_askMachine_97 : decode cX12_askMachine 97 = .ok (.iload_n 2, 1) := by decide +kernel
theorem dX12_askMachine_98 : decode cX12_askMachine 98 = .ok (.iconst 4, 1) := by decide +kernel
theorem dX12_askMachine_99 : decode cX12_askMachine 99 = .ok (.irem, 1) := by decide +kernel
theorem dX12_askMachine_100 : decode cX12_askMachine 100 = .ok (.ifCond .eq 6, 3) := by decide +kernel
theorem dX12_askMachine_103 : decode cX12_askMachine 103 = .ok (.bipush (-2), 2) := by decide +kernel
theorem dX12_askMachine_105 : decode cX12_askMachine 105 = .ok (.ireturn, 1) := by decide +kernel
theorem dX12_askMachine_106 : decode cX12_askMachine 106 = .ok (.aload_n 0, 1) := by decide +kernel
theorem dX12_askMachine_107 : decode cX12_askMachine 107 = .ok (.getfield 197, 3) := by decide +kernel
theorem dX12_askMachine_110 : decode cX12_askMachine 110 = .ok (.aload_n 0, 1) := by decide +kernel
theorem dX12_askMachine_111 : decode cX12_askMachine 111 = .ok (.getfield 563, 3) := by decide +kernel
theorem dX12_askMachine_114 : decode cX12_askMachine 114 = .ok (.iload_n 2, 1) := by decide +kernel
theorem dX12_askMachine_115 : decode cX12_askMachine 115 = .ok (.iastore, 1) := by decide +kernel
theorem dX12_askMachine_116 : decode cX12_askMachine 116 = .ok (.iconst 0, 1) := by decide +kernel
theorem dX12_askMachine_117 : decode cX12_askMachine 117 = .ok (.ireturn, 1) := by decide +kernel
theorem dX12_askMachine_118 : decode cX12_askMachine 118 = .ok (.aload_n 0, 1) := by decide +kernel
theorem dX12_askMachine_119 : decode cX12_askMachine 119 = .ok (.getfield 191, 3) := by decide +kernel
theorem dX12_askMachine_122 : decode cX12_askMachine 122 = .ok (.aload_n 0, 1) := by decide +kernel
theorem dX12_askMachine_123 : decode cX12_askMachine 123 = .ok (.getfield 563, 3) := by decide +kernel
theorem dX12_askMachine_126 : decode cX12_askMachine 126 = .ok (.iaload, 1) := by decide +kernel
theorem dX12_askMachine_127 : decode cX12_askMachine 127 = .ok (.ireturn, 1) := by decide +kernel
theorem dX12_askMachine_128 : decode cX12_askMachine 128 = .ok (.aload_n 0, 1) := by decide +kernel
theorem dX12_askMachine_129 : decode cX12_askMachine 129 = .ok (.getfield 194, 3) := by decide +kernel
theorem dX12_askMachine_132 : decode cX12_askMachine 132 = .ok (.aload_n 0, 1) := by decide +kernel
theorem dX12_askMachine_133 : decode cX12_askMachine 133 = .ok (.getfield 563, 3) := by decide +kernel
theorem dX12_askMachine_136 : decode cX12_askMachine 136 = .ok (.iaload, 1) := by decide +kernel
theorem dX12_askMachine_137 : decode cX12_askMachine 137 = .ok (.ireturn, 1) := by decide +kernel
theorem dX12_askMachine_138 : decode cX12_askMachine 138 = .ok (.aload_n 0, 1) := by decide +kernel
theorem dX12_askMachine_139 : decode cX12_askMachine 139 = .ok (.getfield 167, 3) := by decide +kernel
theorem dX12_askMachine_142 : decode cX12_askMachine 142 = .ok (.aload_n 0, 1) := by decide +kernel
theorem dX12_askMachine_143 : decode cX12_askMachine 143 = .ok (.getfield 525, 3) := by decide +kernel
theorem dX12_askMachine_146 : decode cX12_askMachine 146 = .ok (.iaload, 1) := by decide +kernel
theorem dX12_askMachine_147 : decode cX12_askMachine 147 = .ok (.ireturn, 1) := by decide +kernel
theorem dX12_askMachine_148 : decode cX12_askMachine 148 = .ok (.aload_n 0, 1) := by decide +kernel
theorem dX12_askMachine_149 : decode cX12_askMachine 149 = .ok (.invokevirtual 622, 3) := by decide +kernel
theorem dX12_askMachine_152 : decode cX12_askMachine 152 = .ok (.ireturn, 1) := by decide +kernel
theorem dX12_askMachine_153 : decode cX12_askMachine 153 = .ok (.aload_n 0, 1) := by decide +kernel
theorem dX12_askMachine_154 : decode cX12_askMachine 154 = .ok (.iload_n 2, 1) := by decide +kernel
theorem dX12_askMachine_155 : decode cX12_askMachine 155 = .ok (.iconst 0, 1) := by decide +kernel
theorem dX12_askMachine_156 : decode cX12_askMachine 156 = .ok (.invokevirtual 625, 3) := by decide +kernel
theorem dX12_askMachine_159 : decode cX12_askMachine 159 = .ok (.ireturn, 1) := by decide +kernel
theorem dX12_askMachine_160 : decode cX12_askMachine 160 = .ok (.aload_n 0, 1) := by decide +kernel
theorem dX12_askMachine_161 : decode cX12_askMachine 161 = .ok (.iload_n 2, 1) := by decide +kernel
theorem dX12_askMachine_162 : decode cX12_askMachine 162 = .ok (.iload_n 3, 1) := by decide +kernel
theorem dX12_askMachine_163 : decode cX12_askMachine 163 = .ok (.invokevirtual 629, 3) := by decide +kernel
theorem dX12_askMachine_166 : decode cX12_askMachine 166 = .ok (.ireturn, 1) := by decide +kernel
theorem dX12_askMachine_167 : decode cX12_askMachine 167 = .ok (.aload_n 0, 1) := by decide +kernel
theorem dX12_askMachine_168 : decode cX12_askMachine 168 = .ok (.iload_n 2, 1) := by decide +kernel
theorem dX12_askMachine_169 : decode cX12_askMachine 169 = .ok (.iload_n 3, 1) := by decide +kernel
theorem dX12_askMachine_170 : decode cX12_askMachine 170 = .ok (.invokevirtual 632, 3) := by decide +kernel
theorem dX12_askMachine_173 : decode cX12_askMachine 173 = .ok (.ireturn, 1) := by decide +kernel
theorem dX12_askMachine_174 : decode cX12_askMachine 174 = .ok (.aload_n 0, 1) := by decide +kernel
theorem dX12_askMachine_175 : decode cX12_askMachine 175 = .ok (.iload_n 2, 1) := by decide +kernel
theorem dX12_askMachine_176 : decode cX12_askMachine 176 = .ok (.iconst 1, 1) := by decide +kernel
theorem dX12_askMachine_177 : decode cX12_askMachine 177 = .ok (.invokevirtual 635, 3) := by decide +kernel
theorem dX12_askMachine_180 : decode cX12_askMachine 180 = .ok (.ifCond .ne 5, 3) := by decide +kernel
theorem dX12_askMachine_183 : decode cX12_askMachine 183 = .ok (.iconst (-1), 1) := by decide +kernel
theorem dX12_askMachine_184 : decode cX12_askMachine 184 = .ok (.ireturn, 1) := by decide +kernel
theorem dX12_askMachine_185 : decode cX12_askMachine 185 = .ok (.aload_n 0, 1) := by decide +kernel
theorem dX12_askMachine_186 : decode cX12_askMachine 186 = .ok (.iload_n 3, 1) := by decide +kernel
theorem dX12_askMachine_187 : decode cX12_askMachine 187 = .ok (.invokevirtual 639, 3) := by decide +kernel
theorem dX12_askMachine_190 : decode cX12_askMachine 190 = .ok (.ifCond .ne 6, 3) := by decide +kernel
theorem dX12_askMachine_193 : decode cX12_askMachine 193 = .ok (.bipush (-2), 2) := by decide +kernel
theorem dX12_askMachine_195 : decode cX12_askMachine 195 = .ok (.ireturn, 1) := by decide +kernel
theorem dX12_askMachine_196 : decode cX12_askMachine 196 = .ok (.aload_n 0, 1) := by decide +kernel
theorem dX12_askMachine_197 : decode cX12_askMachine 197 = .ok (.getfield 242, 3) := by decide +kernel
theorem dX12_askMachine_200 : decode cX12_askMachine 200 = .ok (.bipush 16, 2) := by decide +kernel
theorem dX12_askMachine_202 : decode cX12_askMachine 202 = .ok (.aload_n 0, 1) := by decide +kernel
theorem dX12_askMachine_203 : decode cX12_askMachine 203 = .ok (.getfield 525, 3) := by decide +kernel
theorem dX12_askMachine_206 : decode cX12_askMachine 206 = .ok (.imul, 1) := by decide +kernel
theorem dX12_askMachine_207 : decode cX12_askMachine 207 = .ok (.iload_n 2, 1) := by decide +kernel
theorem dX12_askMachine_208 : decode cX12_askMachine 208 = .ok (.iadd, 1) := by decide +kernel
theorem dX12_askMachine_209 : decode cX12_askMachine 209 = .ok (.aload_n 0, 1) := by decide +kernel
theorem dX12_askMachine_210 : decode cX12_askMachine 210 = .ok (.iload_n 3, 1) := by decide +kernel
theorem dX12_askMachine_211 : decode cX12_askMachine 211 = .ok (.invokevirtual 642, 3) := by decide +kernel
theorem dX12_askMachine_214 : decode cX12_askMachine 214 = .ok (.iastore, 1) := by decide +kernel
theorem dX12_askMachine_215 : decode cX12_askMachine 215 = .ok (.iconst 0, 1) := by decide +kernel
theorem dX12_askMachine_216 : decode cX12_askMachine 216 = .ok (.ireturn, 1) := by decide +kernel
theorem dX12_askMachine_217 : decode cX12_askMachine 217 = .ok (.aload_n 0, 1) := by decide +kernel
theorem dX12_askMachine_218 : decode cX12_askMachine 218 = .ok (.iload_n 2, 1) := by decide +kernel
theorem dX12_askMachine_219 : decode cX12_askMachine 219 = .ok (.iconst 0, 1) := by decide +kernel
theorem dX12_askMachine_220 : decode cX12_askMachine 220 = .ok (.invokevirtual 635, 3) := by decide +kernel
theorem dX12_askMachine_223 : decode cX12_askMachine 223 = .ok (.ifCond .ne 5, 3) := by decide +kernel
theorem dX12_askMachine_226 : decode cX12_askMachine 226 = .ok (.iconst (-1), 1) := by decide +kernel
theorem dX12_askMachine_227 : decode cX12_askMachine 227 = .ok (.ireturn, 1) := by decide +kernel
theorem dX12_askMachine_228 : decode cX12_askMachine 228 = .ok (.aload_n 0, 1) := by decide +kernel
theorem dX12_askMachine_229 : decode cX12_askMachine 229 = .ok (.getfield 242, 3) := by decide +kernel
theorem dX12_askMachine_232 : decode cX12_askMachine 232 = .ok (.bipush 16, 2) := by decide +kernel
theorem dX12_askMachine_234 : decode cX12_askMachine 234 = .ok (.aload_n 0, 1) := by decide +kernel
theorem dX12_askMachine_235 : decode cX12_askMachine 235 = .ok (.getfield 525, 3) := by decide +kernel
theorem dX12_askMachine_238 : decode cX12_askMachine 238 = .ok (.imul, 1) := by decide +kernel
theorem dX12_askMachine_239 : decode cX12_askMachine 239 = .ok (.iload_n 2, 1) := by decide +kernel
theorem dX12_askMachine_240 : decode cX12_askMachine 240 = .ok (.iadd, 1) := by decide +kernel
theorem dX12_askMachine_241 : decode cX12_askMachine 241 = .ok (.iaload, 1) := by decide +kernel
theorem dX12_askMachine_242 : decode cX12_askMachine 242 = .ok (.ifCond .ge 7, 3) := by decide +kernel
theorem dX12_askMachine_245 : decode cX12_askMachine 245 = .ok (.iconst 0, 1) := by decide +kernel
theorem dX12_askMachine_246 : decode cX12_askMachine 246 = .ok (.goto 21, 3) := by decide +kernel
theorem dX12_askMachine_249 : decode cX12_askMachine 249 = .ok (.aload_n 0, 1) := by decide +kernel
theorem dX12_askMachine_250 : decode cX12_askMachine 250 = .ok (.aload_n 0, 1) := by decide +kernel
theorem dX12_askMachine_251 : decode cX12_askMachine 251 = .ok (.getfield 242, 3) := by decide +kernel
theorem dX12_askMachine_254 : decode cX12_askMachine 254 = .ok (.bipush 16, 2) := by decide +kernel
theorem dX12_askMachine_256 : decode cX12_askMachine 256 = .ok (.aload_n 0, 1) := by decide +kernel
theorem dX12_askMachine_257 : decode cX12_askMachine 257 = .ok (.getfield 525, 3) := by decide +kernel
theorem dX12_askMachine_260 : decode cX12_askMachine 260 = .ok (.imul, 1) := by decide +kernel
theorem dX12_askMachine_261 : decode cX12_askMachine 261 = .ok (.iload_n 2, 1) := by decide +kernel
theorem dX12_askMachine_262 : decode cX12_askMachine 262 = .ok (.iadd, 1) := by decide +kernel
theorem dX12_askMachine_263 : decode cX12_askMachine 263 = .ok (.iaload, 1) := by decide +kernel
theorem dX12_askMachine_264 : decode cX12_askMachine 264 = .ok (.invokevirtual 610, 3) := by decide +kernel
theorem dX12_askMachine_267 : decode cX12_askMachine 267 = .ok (.ireturn, 1) := by decide +kernel
theorem dX12_askMachine_268 : decode cX12_askMachine 268 = .ok (.aload_n 0, 1) := by decide +kernel
theorem dX12_askMachine_269 : decode cX12_askMachine 269 = .ok (.iload_n 2, 1) := by decide +kernel
theorem dX12_askMachine_270 : decode cX12_askMachine 270 = .ok (.invokevirtual 639, 3) := by decide +kernel
theorem dX12_askMachine_273 : decode cX12_askMachine 273 = .ok (.ifCond .eq 16, 3) := by decide +kernel
theorem dX12_askMachine_276 : decode cX12_askMachine 276 = .ok (.aload_n 0, 1) := by decide +kernel
theorem dX12_askMachine_277 : decode cX12_askMachine 277 = .ok (.aload_n 0, 1) := by decide +kernel
theorem dX12_askMachine_278 : decode cX12_askMachine 278 = .ok (.iload_n 2, 1) := by decide +kernel
theorem dX12_askMachine_279 : decode cX12_askMachine 279 = .ok (.invokevirtual 642, 3) := by decide +kernel
theorem dX12_askMachine_282 : decode cX12_askMachine 282 = .ok (.iconst 1, 1) := by decide +kernel
theorem dX12_askMachine_283 : decode cX12_askMachine 283 = .ok (.invokevirtual 625, 3) := by decide +kernel
theorem dX12_askMachine_286 : decode cX12_askMachine 286 = .ok (.goto 5, 3) := by decide +kernel
theorem dX12_askMachine_289 : decode cX12_askMachine 289 = .ok (.bipush (-2), 2) := by decide +kernel
theorem dX12_askMachine_291 : decode cX12_askMachine 291 = .ok (.ireturn, 1) := by decide +kernel
theorem dX12_askMachine_292 : decode cX12_askMachine 292 = .ok (.aload_n 0, 1) := by decide +kernel
theorem dX12_askMachine_293 : decode cX12_askMachine 293 = .ok (.invokevirtual 645, 3) := by decide +kernel
theorem dX12_askMachine_296 : decode cX12_askMachine 296 = .ok (.ireturn, 1) := by decide +kernel
theorem cc_askMachine : Cond.code yX12_askMachine cX12_askMachine 4 (some .int) ∈ rf_tb := rf_at 2151 (by decide +kernel) (by decide +kernel)
theorem cw_askMachine : rf_wV yX12_askMachine cX12_askMachine 4 (some .int) 613 3 := ⟨⟨rf_at 2148 (by decide +kernel) (by decide +kernel), rf_at 2150 (by decide +kernel) (by decide +kernel), rf_sel (q := (yX12_askMachine, 122)) 116 (by decide +kernel) (by decide +kernel), cc_askMachine⟩, rfl, by decide +kernel⟩
noncomputable def bq_askMachine_0 (x1 : Int32) (x2 : Int32) (x3 : Int32) (ρ : rf_S) : Option (Int32 × rf_S) := (if x1 = (0:Int32) then ix (ρ.1 0 79) 2 (vl (rf_w ρ 51 (ρ.1 0 79).toNatClampNeg (vp_nar .boolean (1:Int32))) (fun ρ_1 => some ((0:Int32), ρ_1))) else if x1 = (1:Int32) then (if x2 < 0 then some ((-2:Int32), ρ) else ix (ρ.1 0 118) 8 ((if (((4:Int32) * (ρ.1 29 (ρ.1 0 118).toNatClampNeg)) - (4:Int32)) < x2 then some ((-2:Int32), ρ) else (if (x2 - x2 / (4:Int32) * (4:Int32)) = 0 then ix (ρ.1 0 119) 16 (vl (rf_w ρ 58 (ρ.1 0 119).toNatClampNeg x2) (fun ρ_2 => some ((0:Int32), ρ_2))) else some ((-2:Int32), ρ))))) else if x1 = (2:Int32) then ix (ρ.1 0 119) 16 (some ((ρ.1 56 (ρ.1 0 119).toNatClampNeg), ρ)) else if x1 = (3:Int32) then ix (ρ.1 0 119) 16 (some ((ρ.1 57 (ρ.1 0 119).toNatClampNeg), ρ)) else if x1 = (4:Int32) then ix (ρ.1 0 79) 2 (some ((ρ.1 48 (ρ.1 0 79).toNatClampNeg), ρ)) else if x1 = (5:Int32) then bd2 (fq_nextWord ρ) (fun r_4 ρ_3 => some (r_4, ρ_3)) else if x1 = (6:Int32) then bd2 (fq_out x2 (0:Int32) ρ) (fun r_6 ρ_5 => some (r_6, ρ_5)) else if x1 = (7:Int32) then bd2 (fq_send x2 x3 ρ) (fun r_8 ρ_7 => some (r_8, ρ_7)) else if x1 = (8:Int32) then bd2 (fq_receive x2 x3 ρ) (fun r_10 ρ_9 => some (r_10, ρ_9)) else if x1 = (9:Int32) then bd2 (fq_isChannel x2 (1:Int32) ρ) (fun r_12 ρ_11 => (if r_12 = 0 then some ((-1:Int32), ρ_11) else bd2 (fq_isHandle x3 ρ_11) (fun r_14 ρ_13 => (if r_14 = 0 then some ((-2:Int32), ρ_13) else bd2 (fq_of x3 ρ_13) (fun r_16 ρ_15 => ix (((16:Int32) * (ρ_13.1 0 79)) + x2) 32 (vl (rf_w ρ_15 73 (((16:Int32) * (ρ_13.1 0 79)) + x2).toNatClampNeg r_16) (fun ρ_17 => some ((0:Int32), ρ_17)))))))) else if x1 = (10:Int32) then bd2 (fq_isChannel x2 (0:Int32) ρ) (fun r_19 ρ_18 => (if r_19 = 0 then some ((-1:Int32), ρ_18) else ix (((16:Int32) * (ρ_18.1 0 79)) + x2) 32 ((if 0 ≤ (ρ_18.1 73 (((16:Int32) * (ρ_18.1 0 79)) + x2).toNatClampNeg) then ix (((16:Int32) * (ρ_18.1 0 79)) + x2) 32 (bd2 (fq_comes (ρ_18.1 73 (((16:Int32) * (ρ_18.1 0 79)) + x2).toNatClampNeg) ρ_18) (fun r_21 ρ_20 => some (r_21, ρ_20))) else some ((0:Int32), ρ_18))))) else if x1 = (11:Int32) then bd2 (fq_isHandle x2 ρ) (fun r_23 ρ_22 => (if r_23 = 0 then some ((-2:Int32), ρ_22) else bd2 (fq_of x2 ρ_22) (fun r_25 ρ_24 => bd2 (fq_out r_25 (1:Int32) ρ_24) (fun r_27 ρ_26 => some (r_27, ρ_26))))) else bd2 (fq_nextTerm ρ) (fun r_29 ρ_28 => some (r_29, ρ_28)))
set_option maxHeartbeats 4000000 in
theorem wq_askMachine_0 (C : rf_C D p s m args meth c cX12_askMachine 4 (some .int)) {r : Int32} {x1 : Int32} {x2 : Int32} {x3 : Int32} {ρ ρ' : rf_S} {H : Heap} {locs : List Loc} {ls : Array Slot} (h : bq_askMachine_0 x1 x2 x3 ρ = some (r, ρ')) (G : rf_G D h0 s ρ H locs) (hl : lv_has ls 4 [(0, .ref h0), (1, .int x1), (2, .int x2), (3, .int x3)]) : W p l e ({ frames := 3, cells := 0, slots := 0, locals := 66 }) s m args below meth c H locs 0 0 (MQ below (rf_Q D h0 (some (.int r)) ρ') args s 0 0 (rf_A h0)) (F0 m 0 ls []) := by
  unfold bq_askMachine_0 at h
  refine lv_iload_n C.1 C.2.1 dX12_askMachine_0 rfl (lv_at hl 1 rfl) ?_
  by_cases hk0 : x1 = (0:Int32)
  · rw [if_pos hk0] at h
    refine lv_tableIn (tgt := 64) C.1 C.2.1 dX12_askMachine_1 (by rw [hk0]; decide) (by rw [hk0]; decide) (by rw [hk0]; rfl) (by decide) ?_
    refine lv_aload_n C.1 C.2.1 dX12_askMachine_64 rfl (lv_at hl 0 rfl) ?_
    refine gf_83 C G dX12_askMachine_65 ?_
    refine lv_aload_n C.1 C.2.1 dX12_askMachine_68 rfl (lv_at hl 0 rfl) ?_
    refine gf_79 C G dX12_askMachine_69 ?_
    refine lv_iconst (v := (1:Int32)) C.1 C.2.1 dX12_askMachine_72 (by decide) ?_
    obtain ⟨hi, h⟩ := ix_some h
    refine rf_zast C G 51 rfl (by decide) rfl rfl hi dX12_askMachine_73 (fun H locs G => ?_)
    refine rf_nm G h (fun ρ_1 G h => ?_)
    refine lv_iconst (v := (0:Int32)) C.1 C.2.1 dX12_askMachine_74 (by decide) ?_
    exact rf_iret C G h dX12_askMachine_75
  rw [if_neg hk0] at h
  by_cases hk1 : x1 = (1:Int32)
  · rw [if_pos hk1] at h
    refine lv_tableIn (tgt := 76) C.1 C.2.1 dX12_askMachine_1 (by rw [hk1]; decide) (by rw [hk1]; decide) (by rw [hk1]; rfl) (by decide) ?_
    refine lv_iload_n C.1 C.2.1 dX12_askMachine_76 rfl (lv_at hl 2 rfl) ?_
    refine lv_if_lt (tgt := 103) C.1 C.2.1 dX12_askMachine_77 (by decide) (fun hc => ?_) (fun hc => ?_)
    · rw [if_pos hc] at h
      refine lv_bipush (v := (-2:Int32)) C.1 C.2.1 dX12_askMachine_103 (by decide) ?_
      exact rf_iret C G h dX12_askMachine_105
    · rw [if_neg hc] at h
      refine lv_iload_n C.1 C.2.1 dX12_askMachine_80 rfl (lv_at hl 2 rfl) ?_
      refine lv_iconst (v := (4:Int32)) C.1 C.2.1 dX12_askMachine_81 (by decide) ?_
      refine lv_aload_n C.1 C.2.1 dX12_askMachine_82 rfl (lv_at hl 0 rfl) ?_
      refine gf_57 C G dX12_askMachine_83 ?_
      refine lv_aload_n C.1 C.2.1 dX12_askMachine_86 rfl (lv_at hl 0 rfl) ?_
      refine gf_118 C G dX12_askMachine_87 ?_
      obtain ⟨hi, h⟩ := ix_some h
      refine rf_iald C G 29 rfl (by decide) rfl rfl hi dX12_askMachine_90 ?_
      refine lv_imul C.1 C.2.1 dX12_askMachine_91 ?_
      refine lv_iconst (v := (4:Int32)) C.1 C.2.1 dX12_askMachine_92 (by decide) ?_
      refine lv_isub C.1 C.2.1 dX12_askMachine_93 ?_
      refine lv_icmp_gt (tgt := 103) C.1 C.2.1 dX12_askMachine_94 (by decide) (fun hc => ?_) (fun hc => ?_)
      · rw [if_pos hc] at h
        refine lv_bipush (v := (-2:Int32)) C.1 C.2.1 dX12_askMachine_103 (by decide) ?_
        exact rf_iret C G h dX12_askMachine_105
      · rw [if_neg hc] at h
        refine lv_iload_n C.1 C.2.1 dX12_askMachine_97 rfl (lv_at hl 2 rfl) ?_
        refine lv_iconst (v := (4:Int32)) C.1 C.2.1 dX12_askMachine_98 (by decide) ?_
        refine lv_irem C.1 C.2.1 dX12_askMachine_99 (by decide) ?_
        refine lv_if_eq (tgt := 106) C.1 C.2.1 dX12_askMachine_100 (by decide) (fun hc => ?_) (fun hc => ?_)
        · rw [if_pos hc] at h
          refine lv_aload_n C.1 C.2.1 dX12_askMachine_106 rfl (lv_at hl 0 rfl) ?_
          refine gf_90 C G dX12_askMachine_107 ?_
          refine lv_aload_n C.1 C.2.1 dX12_askMachine_110 rfl (lv_at hl 0 rfl) ?_
          refine gf_119 C G dX12_askMachine_111 ?_
          refine lv_iload_n C.1 C.2.1 dX12_askMachine_114 rfl (lv_at hl 2 rfl) ?_
          obtain ⟨hi, h⟩ := ix_some h
          refine rf_iast C G 58 rfl (by decide) rfl rfl hi dX12_askMachine_115 (fun H locs G => ?_)
          refine rf_nm G h (fun ρ_2 G h => ?_)
          refine lv_iconst (v := (0:Int32)) C.1 C.2.1 dX12_askMachine_116 (by decide) ?_
          exact rf_iret C G h dX12_askMachine_117
        · rw [if_neg hc] at h
          refine lv_bipush (v := (-2:Int32)) C.1 C.2.1 dX12_askMachine_103 (by decide) ?_
          exact rf_iret C G h dX12_askMachine_105
  rw [if_neg hk1] at h
  by_cases hk2 : x1 = (2:Int32)
  · rw [if_pos hk2] at h
    refine lv_tableIn (tgt := 118) C.1 C.2.1 dX12_askMachine_1 (by rw [hk2]; decide) (by rw [hk2]; decide) (by rw [hk2]; rfl) (by decide) ?_
    refine lv_aload_n C.1 C.2.1 dX12_askMachine_118 rfl (lv_at hl 0 rfl) ?_
    refine gf_88 C G dX12_askMachine_119 ?_
    refine lv_aload_n C.1 C.2.1 dX12_askMachine_122 rfl (lv_at hl 0 rfl) ?_
    refine gf_119 C G dX12_askMachine_123 ?_
    obtain ⟨hi, h⟩ := ix_some h
    refine rf_iald C G 56 rfl (by decide) rfl rfl hi dX12_askMachine_126 ?_
    exact rf_iret C G h dX12_askMachine_127
  rw [if_neg hk2] at h
  by_cases hk3 : x1 = (3:Int32)
  · rw [if_pos hk3] at h
    refine lv_tableIn (tgt := 128) C.1 C.2.1 dX12_askMachine_1 (by rw [hk3]; decide) (by rw [hk3]; decide) (by rw [hk3]; rfl) (by decide) ?_
    refine lv_aload_n C.1 C.2.1 dX12_askMachine_128 rfl (lv_at hl 0 rfl) ?_
    refine gf_89 C G dX12_askMachine_129 ?_
    refine lv_aload_n C.1 C.2.1 dX12_askMachine_132 rfl (lv_at hl 0 rfl) ?_
    refine gf_119 C G dX12_askMachine_133 ?_
    obtain ⟨hi, h⟩ := ix_some h
    refine rf_iald C G 57 rfl (by decide) rfl rfl hi dX12_askMachine_136 ?_
    exact rf_iret C G h dX12_askMachine_137
  rw [if_neg hk3] at h
  by_cases hk4 : x1 = (4:Int32)
  · rw [if_pos hk4] at h
    refine lv_tableIn (tgt := 138) C.1 C.2.1 dX12_askMachine_1 (by rw [hk4]; decide) (by rw [hk4]; decide) (by rw [hk4]; rfl) (by decide) ?_
    refine lv_aload_n C.1 C.2.1 dX12_askMachine_138 rfl (lv_at hl 0 rfl) ?_
    refine gf_80 C G dX12_askMachine_139 ?_
    refine lv_aload_n C.1 C.2.1 dX12_askMachine_142 rfl (lv_at hl 0 rfl) ?_
    refine gf_79 C G dX12_askMachine_143 ?_
    obtain ⟨hi, h⟩ := ix_some h
    refine rf_iald C G 48 rfl (by decide) rfl rfl hi dX12_askMachine_146 ?_
    exact rf_iret C G h dX12_askMachine_147
  rw [if_neg hk4] at h
  by_cases hk5 : x1 = (5:Int32)
  · rw [if_pos hk5] at h
    refine lv_tableIn (tgt := 148) C.1 C.2.1 dX12_askMachine_1 (by rw [hk5]; decide) (by rw [hk5]; decide) (by rw [hk5]; rfl) (by decide) ?_
    refine lv_aload_n C.1 C.2.1 dX12_askMachine_148 rfl (lv_at hl 0 rfl) ?_
    obtain ⟨r_4, ρ_3, hq, h⟩ := bd2_some h
    refine rf_callV (rest := []) C G cw_nextWord [] _ (kq_nextWord l D h0 hq) (Nat.le_of_ble_eq_true rfl) (Nat.le_of_ble_eq_true rfl) rfl rfl hl.1 (Nat.le_of_ble_eq_true rfl) (Nat.zero_le _) (Nat.zero_le _) dX12_askMachine_149 (fun H locs G => ?_)
    refine W.eq (g2 := F0 m 152 ls [.int r_4]) rfl ?_
    exact rf_iret C G h dX12_askMachine_152
  rw [if_neg hk5] at h
  by_cases hk6 : x1 = (6:Int32)
  · rw [if_pos hk6] at h
    refine lv_tableIn (tgt := 153) C.1 C.2.1 dX12_askMachine_1 (by rw [hk6]; decide) (by rw [hk6]; decide) (by rw [hk6]; rfl) (by decide) ?_
    refine lv_aload_n C.1 C.2.1 dX12_askMachine_153 rfl (lv_at hl 0 rfl) ?_
    refine lv_iload_n C.1 C.2.1 dX12_askMachine_154 rfl (lv_at hl 2 rfl) ?_
    refine lv_iconst (v := (0:Int32)) C.1 C.2.1 dX12_askMachine_155 (by decide) ?_
    obtain ⟨r_6, ρ_5, hq, h⟩ := bd2_some h
    refine rf_callV (rest := []) C G cw_out [.int x2, .int (0:Int32)] _ (kq_out l D h0 hq) (Nat.le_of_ble_eq_true rfl) (Nat.le_of_ble_eq_true rfl) rfl rfl hl.1 (Nat.le_of_ble_eq_true rfl) (Nat.zero_le _) (Nat.zero_le _) dX12_askMachine_156 (fun H locs G => ?_)
    refine W.eq (g2 := F0 m 159 ls [.int r_6]) rfl ?_
    exact rf_iret C G h dX12_askMachine_159
  rw [if_neg hk6] at h
  by_cases hk7 : x1 = (7:Int32)
  · rw [if_pos hk7] at h
    refine lv_tableIn (tgt := 160) C.1 C.2.1 dX12_askMachine_1 (by rw [hk7]; decide) (by rw [hk7]; decide) (by rw [hk7]; rfl) (by decide) ?_
    refine lv_aload_n C.1 C.2.1 dX12_askMachine_160 rfl (lv_at hl 0 rfl) ?_
    refine lv_iload_n C.1 C.2.1 dX12_askMachine_161 rfl (lv_at hl 2 rfl) ?_
    refine lv_iload_n C.1 C.2.1 dX12_askMachine_162 rfl (lv_at hl 3 rfl) ?_
    obtain ⟨r_8, ρ_7, hq, h⟩ := bd2_some h
    refine rf_callV (rest := []) C G cw_send [.int x2, .int x3] _ (kq_send l D h0 hq) (Nat.le_of_ble_eq_true rfl) (Nat.le_of_ble_eq_true rfl) rfl rfl hl.1 (Nat.le_of_ble_eq_true rfl) (Nat.zero_le _) (Nat.zero_le _) dX12_askMachine_163 (fun H locs G => ?_)
    refine W.eq (g2 := F0 m 166 ls [.int r_8]) rfl ?_
    exact rf_iret C G h dX12_askMachine_166
  rw [if_neg hk7] at h
  by_cases hk8 : x1 = (8:Int32)
  · rw [if_pos hk8] at h
    refine lv_tableIn (tgt := 167) C.1 C.2.1 dX12_askMachine_1 (by rw [hk8]; decide) (by rw [hk8]; decide) (by rw [hk8]; rfl) (by decide) ?_
    refine lv_aload_n C.1 C.2.1 dX12_askMachine_167 rfl (lv_at hl 0 rfl) ?_
    refine lv_iload_n C.1 C.2.1 dX12_askMachine_168 rfl (lv_at hl 2 rfl) ?_
    refine lv_iload_n C.1 C.2.1 dX12_askMachine_169 rfl (lv_at hl 3 rfl) ?_
    obtain ⟨r_10, ρ_9, hq, h⟩ := bd2_some h
    refine rf_callV (rest := []) C G cw_receive [.int x2, .int x3] _ (kq_receive l D h0 hq) (Nat.le_of_ble_eq_true rfl) (Nat.le_of_ble_eq_true rfl) rfl rfl hl.1 (Nat.le_of_ble_eq_true rfl) (Nat.zero_le _) (Nat.zero_le _) dX12_askMachine_170 (fun H locs G => ?_)
    refine W.eq (g2 := F0 m 173 ls [.int r_10]) rfl ?_
    exact rf_iret C G h dX12_askMachine_173
  rw [if_neg hk8] at h
  by_cases hk9 : x1 = (9:Int32)
  · rw [if_pos hk9] at h
    refine lv_tableIn (tgt := 174) C.1 C.2.1 dX12_askMachine_1 (by rw [hk9]; decide) (by rw [hk9]; decide) (by rw [hk9]; rfl) (by decide) ?_
    refine lv_aload_n C.1 C.2.1 dX12_askMachine_174 rfl (lv_at hl 0 rfl) ?_
    refine lv_iload_n C.1 C.2.1 dX12_askMachine_175 rfl (lv_at hl 2 rfl) ?_
    refine lv_iconst (v := (1:Int32)) C.1 C.2.1 dX12_askMachine_176 (by decide) ?_
    obtain ⟨r_12, ρ_11, hq, h⟩ := bd2_some h
    refine rf_callV (rest := []) C G cw_isChannel [.int x2, .int (1:Int32)] _ (kq_isChannel l D h0 hq) (Nat.le_of_ble_eq_true rfl) (Nat.le_of_ble_eq_true rfl) rfl rfl hl.1 (Nat.le_of_ble_eq_true rfl) (Nat.zero_le _) (Nat.zero_le _) dX12_askMachine_177 (fun H locs G => ?_)
    refine W.eq (g2 := F0 m 180 ls [.int r_12]) rfl ?_
    refine lv_if_ne (tgt := 185) C.1 C.2.1 dX12_askMachine_180 (by decide) (fun hc => ?_) (fun hc => ?_)
    · rw [if_neg hc] at h
      refine lv_aload_n C.1 C.2.1 dX12_askMachine_185 rfl (lv_at hl 0 rfl) ?_
      refine lv_iload_n C.1 C.2.1 dX12_askMachine_186 rfl (lv_at hl 3 rfl) ?_
      obtain ⟨r_14, ρ_13, hq, h⟩ := bd2_some h
      refine rf_callV (rest := []) C G cw_isHandle [.int x3] _ (kq_isHandle l D h0 hq) (Nat.le_of_ble_eq_true rfl) (Nat.le_of_ble_eq_true rfl) rfl rfl hl.1 (Nat.le_of_ble_eq_true rfl) (Nat.zero_le _) (Nat.zero_le _) dX12_askMachine_187 (fun H locs G => ?_)
      refine W.eq (g2 := F0 m 190 ls [.int r_14]) rfl ?_
      refine lv_if_ne (tgt := 196) C.1 C.2.1 dX12_askMachine_190 (by decide) (fun hc => ?_) (fun hc => ?_)
      · rw [if_neg hc] at h
        refine lv_aload_n C.1 C.2.1 dX12_askMachine_196 rfl (lv_at hl 0 rfl) ?_
        refine gf_105 C G dX12_askMachine_197 ?_
        refine lv_bipush (v := (16:Int32)) C.1 C.2.1 dX12_askMachine_200 (by decide) ?_
        refine lv_aload_n C.1 C.2.1 dX12_askMachine_202 rfl (lv_at hl 0 rfl) ?_
        refine gf_79 C G dX12_askMachine_203 ?_
        refine lv_imul C.1 C.2.1 dX12_askMachine_206 ?_
        refine lv_iload_n C.1 C.2.1 dX12_askMachine_207 rfl (lv_at hl 2 rfl) ?_
        refine lv_iadd C.1 C.2.1 dX12_askMachine_208 ?_
        refine lv_aload_n C.1 C.2.1 dX12_askMachine_209 rfl (lv_at hl 0 rfl) ?_
        refine lv_iload_n C.1 C.2.1 dX12_askMachine_210 rfl (lv_at hl 3 rfl) ?_
        obtain ⟨r_16, ρ_15, hq, h⟩ := bd2_some h
        refine rf_callV (rest := [.int (((16:Int32) * (ρ_13.1 0 79)) + x2), .ref (h0 + 73)]) C G cw_of [.int x3] _ (kq_of l D h0 hq) (Nat.le_of_ble_eq_true rfl) (Nat.le_of_ble_eq_true rfl) rfl rfl hl.1 (Nat.le_of_ble_eq_true rfl) (Nat.zero_le _) (Nat.zero_le _) dX12_askMachine_211 (fun H locs G => ?_)
        refine W.eq (g2 := F0 m 214 ls [.int r_16, .int (((16:Int32) * (ρ_13.1 0 79)) + x2), .ref (h0 + 73)]) rfl ?_
        obtain ⟨hi, h⟩ := ix_some h
        refine rf_iast C G 73 rfl (by decide) rfl rfl hi dX12_askMachine_214 (fun H locs G => ?_)
        refine rf_nm G h (fun ρ_17 G h => ?_)
        refine lv_iconst (v := (0:Int32)) C.1 C.2.1 dX12_askMachine_215 (by decide) ?_
        exact rf_iret C G h dX12_askMachine_216
      · rw [if_pos hc] at h
        refine lv_bipush (v := (-2:Int32)) C.1 C.2.1 dX12_askMachine_193 (by decide) ?_
        exact rf_iret C G h dX12_askMachine_195
    · rw [if_pos hc] at h
      refine lv_iconst (v := (-1:Int32)) C.1 C.2.1 dX12_askMachine_183 (by decide) ?_
      exact rf_iret C G h dX12_askMachine_184
  rw [if_neg hk9] at h
  by_cases hk10 : x1 = (10:Int32)
  · rw [if_pos hk10] at h
    refine lv_tableIn (tgt := 217) C.1 C.2.1 dX12_askMachine_1 (by rw [hk10]; decide) (by rw [hk10]; decide) (by rw [hk10]; rfl) (by decide) ?_
    refine lv_aload_n C.1 C.2.1 dX12_askMachine_217 rfl (lv_at hl 0 rfl) ?_
    refine lv_iload_n C.1 C.2.1 dX12_askMachine_218 rfl (lv_at hl 2 rfl) ?_
    refine lv_iconst (v := (0:Int32)) C.1 C.2.1 dX12_askMachine_219 (by decide) ?_
    obtain ⟨r_19, ρ_18, hq, h⟩ := bd2_some h
    refine rf_callV (rest := []) C G cw_isChannel [.int x2, .int (0:Int32)] _ (kq_isChannel l D h0 hq) (Nat.le_of_ble_eq_true rfl) (Nat.le_of_ble_eq_true rfl) rfl rfl hl.1 (Nat.le_of_ble_eq_true rfl) (Nat.zero_le _) (Nat.zero_le _) dX12_askMachine_220 (fun H locs G => ?_)
    refine W.eq (g2 := F0 m 223 ls [.int r_19]) rfl ?_
    refine lv_if_ne (tgt := 228) C.1 C.2.1 dX12_askMachine_223 (by decide) (fun hc => ?_) (fun hc => ?_)
    · rw [if_neg hc] at h
      refine lv_aload_n C.1 C.2.1 dX12_askMachine_228 rfl (lv_at hl 0 rfl) ?_
      refine gf_105 C G dX12_askMachine_229 ?_
      refine lv_bipush (v := (16:Int32)) C.1 C.2.1 dX12_askMachine_232 (by decide) ?_
      refine lv_aload_n C.1 C.2.1 dX12_askMachine_234 rfl (lv_at hl 0 rfl) ?_
      refine gf_79 C G dX12_askMachine_235 ?_
      refine lv_imul C.1 C.2.1 dX12_askMachine_238 ?_
      refine lv_iload_n C.1 C.2.1 dX12_askMachine_239 rfl (lv_at hl 2 rfl) ?_
      refine lv_iadd C.1 C.2.1 dX12_askMachine_240 ?_
      obtain ⟨hi, h⟩ := ix_some h
      refine rf_iald C G 73 rfl (by decide) rfl rfl hi dX12_askMachine_241 ?_
      refine lv_if_ge (tgt := 249) C.1 C.2.1 dX12_askMachine_242 (by decide) (fun hc => ?_) (fun hc => ?_)
      · rw [if_pos hc] at h
        refine lv_aload_n C.1 C.2.1 dX12_askMachine_249 rfl (lv_at hl 0 rfl) ?_
        refine lv_aload_n C.1 C.2.1 dX12_askMachine_250 rfl (lv_at hl 0 rfl) ?_
        refine gf_105 C G dX12_askMachine_251 ?_
        refine lv_bipush (v := (16:Int32)) C.1 C.2.1 dX12_askMachine_254 (by decide) ?_
        refine lv_aload_n C.1 C.2.1 dX12_askMachine_256 rfl (lv_at hl 0 rfl) ?_
        refine gf_79 C G dX12_askMachine_257 ?_
        refine lv_imul C.1 C.2.1 dX12_askMachine_260 ?_
        refine lv_iload_n C.1 C.2.1 dX12_askMachine_261 rfl (lv_at hl 2 rfl) ?_
        refine lv_iadd C.1 C.2.1 dX12_askMachine_262 ?_
        obtain ⟨hi, h⟩ := ix_some h
        refine rf_iald C G 73 rfl (by decide) rfl rfl hi dX12_askMachine_263 ?_
        obtain ⟨r_21, ρ_20, hq, h⟩ := bd2_some h
        refine rf_callV (rest := []) C G cw_comes [.int (ρ_18.1 73 (((16:Int32) * (ρ_18.1 0 79)) + x2).toNatClampNeg)] _ (kq_comes l D h0 hq) (Nat.le_of_ble_eq_true rfl) (Nat.le_of_ble_eq_true rfl) rfl rfl hl.1 (Nat.le_of_ble_eq_true rfl) (Nat.zero_le _) (Nat.zero_le _) dX12_askMachine_264 (fun H locs G => ?_)
        refine W.eq (g2 := F0 m 267 ls [.int r_21]) rfl ?_
        exact rf_iret C G h dX12_askMachine_267
      · rw [if_neg hc] at h
        refine lv_iconst (v := (0:Int32)) C.1 C.2.1 dX12_askMachine_245 (by decide) ?_
        refine lv_goto (tgt := 267) C.1 C.2.1 dX12_askMachine_246 (by decide) ?_
        exact rf_iret C G h dX12_askMachine_267
    · rw [if_pos hc] at h
      refine lv_iconst (v := (-1:Int32)) C.1 C.2.1 dX12_askMachine_226 (by decide) ?_
      exact rf_iret C G h dX12_askMachine_227
  rw [if_neg hk10] at h
  by_cases hk11 : x1 = (11:Int32)
  · rw [if_pos hk11] at h
    refine lv_tableIn (tgt := 268) C.1 C.2.1 dX12_askMachine_1 (by rw [hk11]; decide) (by rw [hk11]; decide) (by rw [hk11]; rfl) (by decide) ?_
    refine lv_aload_n C.1 C.2.1 dX12_askMachine_268 rfl (lv_at hl 0 rfl) ?_
    refine lv_iload_n C.1 C.2.1 dX12_askMachine_269 rfl (lv_at hl 2 rfl) ?_
    obtain ⟨r_23, ρ_22, hq, h⟩ := bd2_some h
    refine rf_callV (rest := []) C G cw_isHandle [.int x2] _ (kq_isHandle l D h0 hq) (Nat.le_of_ble_eq_true rfl) (Nat.le_of_ble_eq_true rfl) rfl rfl hl.1 (Nat.le_of_ble_eq_true rfl) (Nat.zero_le _) (Nat.zero_le _) dX12_askMachine_270 (fun H locs G => ?_)
    refine W.eq (g2 := F0 m 273 ls [.int r_23]) rfl ?_
    refine lv_if_eq (tgt := 289) C.1 C.2.1 dX12_askMachine_273 (by decide) (fun hc => ?_) (fun hc => ?_)
    · rw [if_pos hc] at h
      refine lv_bipush (v := (-2:Int32)) C.1 C.2.1 dX12_askMachine_289 (by decide) ?_
      exact rf_iret C G h dX12_askMachine_291
    · rw [if_neg hc] at h
      refine lv_aload_n C.1 C.2.1 dX12_askMachine_276 rfl (lv_at hl 0 rfl) ?_
      refine lv_aload_n C.1 C.2.1 dX12_askMachine_277 rfl (lv_at hl 0 rfl) ?_
      refine lv_iload_n C.1 C.2.1 dX12_askMachine_278 rfl (lv_at hl 2 rfl) ?_
      obtain ⟨r_25, ρ_24, hq, h⟩ := bd2_some h
      refine rf_callV (rest := [.ref h0]) C G cw_of [.int x2] _ (kq_of l D h0 hq) (Nat.le_of_ble_eq_true rfl) (Nat.le_of_ble_eq_true rfl) rfl rfl hl.1 (Nat.le_of_ble_eq_true rfl) (Nat.zero_le _) (Nat.zero_le _) dX12_askMachine_279 (fun H locs G => ?_)
      refine W.eq (g2 := F0 m 282 ls [.int r_25, .ref h0]) rfl ?_
      refine lv_iconst (v := (1:Int32)) C.1 C.2.1 dX12_askMachine_282 (by decide) ?_
      obtain ⟨r_27, ρ_26, hq, h⟩ := bd2_some h
      refine rf_callV (rest := []) C G cw_out [.int r_25, .int (1:Int32)] _ (kq_out l D h0 hq) (Nat.le_of_ble_eq_true rfl) (Nat.le_of_ble_eq_true rfl) rfl rfl hl.1 (Nat.le_of_ble_eq_true rfl) (Nat.zero_le _) (Nat.zero_le _) dX12_askMachine_283 (fun H locs G => ?_)
      refine W.eq (g2 := F0 m 286 ls [.int r_27]) rfl ?_
      refine lv_goto (tgt := 291) C.1 C.2.1 dX12_askMachine_286 (by decide) ?_
      exact rf_iret C G h dX12_askMachine_291
  rw [if_neg hk11] at h
  refine lv_tableOut (tgt := 292) C.1 C.2.1 dX12_askMachine_1 ?_ (by decide) ?_
  · rcases Int.lt_or_le x1.toInt 0 with q | q
    · exact Or.inl q
    · rcases Int.lt_or_le 11 x1.toInt with q2 | q2
      · exact Or.inr q2
      · exfalso
        have hd : x1.toInt = (0 : Int) ∨ x1.toInt = (1 : Int) ∨ x1.toInt = (2 : Int) ∨ x1.toInt = (3 : Int) ∨ x1.toInt = (4 : Int) ∨ x1.toInt = (5 : Int) ∨ x1.toInt = (6 : Int) ∨ x1.toInt = (7 : Int) ∨ x1.toInt = (8 : Int) ∨ x1.toInt = (9 : Int) ∨ x1.toInt = (10 : Int) ∨ x1.toInt = (11 : Int) := by omega
        rcases hd with e | e | e | e | e | e | e | e | e | e | e | e
        · exact hk0 (Int32.toInt_inj.mp (e.trans (by decide)))
        · exact hk1 (Int32.toInt_inj.mp (e.trans (by decide)))
        · exact hk2 (Int32.toInt_inj.mp (e.trans (by decide)))
        · exact hk3 (Int32.toInt_inj.mp (e.trans (by decide)))
        · exact hk4 (Int32.toInt_inj.mp (e.trans (by decide)))
        · exact hk5 (Int32.toInt_inj.mp (e.trans (by decide)))
        · exact hk6 (Int32.toInt_inj.mp (e.trans (by decide)))
        · exact hk7 (Int32.toInt_inj.mp (e.trans (by decide)))
        · exact hk8 (Int32.toInt_inj.mp (e.trans (by decide)))
        · exact hk9 (Int32.toInt_inj.mp (e.trans (by decide)))
        · exact hk10 (Int32.toInt_inj.mp (e.trans (by decide)))
        · exact hk11 (Int32.toInt_inj.mp (e.trans (by decide)))
  · refine lv_aload_n C.1 C.2.1 dX12_askMachine_292 rfl (lv_at hl 0 rfl) ?_
    obtain ⟨r_29, ρ_28, hq, h⟩ := bd2_some h
    refine rf_callV (rest := []) C G cw_nextTerm [] _ (kq_nextTerm l D h0 hq) (Nat.le_of_ble_eq_true rfl) (Nat.le_of_ble_eq_true rfl) rfl rfl hl.1 (Nat.le_of_ble_eq_true rfl) (Nat.zero_le _) (Nat.zero_le _) dX12_askMachine_293 (fun H locs G => ?_)
    refine W.eq (g2 := F0 m 296 ls [.int r_29]) rfl ?_
    exact rf_iret C G h dX12_askMachine_296
noncomputable def fq_askMachine (x1 : Int32) (x2 : Int32) (x3 : Int32) (ρ : rf_S) : Option (Int32 × rf_S) := bq_askMachine_0 x1 x2 x3 ρ
theorem kq_askMachine (l : Launch) (D : rf_D) (h0 : Nat) {r : Int32} {x1 : Int32} {x2 : Int32} {x3 : Int32} {ρ ρ' : rf_S} (h : fq_askMachine x1 x2 x3 ρ = some (r, ρ')) : rf_Met l D h0 yX12_askMachine cX12_askMachine 4 (some .int) 3 66 [.ref h0, .int x1, .int x2, .int x3] ρ (some (.int r)) ρ' :=
  rf_of rfl cc_askMachine (Nat.le_of_ble_eq_true rfl) (fun p e s m args below meth c ls C G hl => wq_askMachine_0 C h G hl)
end RQ10
