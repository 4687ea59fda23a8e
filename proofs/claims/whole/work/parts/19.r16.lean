section RQ15
variable {p : Program} {l : Launch} {e : Env} {s : State} {m : MethodId} {args : Array Value} {below : List Frame} {meth : Method} {c : Code} {D : rf_D} {h0 : Nat}
abbrev cX12_channel : ByteArray := prog_14_method_106_code
def yX12_channel : MethodName := ⟨RX12, "channel", "(II)I"⟩
theorem dX12_channel_0 : decode cX12_channel 0 = .ok (.iload_n 1, 1) := by decide +kernel
theorem dX12_channel_1 : decode cX12_channel 1 = .ok (.ifCond .lt 11, 3) := by decide +kernel
theorem dX12_channel_4 : decode cX12_channel 4 = .ok (.iload_n 1, 1) := by decide +kernel
theorem dX12_channel_5 : decode cX12_channel 5 = .ok (.aload_n 0, 1) := by decide +kernel
theorem dX12_channel_6 : decode cX12_channel 6 = .ok (.getfield 516, 3) := by decide +kernel
theorem dX12_channel_9 : decode cX12_channel 9 = .ok (.if_icmp .lt 5, 3) := by decide +kernel
theorem dX12_channel_12 : decode cX12_channel 12 = .ok (.iconst (-1), 1) := by decide +kernel
theorem dX12_channel_13 : decode cX12_channel 13 = .ok (.ireturn, 1) := by decide +kernel
theorem dX12_channel_14 : decode cX12_channel 14 = .ok (.iload_n 2, 1) := by decide +kernel
theorem dX12_channel_15 : decode cX12_channel 15 = .ok (.ifCond .lt 9, 3) := by decide +kernel
theorem dX12_channel_18 : decode cX12_channel 18 = .ok (.iload_n 2, 1) := by decide +kernel
theorem dX12_channel_19 : decode cX12_channel 19 = .ok (.bipush 20, 2) := by decide +kernel
theorem dX12_channel_21 : decode cX12_channel 21 = .ok (.if_icmp .le 6, 3) := by decide +kernel
theorem dX12_channel_24 : decode cX12_channel 24 = .ok (.bipush (-2), 2) := by decide +kernel
theorem dX12_channel_26 : decode cX12_channel 26 = .ok (.ireturn, 1) := by decide +kernel
theorem dX12_channel_27 : decode cX12_channel 27 = .ok (.iload_n 2, 1) := by decide +kernel
theorem dX12_channel_28 : decode cX12_channel 28 = .ok (.tableswitch 87 0 4 #[36, 43, 50, 57, 72], 36) := by decide +kernel
theorem dX12_channel_64 : decode cX12_channel 64 = .ok (.aload_n 0, 1) := by decide +kernel
theorem dX12_channel_65 : decode cX12_channel 65 = .ok (.getfield 119, 3) := by decide +kernel
theorem dX12_channel_68 : decode cX12_channel 68 = .ok (.iload_n 1, 1) := by decide +kernel
theorem dX12_channel_69 : decode cX12_channel 69 = .ok (.iaload, 1) := by decide +kernel
theorem dX12_channel_70 : decode cX12_channel 70 = .ok (.ireturn, 1) := by decide +kernel
theorem dX12_channel_71 : decode cX12_channel 71 = .ok (.aload_n 0, 1) := by decide +kernel
theorem dX12_channel_72 : decode cX12_channel 72 = .ok (.getfield 122, 3) := by decide +kernel
theorem dX12_channel_75 : decode cX12_channel 75 = .ok (.iload_n 1, 1) := by decide +kernel
theorem dX12_channel_76 : decode cX12_channel 76 = .ok (.iaload, 1) := by decide +kernel
theorem dX12_channel_77 : decode cX12_channel 77 = .ok (.ireturn, 1) := by decide +kernel
theorem dX12_channel_78 : decode cX12_channel 78 = .ok (.aload_n 0, 1) := by decide +kernel
theorem dX12_channel_79 : decode cX12_channel 79 = .ok (.getfield 125, 3) := by decide +kernel
theorem dX12_channel_82 : decode cX12_channel 82 = .ok (.iload_n 1, 1) := by decide +kernel
theorem dX12_channel_83 : decode cX12_channel 83 = .ok (.iaload, 1) := by decide +kernel
theorem dX12_channel_84 : decode cX12_channel 84 = .ok (.ireturn, 1) := by decide +kernel
theorem dX12_channel_85 : decode cX12_channel 85 = .ok (.aload_n 0, 1) := by decide +kernel
theorem dX12_channel_86 : decode cX12_channel 86 = .ok (.getfield 239, 3) := by decide +kernel
theorem dX12_channel_89 : decode cX12_channel 89 = .ok (.iload_n 1, 1) := by decide +kernel
theorem dX12_channel_90 : decode cX12_channel 90 = .ok (.baload, 1) := by decide +kernel
theorem dX12_channel_91 : decode cX12_channel 91 = .ok (.ifCond .eq 7, 3) := by decide +kernel
theorem dX12_channel_94 : decode cX12_channel 94 = .ok (.iconst 1, 1) := by decide +kernel
theorem dX12_channel_95 : decode cX12_channel 95 = .ok (.goto 4, 3) := by decide +kernel
theorem dX12_channel_98 : decode cX12_channel 98 = .ok (.iconst 0, 1) := by decide +kernel
theorem dX12_channel_99 : decode cX12_channel 99 = .ok (.ireturn, 1) := by decide +kernel
theorem dX12_channel_100 : decode cX12_channel 100 = .ok (.aload_n 0, 1) := by decide +kernel
theorem dX12_channel_101 : decode cX12_channel 101 = .ok (.getfield 242, 3) := by decide +kernel
theorem dX12_channel_104 : decode cX12_channel 104 = .ok (.iload_n 1, 1) := by decide +kernel
theorem dX12_channel_105 : decode cX12_channel 105 = .ok (.iaload, 1) := by decide +kernel
theorem dX12_channel_106 : decode cX12_channel 106 = .ok (.ifCond .lt 7, 3) := by decide +kernel
theorem dX12_channel_109 : decode cX12_channel 109 = .ok (.iconst 1, 1) := by decide +kernel
theorem dX12_channel_110 : decode cX12_channel 110 = .ok (.goto 4, 3) := by decide +kernel
theorem dX12_channel_113 : decode cX12_channel 113 = .ok (.iconst 0, 1) := by decide +kernel
theorem dX12_channel_114 : decode cX12_channel 114 = .ok (.ireturn, 1) := by decide +kernel
theorem dX12_channel_115 : decode cX12_channel 115 = .ok (.aload_n 0, 1) := by decide +kernel
theorem dX12_channel_116 : decode cX12_channel 116 = .ok (.getfield 236, 3) := by decide +kernel
theorem dX12_channel_119 : decode cX12_channel 119 = .ok (.bipush 16, 2) := by decide +kernel
theorem dX12_channel_121 : decode cX12_channel 121 = .ok (.iload_n 1, 1) := by decide +kernel
theorem dX12_channel_122 : decode cX12_channel 122 = .ok (.imul, 1) := by decide +kernel
theorem dX12_channel_123 : decode cX12_channel 123 = .ok (.iload_n 2, 1) := by decide +kernel
theorem dX12_channel_124 : decode cX12_channel 124 = .ok (.iadd, 1) := by decide +kernel
theorem dX12_channel_125 : decode cX12_channel 125 = .ok (.iconst 5, 1) := by decide +kernel
theorem dX12_channel_126 : decode cX12_channel 126 = .ok (.isub, 1) := by decide +kernel
theorem dX12_channel_127 : decode cX12_channel 127 = .ok (.iaload, 1) := by decide +kernel
theorem dX12_channel_128 : decode cX12_channel 128 = .ok (.ireturn, 1) := by decide +kernel
theorem cc_channel : Cond.code yX12_channel cX12_channel 3 (some .int) ∈ rf_tb := rf_at 2275 (by decide +kernel) (by decide +kernel)
noncomputable def bq_channel_0 (x1 : Int32) (x2 : Int32) (ρ : rf_S) : Option (Int32 × rf_S) := (if x1 < 0 then some ((-1:Int32), ρ) else (if x1 < (ρ.1 0 60) then (if x2 < 0 then some ((-2:Int32), ρ) else (if x2 ≤ (20:Int32) then (if x2 = (0:Int32) then ix x1 16 (some ((ρ.1 32 x1.toNatClampNeg), ρ)) else if x2 = (1:Int32) then ix x1 16 (some ((ρ.1 33 x1.toNatClampNeg), ρ)) else if x2 = (2:Int32) then ix x1 16 (some ((ρ.1 34 x1.toNatClampNeg), ρ)) else if x2 = (3:Int32) then ix x1 32 ((if (ρ.1 72 x1.toNatClampNeg) = 0 then some ((0:Int32), ρ) else some ((1:Int32), ρ))) else if x2 = (4:Int32) then ix x1 32 ((if (ρ.1 73 x1.toNatClampNeg) < 0 then some ((0:Int32), ρ) else some ((1:Int32), ρ))) else ix ((((16:Int32) * x1) + x2) - (5:Int32)) 512 (some ((ρ.1 71 ((((16:Int32) * x1) + x2) - (5:Int32)).toNatClampNeg), ρ))) else some ((-2:Int32), ρ))) else some ((-1:Int32), ρ)))
set_option maxHeartbeats 4000000 in
theorem wq_channel_0 (C : rf_C D p s m args meth c cX12_channel 3 (some .int)) {r : Int32} {x1 : Int32} {x2 : Int32} {ρ ρ' : rf_S} {H : Heap} {locs : List Loc} {ls : Array Slot} (h : bq_channel_0 x1 x2 ρ = some (r, ρ')) (G : rf_G D h0 s ρ H locs) (hl : lv_has ls 3 [(0, .ref h0), (1, .int x1), (2, .int x2)]) : W p l e ({ frames := 0, cells := 0, slots := 0, locals := 0 }) s m args below meth c H locs 0 0 (MQ below (rf_Q D h0 (some (.int r)) ρ') args s 0 0 (rf_A h0)) (F0 m 0 ls []) := by
  unfold bq_channel_0 at h
  refine lv_iload_n C.1 C.2.1 dX12_channel_0 rfl (lv_at hl 1 rfl) ?_
  refine lv_if_lt (tgt := 12) C.1 C.2.1 dX12_channel_1 (by decide) (fun hc => ?_) (fun hc => ?_)
  · rw [if_pos hc] at h
    refine lv_iconst (v := (-1:Int32)) C.1 C.2.1 dX12_channel_12 (by decide) ?_
    exact rf_iret C G h dX12_channel_13
  · rw [if_neg hc] at h
    refine lv_iload_n C.1 C.2.1 dX12_channel_4 rfl (lv_at hl 1 rfl) ?_
    refine lv_aload_n C.1 C.2.1 dX12_channel_5 rfl (lv_at hl 0 rfl) ?_
    refine gf_60 C G dX12_channel_6 ?_
    refine lv_icmp_lt (tgt := 14) C.1 C.2.1 dX12_channel_9 (by decide) (fun hc => ?_) (fun hc => ?_)
    · rw [if_pos hc] at h
      refine lv_iload_n C.1 C.2.1 dX12_channel_14 rfl (lv_at hl 2 rfl) ?_
      refine lv_if_lt (tgt := 24) C.1 C.2.1 dX12_channel_15 (by decide) (fun hc => ?_) (fun hc => ?_)
      · rw [if_pos hc] at h
        refine lv_bipush (v := (-2:Int32)) C.1 C.2.1 dX12_channel_24 (by decide) ?_
        exact rf_iret C G h dX12_channel_26
      · rw [if_neg hc] at h
        refine lv_iload_n C.1 C.2.1 dX12_channel_18 rfl (lv_at hl 2 rfl) ?_
        refine lv_bipush (v := (20:Int32)) C.1 C.2.1 dX12_channel_19 (by decide) ?_
        refine lv_icmp_le (tgt := 27) C.1 C.2.1 dX12_channel_21 (by decide) (fun hc => ?_) (fun hc => ?_)
        · rw [if_pos hc] at h
          refine lv_iload_n C.1 C.2.1 dX12_channel_27 rfl (lv_at hl 2 rfl) ?_
          by_cases hk0 : x2 = (0:Int32)
          · rw [if_pos hk0] at h
            refine lv_tableIn (tgt := 64) C.1 C.2.1 dX12_channel_28 (by rw [hk0]; decide) (by rw [hk0]; decide) (by rw [hk0]; rfl) (by decide) ?_
            refine lv_aload_n C.1 C.2.1 dX12_channel_64 rfl (lv_at hl 0 rfl) ?_
            refine gf_61 C G dX12_channel_65 ?_
            refine lv_iload_n C.1 C.2.1 dX12_channel_68 rfl (lv_at hl 1 rfl) ?_
            obtain ⟨hi, h⟩ := ix_some h
            refine rf_iald C G 32 rfl (by decide) rfl rfl hi dX12_channel_69 ?_
            exact rf_iret C G h dX12_channel_70
          rw [if_neg hk0] at h
          by_cases hk1 : x2 = (1:Int32)
          · rw [if_pos hk1] at h
            refine lv_tableIn (tgt := 71) C.1 C.2.1 dX12_channel_28 (by rw [hk1]; decide) (by rw [hk1]; decide) (by rw [hk1]; rfl) (by decide) ?_
            refine lv_aload_n C.1 C.2.1 dX12_channel_71 rfl (lv_at hl 0 rfl) ?_
            refine gf_62 C G dX12_channel_72 ?_
            refine lv_iload_n C.1 C.2.1 dX12_channel_75 rfl (lv_at hl 1 rfl) ?_
            obtain ⟨hi, h⟩ := ix_some h
            refine rf_iald C G 33 rfl (by decide) rfl rfl hi dX12_channel_76 ?_
            exact rf_iret C G h dX12_channel_77
          rw [if_neg hk1] at h
          by_cases hk2 : x2 = (2:Int32)
          · rw [if_pos hk2] at h
            refine lv_tableIn (tgt := 78) C.1 C.2.1 dX12_channel_28 (by rw [hk2]; decide) (by rw [hk2]; decide) (by rw [hk2]; rfl) (by decide) ?_
            refine lv_aload_n C.1 C.2.1 dX12_channel_78 rfl (lv_at hl 0 rfl) ?_
            refine gf_63 C G dX12_channel_79 ?_
            refine lv_iload_n C.1 C.2.1 dX12_channel_82 rfl (lv_at hl 1 rfl) ?_
            obtain ⟨hi, h⟩ := ix_some h
            refine rf_iald C G 34 rfl (by decide) rfl rfl hi dX12_channel_83 ?_
            exact rf_iret C G h dX12_channel_84
          rw [if_neg hk2] at h
          by_cases hk3 : x2 = (3:Int32)
          · rw [if_pos hk3] at h
            refine lv_tableIn (tgt := 85) C.1 C.2.1 dX12_channel_28 (by rw [hk3]; decide) (by rw [hk3]; decide) (by rw [hk3]; rfl) (by decide) ?_
            refine lv_aload_n C.1 C.2.1 dX12_channel_85 rfl (lv_at hl 0 rfl) ?_
            refine gf_104 C G dX12_channel_86 ?_
            refine lv_iload_n C.1 C.2.1 dX12_channel_89 rfl (lv_at hl 1 rfl) ?_
            obtain ⟨hi, h⟩ := ix_some h
            refine rf_zald C G 72 rfl (by decide) rfl rfl hi dX12_channel_90 ?_
            refine lv_if_eq (tgt := 98) C.1 C.2.1 dX12_channel_91 (by decide) (fun hc => ?_) (fun hc => ?_)
            · rw [if_pos hc] at h
              refine lv_iconst (v := (0:Int32)) C.1 C.2.1 dX12_channel_98 (by decide) ?_
              exact rf_iret C G h dX12_channel_99
            · rw [if_neg hc] at h
              refine lv_iconst (v := (1:Int32)) C.1 C.2.1 dX12_channel_94 (by decide) ?_
              refine lv_goto (tgt := 99) C.1 C.2.1 dX12_channel_95 (by decide) ?_
              exact rf_iret C G h dX12_channel_99
          rw [if_neg hk3] at h
          by_cases hk4 : x2 = (4:Int32)
          · rw [if_pos hk4] at h
            refine lv_tableIn (tgt := 100) C.1 C.2.1 dX12_channel_28 (by rw [hk4]; decide) (by rw [hk4]; decide) (by rw [hk4]; rfl) (by decide) ?_
            refine lv_aload_n C.1 C.2.1 dX12_channel_100 rfl (lv_at hl 0 rfl) ?_
            refine gf_105 C G dX12_channel_101 ?_
            refine lv_iload_n C.1 C.2.1 dX12_channel_104 rfl (lv_at hl 1 rfl) ?_
            obtain ⟨hi, h⟩ := ix_some h
            refine rf_iald C G 73 rfl (by decide) rfl rfl hi dX12_channel_105 ?_
            refine lv_if_lt (tgt := 113) C.1 C.2.1 dX12_channel_106 (by decide) (fun hc => ?_) (fun hc => ?_)
            · rw [if_pos hc] at h
              refine lv_iconst (v := (0:Int32)) C.1 C.2.1 dX12_channel_113 (by decide) ?_
              exact rf_iret C G h dX12_channel_114
            · rw [if_neg hc] at h
              refine lv_iconst (v := (1:Int32)) C.1 C.2.1 dX12_channel_109 (by decide) ?_
              refine lv_goto (tgt := 114) C.1 C.2.1 dX12_channel_110 (by decide) ?_
              exact rf_iret C G h dX12_channel_114
          rw [if_neg hk4] at h
          refine lv_tableOut (tgt := 115) C.1 C.2.1 dX12_channel_28 ?_ (by decide) ?_
          · rcases Int.lt_or_le x2.toInt 0 with q | q
            · exact Or.inl q
            · rcases Int.lt_or_le 4 x2.toInt with q2 | q2
              · exact Or.inr q2
              · exfalso
                have hd : x2.toInt = (0 : Int) ∨ x2.toInt = (1 : Int) ∨ x2.toInt = (2 : Int) ∨ x2.toInt = (3 : Int) ∨ x2.toInt = (4 : Int) := by omega
                rcases hd with e | e | e | e | e
                · exact hk0 (Int32.toInt_inj.mp (e.trans (by decide)))
                · exact hk1 (Int32.toInt_inj.mp (e.trans (by decide)))
                · exact hk2 (Int32.toInt_inj.mp (e.trans (by decide)))
                · exact hk3 (Int32.toInt_inj.mp (e.trans (by decide)))
                · exact hk4 (Int32.toInt_inj.mp (e.trans (by decide)))
          · refine lv_aload_n C.1 C.2.1 dX12_channel_115 rfl (lv_at hl 0 rfl) ?_
            refine gf_103 C G dX12_channel_116 ?_
            refine lv_bipush (v := (16:Int32)) C.1 C.2.1 dX12_channel_119 (by decide) ?_
            refine lv_iload_n C.1 C.2.1 dX12_channel_121 rfl (lv_at hl 1 rfl) ?_
            refine lv_imul C.1 C.2.1 dX12_channel_122 ?_
            refine lv_iload_n C.1 C.2.1 dX12_channel_123 rfl (lv_at hl 2 rfl) ?_
            refine lv_iadd C.1 C.2.1 dX12_channel_124 ?_
            refine lv_iconst (v := (5:Int32)) C.1 C.2.1 dX12_channel_125 (by decide) ?_
            refine lv_isub C.1 C.2.1 dX12_channel_126 ?_
            obtain ⟨hi, h⟩ := ix_some h
            refine rf_iald C G 71 rfl (by decide) rfl rfl hi dX12_channel_127 ?_
            exact rf_iret C G h dX12_channel_128
        · rw [if_neg hc] at h
          refine lv_bipush (v := (-2:Int32)) C.1 C.2.1 dX12_channel_24 (by decide) ?_
          exact rf_iret C G h dX12_channel_26
    · rw [if_neg hc] at h
      refine lv_iconst (v := (-1:Int32)) C.1 C.2.1 dX12_channel_12 (by decide) ?_
      exact rf_iret C G h dX12_channel_13
noncomputable def fq_channel (x1 : Int32) (x2 : Int32) (ρ : rf_S) : Option (Int32 × rf_S) := bq_channel_0 x1 x2 ρ
theorem kq_channel (l : Launch) (D : rf_D) (h0 : Nat) {r : Int32} {x1 : Int32} {x2 : Int32} {ρ ρ' : rf_S} (h : fq_channel x1 x2 ρ = some (r, ρ')) : rf_Met l D h0 yX12_channel cX12_channel 3 (some .int) 0 0 [.ref h0, .int x1, .int x2] ρ (some (.int r)) ρ' :=
  rf_of rfl cc_channel (Nat.le_of_ble_eq_true rfl) (fun p e s m args below meth c ls C G hl => wq_channel_0 C h G hl)
abbrev cX12_block : ByteArray := prog_14_method_107_code
def yX12_block : MethodName := ⟨RX12, "block", "(II)I"⟩
theorem dX12_block_0 : decode cX12_block 0 = .ok (.iload_n 1, 1) := by decide +kernel
theorem dX12_block_1 : decode cX12_block 1 = .ok (.ifCond .lt 9, 3) := by decide +kernel
theorem dX12_block_4 : decode cX12_block 4 = .ok (.iload_n 1, 1) := by decide +kernel
theorem dX12_block_5 : decode cX12_block 5 = .ok (.bipush 63, 2) := by decide +kernel
theorem dX12_block_7 : decode cX12_block 7 = .ok (.if_icmp .le 5, 3) := by decide +kernel
theorem dX12_block_10 : decode cX12_block 10 = .ok (.iconst (-1), 1) := by decide +kernel
theorem dX12_block_11 : decode cX12_block 11 = .ok (.ireturn, 1) := by decide +kernel
theorem dX12_block_12 : decode cX12_block 12 = .ok (.iload_n 2, 1) := by decide +kernel
theorem dX12_block_13 : decode cX12_block 13 = .ok (.ifCond .lt 8, 3) := by decide +kernel
theorem dX12_block_16 : decode cX12_block 16 = .ok (.iload_n 2, 1) := by decide +kernel
theorem dX12_block_17 : decode cX12_block 17 = .ok (.iconst 1, 1) := by decide +kernel
theorem dX12_block_18 : decode cX12_block 18 = .ok (.if_icmp .le 6, 3) := by decide +kernel
theorem dX12_block_21 : decode cX12_block 21 = .ok (.bipush (-2), 2) := by decide +kernel
theorem dX12_block_23 : decode cX12_block 23 = .ok (.ireturn, 1) := by decide +kernel
theorem dX12_block_24 : decode cX12_block 24 = .ok (.aload_n 0, 1) := by decide +kernel
theorem dX12_block_25 : decode cX12_block 25 = .ok (.getfield 248, 3) := by decide +kernel
theorem dX12_block_28 : decode cX12_block 28 = .ok (.iload_n 1, 1) := by decide +kernel
theorem dX12_block_29 : decode cX12_block 29 = .ok (.iaload, 1) := by decide +kernel
theorem dX12_block_30 : decode cX12_block 30 = .ok (.ifCond .ge 5, 3) := by decide +kernel
theorem dX12_block_33 : decode cX12_block 33 = .ok (.iconst 0, 1) := by decide +kernel
theorem dX12_block_34 : decode cX12_block 34 = .ok (.ireturn, 1) := by decide +kernel
theorem dX12_block_35 : decode cX12_block 35 = .ok (.iload_n 2, 1) := by decide +kernel
theorem dX12_block_36 : decode cX12_block 36 = .ok (.ifCond .ne 12, 3) := by decide +kernel
theorem dX12_block_39 : decode cX12_block 39 = .ok (.aload_n 0, 1) := by decide +kernel
theorem dX12_block_40 : decode cX12_block 40 = .ok (.getfield 245, 3) := by decide +kernel
theorem dX12_block_43 : decode cX12_block 43 = .ok (.iload_n 1, 1) := by decide +kernel
theorem dX12_block_44 : decode cX12_block 44 = .ok (.iaload, 1) := by decide +kernel
theorem dX12_block_45 : decode cX12_block 45 = .ok (.goto 13, 3) := by decide +kernel
theorem dX12_block_48 : decode cX12_block 48 = .ok (.aload_n 0, 1) := by decide +kernel
theorem dX12_block_49 : decode cX12_block 49 = .ok (.aload_n 0, 1) := by decide +kernel
theorem dX12_block_50 : decode cX12_block 50 = .ok (.getfield 248, 3) := by decide +kernel
theorem dX12_block_53 : decode cX12_block 53 = .ok (.iload_n 1, 1) := by decide +kernel
theorem dX12_block_54 : decode cX12_block 54 = .ok (.iaload, 1) := by decide +kernel
theorem dX12_block_55 : decode cX12_block 55 = .ok (.invokevirtual 687, 3) := by decide +kernel
theorem dX12_block_58 : decode cX12_block 58 = .ok (.ireturn, 1) := by decide +kernel
theorem cc_block : Cond.code yX12_block cX12_block 3 (some .int) ∈ rf_tb := rf_at 2279 (by decide +kernel) (by decide +kernel)
noncomputable def bq_block_0 (x1 : Int32) (x2 : Int32) (ρ : rf_S) : Option (Int32 × rf_S) := (if x1 < 0 then some ((-1:Int32), ρ) else (if x1 ≤ (63:Int32) then (if x2 < 0 then some ((-2:Int32), ρ) else (if x2 ≤ (1:Int32) then ix x1 128 ((if 0 ≤ (ρ.1 75 x1.toNatClampNeg) then (if x2 = 0 then ix x1 128 (some ((ρ.1 74 x1.toNatClampNeg), ρ)) else ix x1 128 (bd2 (fq_shows (ρ.1 75 x1.toNatClampNeg) ρ) (fun r_2 ρ_1 => some (r_2, ρ_1)))) else some ((0:Int32), ρ))) else some ((-2:Int32), ρ))) else some ((-1:Int32), ρ)))
set_option maxHeartbeats 4000000 in
theorem wq_block_0 (C : rf_C D p s m args meth c cX12_block 3 (some .int)) {r : Int32} {x1 : Int32} {x2 : Int32} {ρ ρ' : rf_S} {H : Heap} {locs : List Loc} {ls : Array Slot} (h : bq_block_0 x1 x2 ρ = some (r, ρ')) (G : rf_G D h0 s ρ H locs) (hl : lv_has ls 3 [(0, .ref h0), (1, .int x1), (2, .int x2)]) : W p l e ({ frames := 2, cells := 0, slots := 0, locals := 43 }) s m args below meth c H locs 0 0 (MQ below (rf_Q D h0 (some (.int r)) ρ') args s 0 0 (rf_A h0)) (F0 m 0 ls []) := by
  unfold bq_block_0 at h
  refine lv_iload_n C.1 C.2.1 dX12_block_0 rfl (lv_at hl 1 rfl) ?_
  refine lv_if_lt (tgt := 10) C.1 C.2.1 dX12_block_1 (by decide) (fun hc => ?_) (fun hc => ?_)
  · rw [if_pos hc] at h
    refine lv_iconst (v := (-1:Int32)) C.1 C.2.1 dX12_block_10 (by decide) ?_
    exact rf_iret C G h dX12_block_11
  · rw [if_neg hc] at h
    refine lv_iload_n C.1 C.2.1 dX12_block_4 rfl (lv_at hl 1 rfl) ?_
    refine lv_bipush (v := (63:Int32)) C.1 C.2.1 dX12_block_5 (by decide) ?_
    refine lv_icmp_le (tgt := 12) C.1 C.2.1 dX12_block_7 (by decide) (fun hc => ?_) (fun hc => ?_)
    · rw [if_pos hc] at h
      refine lv_iload_n C.1 C.2.1 dX12_block_12 rfl (lv_at hl 2 rfl) ?_
      refine lv_if_lt (tgt := 21) C.1 C.2.1 dX12_block_13 (by decide) (fun hc => ?_) (fun hc => ?_)
      · rw [if_pos hc] at h
        refine lv_bipush (v := (-2:Int32)) C.1 C.2.1 dX12_block_21 (by decide) ?_
        exact rf_iret C G h dX12_block_23
      · rw [if_neg hc] at h
        refine lv_iload_n C.1 C.2.1 dX12_block_16 rfl (lv_at hl 2 rfl) ?_
        refine lv_iconst (v := (1:Int32)) C.1 C.2.1 dX12_block_17 (by decide) ?_
        refine lv_icmp_le (tgt := 24) C.1 C.2.1 dX12_block_18 (by decide) (fun hc => ?_) (fun hc => ?_)
        · rw [if_pos hc] at h
          refine lv_aload_n C.1 C.2.1 dX12_block_24 rfl (lv_at hl 0 rfl) ?_
          refine gf_107 C G dX12_block_25 ?_
          refine lv_iload_n C.1 C.2.1 dX12_block_28 rfl (lv_at hl 1 rfl) ?_
          obtain ⟨hi, h⟩ := ix_some h
          refine rf_iald C G 75 rfl (by decide) rfl rfl hi dX12_block_29 ?_
          refine lv_if_ge (tgt := 35) C.1 C.2.1 dX12_block_30 (by decide) (fun hc => ?_) (fun hc => ?_)
          · rw [if_pos hc] at h
            refine lv_iload_n C.1 C.2.1 dX12_block_35 rfl (lv_at hl 2 rfl) ?_
            refine lv_if_ne (tgt := 48) C.1 C.2.1 dX12_block_36 (by decide) (fun hc => ?_) (fun hc => ?_)
            · rw [if_neg hc] at h
              refine lv_aload_n C.1 C.2.1 dX12_block_48 rfl (lv_at hl 0 rfl) ?_
              refine lv_aload_n C.1 C.2.1 dX12_block_49 rfl (lv_at hl 0 rfl) ?_
              refine gf_107 C G dX12_block_50 ?_
              refine lv_iload_n C.1 C.2.1 dX12_block_53 rfl (lv_at hl 1 rfl) ?_
              obtain ⟨hi, h⟩ := ix_some h
              refine rf_iald C G 75 rfl (by decide) rfl rfl hi dX12_block_54 ?_
              obtain ⟨r_2, ρ_1, hq, h⟩ := bd2_some h
              refine rf_callV (rest := []) C G cw_shows [.int (ρ.1 75 x1.toNatClampNeg)] _ (kq_shows l D h0 hq) (Nat.le_of_ble_eq_true rfl) (Nat.le_of_ble_eq_true rfl) rfl rfl hl.1 (Nat.le_of_ble_eq_true rfl) (Nat.zero_le _) (Nat.zero_le _) dX12_block_55 (fun H locs G => ?_)
              refine W.eq (g2 := F0 m 58 ls [.int r_2]) rfl ?_
              exact rf_iret C G h dX12_block_58
            · rw [if_pos hc] at h
              refine lv_aload_n C.1 C.2.1 dX12_block_39 rfl (lv_at hl 0 rfl) ?_
              refine gf_106 C G dX12_block_40 ?_
              refine lv_iload_n C.1 C.2.1 dX12_block_43 rfl (lv_at hl 1 rfl) ?_
              obtain ⟨hi, h⟩ := ix_some h
              refine rf_iald C G 74 rfl (by decide) rfl rfl hi dX12_block_44 ?_
              refine lv_goto (tgt := 58) C.1 C.2.1 dX12_block_45 (by decide) ?_
              exact rf_iret C G h dX12_block_58
          · rw [if_neg hc] at h
            refine lv_iconst (v := (0:Int32)) C.1 C.2.1 dX12_block_33 (by decide) ?_
            exact rf_iret C G h dX12_block_34
        · rw [if_neg hc] at h
          refine lv_bipush (v := (-2:Int32)) C.1 C.2.1 dX12_block_21 (by decide) ?_
          exact rf_iret C G h dX12_block_23
    · rw [if_neg hc] at h
      refine lv_iconst (v := (-1:Int32)) C.1 C.2.1 dX12_block_10 (by decide) ?_
      exact rf_iret C G h dX12_block_11
noncomputable def fq_block (x1 : Int32) (x2 : Int32) (ρ : rf_S) : Option (Int32 × rf_S) := bq_block_0 x1 x2 ρ
theorem kq_block (l : Launch) (D : rf_D) (h0 : Nat) {r : Int32} {x1 : Int32} {x2 : Int32} {ρ ρ' : rf_S} (h : fq_block x1 x2 ρ = some (r, ρ')) : rf_Met l D h0 yX12_block cX12_block 3 (some .int) 2 43 [.ref h0, .int x1, .int x2] ρ (some (.int r)) ρ' :=
  rf_of rfl cc_block (Nat.le_of_ble_eq_true rfl) (fun p e s m args below meth c ls C G hl => wq_block_0 C h G hl)
abbrev cX12_put : ByteArray := prog_14_method_108_code
def yX12_put : MethodName := ⟨RX12, "put", "(III)I"⟩
theorem dX12_put_0 : decode cX12_put 0 = .ok (.iload_n 1, 1) := by decide +kernel
theorem dX12_put_1 : decode cX12_put 1 = .ok (.ifCond .lt 21, 3) := by decide +kernel
theorem dX12_put_4 : decode cX12_put 4 = .ok (.iload_n 1, 1) := by decide +kernel
theorem dX12_put_5 : decode cX12_put 5 = .ok (.bipush 63, 2) := by decide +kernel
theorem dX12_put_7 : decode cX12_put 7 = .ok (.if_icmp .gt 15, 3) := by decide +kernel
theorem dX12_put_10 : decode cX12_put 10 = .ok (.iload_n 3, 1) := by decide +kernel
theorem dX12_put_11 : decode cX12_put 11 = .ok (.ifCond .eq 13, 3) := by decide +kernel
theorem dX12_put_14 : decode cX12_put 14 = .ok (.aload_n 0, 1) := by decide +kernel
theorem dX12_put_15 : decode cX12_put 15 = .ok (.iload_n 3, 1) := by decide +kernel
theorem dX12_put_16 : decode cX12_put 16 = .ok (.invokevirtual 684, 3) := by decide +kernel
theorem dX12_put_19 : decode cX12_put 19 = .ok (.ifCond .ne 5, 3) := by decide +kernel
theorem dX12_put_22 : decode cX12_put 22 = .ok (.iconst (-1), 1) := by decide +kernel
theorem dX12_put_23 : decode cX12_put 23 = .ok (.ireturn, 1) := by decide +kernel
theorem dX12_put_24 : decode cX12_put 24 = .ok (.iload_n 3, 1) := by decide +kernel
theorem dX12_put_25 : decode cX12_put 25 = .ok (.ifCond .eq 11, 3) := by decide +kernel
theorem dX12_put_28 : decode cX12_put 28 = .ok (.iload_n 2, 1) := by decide +kernel
theorem dX12_put_29 : decode cX12_put 29 = .ok (.iconst 1, 1) := by decide +kernel
theorem dX12_put_30 : decode cX12_put 30 = .ok (.if_icmp .ge 6, 3) := by decide +kernel
theorem dX12_put_33 : decode cX12_put 33 = .ok (.bipush (-2), 2) := by decide +kernel
theorem dX12_put_35 : decode cX12_put 35 = .ok (.ireturn, 1) := by decide +kernel
theorem dX12_put_36 : decode cX12_put 36 = .ok (.aload_n 0, 1) := by decide +kernel
theorem dX12_put_37 : decode cX12_put 37 = .ok (.getfield 528, 3) := by decide +kernel
theorem dX12_put_40 : decode cX12_put 40 = .ok (.ifCond .eq 6, 3) := by decide +kernel
theorem dX12_put_43 : decode cX12_put 43 = .ok (.bipush (-3), 2) := by decide +kernel
theorem dX12_put_45 : decode cX12_put 45 = .ok (.ireturn, 1) := by decide +kernel
theorem dX12_put_46 : decode cX12_put 46 = .ok (.aload_n 0, 1) := by decide +kernel
theorem dX12_put_47 : decode cX12_put 47 = .ok (.getfield 245, 3) := by decide +kernel
theorem dX12_put_50 : decode cX12_put 50 = .ok (.iload_n 1, 1) := by decide +kernel
theorem dX12_put_51 : decode cX12_put 51 = .ok (.iload_n 3, 1) := by decide +kernel
theorem dX12_put_52 : decode cX12_put 52 = .ok (.ifCond .ne 7, 3) := by decide +kernel
theorem dX12_put_55 : decode cX12_put 55 = .ok (.iconst 0, 1) := by decide +kernel
theorem dX12_put_56 : decode cX12_put 56 = .ok (.goto 4, 3) := by decide +kernel
theorem dX12_put_59 : decode cX12_put 59 = .ok (.iload_n 2, 1) := by decide +kernel
theorem dX12_put_60 : decode cX12_put 60 = .ok (.iastore, 1) := by decide +kernel
theorem dX12_put_61 : decode cX12_put 61 = .ok (.aload_n 0, 1) := by decide +kernel
theorem dX12_put_62 : decode cX12_put 62 = .ok (.getfield 248, 3) := by decide +kernel
theorem dX12_put_65 : decode cX12_put 65 = .ok (.iload_n 1, 1) := by decide +kernel
theorem dX12_put_66 : decode cX12_put 66 = .ok (.iload_n 3, 1) := by decide +kernel
theorem dX12_put_67 : decode cX12_put 67 = .ok (.ifCond .ne 7, 3) := by decide +kernel
theorem dX12_put_70 : decode cX12_put 70 = .ok (.iconst (-1), 1) := by decide +kernel
theorem dX12_put_71 : decode cX12_put 71 = .ok (.goto 11, 3) := by decide +kernel
theorem dX12_put_74 : decode cX12_put 74 = .ok (.aload_n 0, 1) := by decide +kernel
theorem dX12_put_75 : decode cX12_put 75 = .ok (.getfield 251, 3) := by decide +kernel
theorem dX12_put_78 : decode cX12_put 78 = .ok (.iload_n 3, 1) := by decide +kernel
theorem dX12_put_79 : decode cX12_put 79 = .ok (.iconst 1, 1) := by decide +kernel
theorem dX12_put_80 : decode cX12_put 80 = .ok (.isub, 1) := by decide +kernel
theorem dX12_put_81 : decode cX12_put 81 = .ok (.iaload, 1) := by decide +kernel
theorem dX12_put_82 : decode cX12_put 82 = .ok (.iastore, 1) := by decide +kernel
theorem dX12_put_83 : decode cX12_put 83 = .ok (.iconst 0, 1) := by decide +kernel
theorem dX12_put_84 : decode cX12_put 84 = .ok (.ireturn, 1) := by decide +kernel
theorem cc_put : Cond.code yX12_put cX12_put 4 (some .int) ∈ rf_tb := rf_at 2283 (by decide +kernel) (by decide +kernel)
noncomputable def bq_put_82 (v1 : Int32) (v2 : Int32) (ρ : rf_S) : Option (Int32 × rf_S) := ix v1 128 (vl (rf_w ρ 75 v1.toNatClampNeg v2) (fun ρ_2 => some ((0:Int32), ρ_2)))
set_option maxHeartbeats 4000000 in
theorem wq_put_82 (C : rf_C D p s m args meth c cX12_put 4 (some .int)) {r : Int32} {v1 : Int32} {v2 : Int32} {ρ ρ' : rf_S} {H : Heap} {locs : List Loc} {ls : Array Slot} (h : bq_put_82 v1 v2 ρ = some (r, ρ')) (G : rf_G D h0 s ρ H locs) (hl : lv_has ls 4 [(0, .ref h0)]) : W p l e ({ frames := 1, cells := 0, slots := 0, locals := 21 }) s m args below meth c H locs 0 0 (MQ below (rf_Q D h0 (some (.int r)) ρ') args s 0 0 (rf_A h0)) (F0 m 82 ls [.int v2, .int v1, .ref (h0 + 75)]) := by
  unfold bq_put_82 at h
  obtain ⟨hi, h⟩ := ix_some h
  refine rf_iast C G 75 rfl (by decide) rfl rfl hi dX12_put_82 (fun H locs G => ?_)
  refine rf_nm G h (fun ρ_2 G h => ?_)
  refine lv_iconst (v := (0:Int32)) C.1 C.2.1 dX12_put_83 (by decide) ?_
  exact rf_iret C G h dX12_put_84
noncomputable def bq_put_60 (x1 : Int32) (x3 : Int32) (v1 : Int32) (v2 : Int32) (ρ : rf_S) : Option (Int32 × rf_S) := ix v1 128 (vl (rf_w ρ 74 v1.toNatClampNeg v2) (fun ρ_1 => (if x3 = 0 then bq_put_82 x1 (-1:Int32) ρ_1 else ix (x3 - (1:Int32)) 600 (bq_put_82 x1 (ρ_1.1 76 (x3 - (1:Int32)).toNatClampNeg) ρ_1))))
set_option maxHeartbeats 4000000 in
theorem wq_put_60 (C : rf_C D p s m args meth c cX12_put 4 (some .int)) {r : Int32} {x1 : Int32} {x3 : Int32} {v1 : Int32} {v2 : Int32} {ρ ρ' : rf_S} {H : Heap} {locs : List Loc} {ls : Array Slot} (h : bq_put_60 x1 x3 v1 v2 ρ = some (r, ρ')) (G : rf_G D h0 s ρ H locs) (hl : lv_has ls 4 [(0, .ref h0), (1, .int x1), (3, .int x3)]) : W p l e ({ frames := 1, cells := 0, slots := 0, locals := 21 }) s m args below meth c H locs 0 0 (MQ below (rf_Q D h0 (some (.int r)) ρ') args s 0 0 (rf_A h0)) (F0 m 60 ls [.int v2, .int v1, .ref (h0 + 74)]) := by
  unfold bq_put_60 at h
  obtain ⟨hi, h⟩ := ix_some h
  refine rf_iast C G 74 rfl (by decide) rfl rfl hi dX12_put_60 (fun H locs G => ?_)
  refine rf_nm G h (fun ρ_1 G h => ?_)
  refine lv_aload_n C.1 C.2.1 dX12_put_61 rfl (lv_at hl 0 rfl) ?_
  refine gf_107 C G dX12_put_62 ?_
  refine lv_iload_n C.1 C.2.1 dX12_put_65 rfl (lv_at hl 1 rfl) ?_
  refine lv_iload_n C.1 C.2.1 dX12_put_66 rfl (lv_at hl 2 rfl) ?_
  refine lv_if_ne (tgt := 74) C.1 C.2.1 dX12_put_67 (by decide) (fun hc => ?_) (fun hc => ?_)
  · rw [if_neg hc] at h
    refine lv_aload_n C.1 C.2.1 dX12_put_74 rfl (lv_at hl 0 rfl) ?_
    refine gf_109 C G dX12_put_75 ?_
    refine lv_iload_n C.1 C.2.1 dX12_put_78 rfl (lv_at hl 2 rfl) ?_
    refine lv_iconst (v := (1:Int32)) C.1 C.2.1 dX12_put_79 (by decide) ?_
    refine lv_isub C.1 C.2.1 dX12_put_80 ?_
    obtain ⟨hi, h⟩ := ix_some h
    refine rf_iald C G 76 rfl (by decide) rfl rfl hi dX12_put_81 ?_
    exact wq_put_82 C h G (lv_sub hl [0] rfl)
  · rw [if_pos hc] at h
    refine lv_iconst (v := (-1:Int32)) C.1 C.2.1 dX12_put_70 (by decide) ?_
    refine lv_goto (tgt := 82) C.1 C.2.1 dX12_put_71 (by decide) ?_
    exact wq_put_82 C h G (lv_sub hl [0] rfl)
noncomputable def bq_put_36 (x1 : Int32) (x2 : Int32) (x3 : Int32) (ρ : rf_S) : Option (Int32 × rf_S) := (if (ρ.1 0 51) = 0 then (if x3 = 0 then bq_put_60 x1 x3 x1 (0:Int32) ρ else bq_put_60 x1 x3 x1 x2 ρ) else some ((-3:Int32), ρ))
set_option maxHeartbeats 4000000 in
theorem wq_put_36 (C : rf_C D p s m args meth c cX12_put 4 (some .int)) {r : Int32} {x1 : Int32} {x2 : Int32} {x3 : Int32} {ρ ρ' : rf_S} {H : Heap} {locs : List Loc} {ls : Array Slot} (h : bq_put_36 x1 x2 x3 ρ = some (r, ρ')) (G : rf_G D h0 s ρ H locs) (hl : lv_has ls 4 [(0, .ref h0), (1, .int x1), (2, .int x2), (3, .int x3)]) : W p l e ({ frames := 1, cells := 0, slots := 0, locals := 21 }) s m args below meth c H locs 0 0 (MQ below (rf_Q D h0 (some (.int r)) ρ') args s 0 0 (rf_A h0)) (F0 m 36 ls []) := by
  unfold bq_put_36 at h
  refine lv_aload_n C.1 C.2.1 dX12_put_36 rfl (lv_at hl 0 rfl) ?_
  refine gf_51 C G dX12_put_37 ?_
  refine lv_if_eq (tgt := 46) C.1 C.2.1 dX12_put_40 (by decide) (fun hc => ?_) (fun hc => ?_)
  · rw [if_pos hc] at h
    refine lv_aload_n C.1 C.2.1 dX12_put_46 rfl (lv_at hl 0 rfl) ?_
    refine gf_106 C G dX12_put_47 ?_
    refine lv_iload_n C.1 C.2.1 dX12_put_50 rfl (lv_at hl 1 rfl) ?_
    refine lv_iload_n C.1 C.2.1 dX12_put_51 rfl (lv_at hl 3 rfl) ?_
    refine lv_if_ne (tgt := 59) C.1 C.2.1 dX12_put_52 (by decide) (fun hc => ?_) (fun hc => ?_)
    · rw [if_neg hc] at h
      refine lv_iload_n C.1 C.2.1 dX12_put_59 rfl (lv_at hl 2 rfl) ?_
      exact wq_put_60 C h G (lv_sub hl [0, 1, 3] rfl)
    · rw [if_pos hc] at h
      refine lv_iconst (v := (0:Int32)) C.1 C.2.1 dX12_put_55 (by decide) ?_
      refine lv_goto (tgt := 60) C.1 C.2.1 dX12_put_56 (by decide) ?_
      exact wq_put_60 C h G (lv_sub hl [0, 1, 3] rfl)
  · rw [if_neg hc] at h
    refine lv_bipush (v := (-3:Int32)) C.1 C.2.1 dX12_put_43 (by decide) ?_
    exact rf_iret C G h dX12_put_45
noncomputable def bq_put_24 (x1 : Int32) (x2 : Int32) (x3 : Int32) (ρ : rf_S) : Option (Int32 × rf_S) := (if x3 = 0 then bq_put_36 x1 x2 x3 ρ else (if (1:Int32) ≤ x2 then bq_put_36 x1 x2 x3 ρ else some ((-2:Int32), ρ)))
set_option maxHeartbeats 4000000 in
theorem wq_put_24 (C : rf_C D p s m args meth c cX12_put 4 (some .int)) {r : Int32} {x1 : Int32} {x2 : Int32} {x3 : Int32} {ρ ρ' : rf_S} {H : Heap} {locs : List Loc} {ls : Array Slot} (h : bq_put_24 x1 x2 x3 ρ = some (r, ρ')) (G : rf_G D h0 s ρ H locs) (hl : lv_has ls 4 [(0, .ref h0), (1, .int x1), (2, .int x2), (3, .int x3)]) : W p l e ({ frames := 1, cells := 0, slots := 0, locals := 21 }) s m args below meth c H locs 0 0 (MQ below (rf_Q D h0 (some (.int r)) ρ') args s 0 0 (rf_A h0)) (F0 m 24 ls []) := by
  unfold bq_put_24 at h
  refine lv_iload_n C.1 C.2.1 dX12_put_24 rfl (lv_at hl 3 rfl) ?_
  refine lv_if_eq (tgt := 36) C.1 C.2.1 dX12_put_25 (by decide) (fun hc => ?_) (fun hc => ?_)
  · rw [if_pos hc] at h
    exact wq_put_36 C h G (lv_sub hl [0, 1, 2, 3] rfl)
  · rw [if_neg hc] at h
    refine lv_iload_n C.1 C.2.1 dX12_put_28 rfl (lv_at hl 2 rfl) ?_
    refine lv_iconst (v := (1:Int32)) C.1 C.2.1 dX12_put_29 (by decide) ?_
    refine lv_icmp_ge (tgt := 36) C.1 C.2.1 dX12_put_30 (by decide) (fun hc => ?_) (fun hc => ?_)
    · rw [if_pos hc] at h
      exact wq_put_36 C h G (lv_sub hl [0, 1, 2, 3] rfl)
    · rw [if_neg hc] at h
      refine lv_bipush (v := (-2:Int32)) C.1 C.2.1 dX12_put_33 (by decide) ?_
      exact rf_iret C G h dX12_put_35
noncomputable def bq_put_0 (x1 : Int32) (x2 : Int32) (x3 : Int32) (ρ : rf_S) : Option (Int32 × rf_S) := (if x1 < 0 then some ((-1:Int32), ρ) else (if (63:Int32) < x1 then some ((-1:Int32), ρ) else (if x3 = 0 then bq_put_24 x1 x2 x3 ρ else bd2 (fq_isOutside x3 ρ) (fun r_4 ρ_3 => (if r_4 = 0 then some ((-1:Int32), ρ_3) else bq_put_24 x1 x2 x3 ρ_3)))))
set_option maxHeartbeats 4000000 in
theorem wq_put_0 (C : rf_C D p s m args meth c cX12_put 4 (some .int)) {r : Int32} {x1 : Int32} {x2 : Int32} {x3 : Int32} {ρ ρ' : rf_S} {H : Heap} {locs : List Loc} {ls : Array Slot} (h : bq_put_0 x1 x2 x3 ρ = some (r, ρ')) (G : rf_G D h0 s ρ H locs) (hl : lv_has ls 4 [(0, .ref h0), (1, .int x1), (2, .int x2), (3, .int x3)]) : W p l e ({ frames := 1, cells := 0, slots := 0, locals := 21 }) s m args below meth c H locs 0 0 (MQ below (rf_Q D h0 (some (.int r)) ρ') args s 0 0 (rf_A h0)) (F0 m 0 ls []) := by
  unfold bq_put_0 at h
  refine lv_iload_n C.1 C.2.1 dX12_put_0 rfl (lv_at hl 1 rfl) ?_
  refine lv_if_lt (tgt := 22) C.1 C.2.1 dX12_put_1 (by decide) (fun hc => ?_) (fun hc => ?_)
  · rw [if_pos hc] at h
    refine lv_iconst (v := (-1:Int32)) C.1 C.2.1 dX12_put_22 (by decide) ?_
    exact rf_iret C G h dX12_put_23
  · rw [if_neg hc] at h
    refine lv_iload_n C.1 C.2.1 dX12_put_4 rfl (lv_at hl 1 rfl) ?_
    refine lv_bipush (v := (63:Int32)) C.1 C.2.1 dX12_put_5 (by decide) ?_
    refine lv_icmp_gt (tgt := 22) C.1 C.2.1 dX12_put_7 (by decide) (fun hc => ?_) (fun hc => ?_)
    · rw [if_pos hc] at h
      refine lv_iconst (v := (-1:Int32)) C.1 C.2.1 dX12_put_22 (by decide) ?_
      exact rf_iret C G h dX12_put_23
    · rw [if_neg hc] at h
      refine lv_iload_n C.1 C.2.1 dX12_put_10 rfl (lv_at hl 3 rfl) ?_
      refine lv_if_eq (tgt := 24) C.1 C.2.1 dX12_put_11 (by decide) (fun hc => ?_) (fun hc => ?_)
      · rw [if_pos hc] at h
        exact wq_put_24 C h G (lv_sub hl [0, 1, 2, 3] rfl)
      · rw [if_neg hc] at h
        refine lv_aload_n C.1 C.2.1 dX12_put_14 rfl (lv_at hl 0 rfl) ?_
        refine lv_iload_n C.1 C.2.1 dX12_put_15 rfl (lv_at hl 3 rfl) ?_
        obtain ⟨r_4, ρ_3, hq, h⟩ := bd2_some h
        refine rf_callV (rest := []) C G cw_isOutside [.int x3] _ (kq_isOutside l D h0 hq) (Nat.le_of_ble_eq_true rfl) (Nat.le_of_ble_eq_true rfl) rfl rfl hl.1 (Nat.le_of_ble_eq_true rfl) (Nat.zero_le _) (Nat.zero_le _) dX12_put_16 (fun H locs G => ?_)
        refine W.eq (g2 := F0 m 19 ls [.int r_4]) rfl ?_
        refine lv_if_ne (tgt := 24) C.1 C.2.1 dX12_put_19 (by decide) (fun hc => ?_) (fun hc => ?_)
        · rw [if_neg hc] at h
          exact wq_put_24 C h G (lv_sub hl [0, 1, 2, 3] rfl)
        · rw [if_pos hc] at h
          refine lv_iconst (v := (-1:Int32)) C.1 C.2.1 dX12_put_22 (by decide) ?_
          exact rf_iret C G h dX12_put_23
noncomputable def fq_put (x1 : Int32) (x2 : Int32) (x3 : Int32) (ρ : rf_S) : Option (Int32 × rf_S) := bq_put_0 x1 x2 x3 ρ
theorem kq_put (l : Launch) (D : rf_D) (h0 : Nat) {r : Int32} {x1 : Int32} {x2 : Int32} {x3 : Int32} {ρ ρ' : rf_S} (h : fq_put x1 x2 x3 ρ = some (r, ρ')) : rf_Met l D h0 yX12_put cX12_put 4 (some .int) 1 21 [.ref h0, .int x1, .int x2, .int x3] ρ (some (.int r)) ρ' :=
  rf_of rfl cc_put (Nat.le_of_ble_eq_true rfl) (fun p e s m args below meth c ls C G hl => wq_put_0 C h G hl)
abbrev cX12_outsideAt : ByteArray := prog_14_method_109_code
def yX12_outsideAt : MethodName := ⟨RX12, "outsideAt", "(I)I"⟩
theorem dX12_outsideAt_0 : decode cX12_outsideAt 0 = .ok (.aload_n 0, 1) := by decide +kernel
theorem dX12_outsideAt_1 : decode cX12_outsideAt 1 = .ok (.getfield 251, 3) := by decide +kernel
theorem dX12_outsideAt_4 : decode cX12_outsideAt 4 = .ok (.iload_n 1, 1) := by decide +kernel
theorem dX12_outsideAt_5 : decode cX12_outsideAt 5 = .ok (.iconst 1, 1) := by decide +kernel
theorem dX12_outsideAt_6 : decode cX12_outsideAt 6 = .ok (.isub, 1) := by decide +kernel
theorem dX12_outsideAt_7 : decode cX12_outsideAt 7 = .ok (.iaload, 1) := by decide +kernel
theorem dX12_outsideAt_8 : decode cX12_outsideAt 8 = .ok (.ireturn, 1) := by decide +kernel
theorem cc_outsideAt : Cond.code yX12_outsideAt cX12_outsideAt 2 (some .int) ∈ rf_tb := rf_at 2295 (by decide +kernel) (by decide +kernel)
theorem cw_outsideAt : rf_wV yX12_outsideAt cX12_outsideAt 2 (some .int) 693 1 := ⟨⟨rf_at 2292 (by decide +kernel) (by decide +kernel), rf_at 2294 (by decide +kernel) (by decide +kernel), rf_sel (q := (yX12_outsideAt, 122)) 142 (by decide +kernel) (by decide +kernel), cc_outsideAt⟩, rfl, by decide +kernel⟩
noncomputable def bq_outsideAt_0 (x1 : Int32) (ρ : rf_S) : Option (Int32 × rf_S) := ix (x1 - (1:Int32)) 600 (some ((ρ.1 76 (x1 - (1:Int32)).toNatClampNeg), ρ))
set_option maxHeartbeats 4000000 in
theorem wq_outsideAt_0 (C : rf_C D p s m args meth c cX12_outsideAt 2 (some .int)) {r : Int32} {x1 : Int32} {ρ ρ' : rf_S} {H : Heap} {locs : List Loc} {ls : Array Slot} (h : bq_outsideAt_0 x1 ρ = some (r, ρ')) (G : rf_G D h0 s ρ H locs) (hl : lv_has ls 2 [(0, .ref h0), (1, .int x1)]) : W p l e ({ frames := 0, cells := 0, slots := 0, locals := 0 }) s m args below meth c H locs 0 0 (MQ below (rf_Q D h0 (some (.int r)) ρ') args s 0 0 (rf_A h0)) (F0 m 0 ls []) := by
  unfold bq_outsideAt_0 at h
  refine lv_aload_n C.1 C.2.1 dX12_outsideAt_0 rfl (lv_at hl 0 rfl) ?_
  refine gf_109 C G dX12_outsideAt_1 ?_
  refine lv_iload_n C.1 C.2.1 dX12_outsideAt_4 rfl (lv_at hl 1 rfl) ?_
  refine lv_iconst (v := (1:Int32)) C.1 C.2.1 dX12_outsideAt_5 (by decide) ?_
  refine lv_isub C.1 C.2.1 dX12_outsideAt_6 ?_
  obtain ⟨hi, h⟩ := ix_some h
  refine rf_iald C G 76 rfl (by decide) rfl rfl hi dX12_outsideAt_7 ?_
  exact rf_iret C G h dX12_outsideAt_8
noncomputable def fq_outsideAt (x1 : Int32) (ρ : rf_S) : Option (Int32 × rf_S) := bq_outsideAt_0 x1 ρ
theorem kq_outsideAt (l : Launch) (D : rf_D) (h0 : Nat) {r : Int32} {x1 : Int32} {ρ ρ' : rf_S} (h : fq_outsideAt x1 ρ = some (r, ρ')) : rf_Met l D h0 yX12_outsideAt cX12_outsideAt 2 (some .int) 0 0 [.ref h0, .int x1] ρ (some (.int r)) ρ' :=
  rf_of rfl cc_outsideAt (Nat.le_of_ble_eq_true rfl) (fun p e s m args below meth c ls C G hl => wq_outsideAt_0 C h G hl)
abbrev cX12_makes : ByteArray := prog_14_method_110_code
def yX12_makes : MethodName := ⟨RX12, "makes", "(IIII)I"⟩
theorem dX12_makes_0 : decode cX12_makes 0 = .ok (.aload_n 0, 1) := by decide +kernel
theorem dX12_makes_1 : decode cX12_makes 1 = .ok (.iload_n 1, 1) := by decide +kernel
theorem dX12_makes_2 : decode cX12_makes 2 = .ok (.iload_n 2, 1) := by decide +kernel
theorem dX12_makes_3 : decode cX12_makes 3 = .ok (.iload_n 3, 1) := by decide +kernel
theorem dX12_makes_4 : decode cX12_makes 4 = .ok (.iload 4, 2) := by decide +kernel
theorem dX12_makes_6 : decode cX12_makes 6 = .ok (.invokevirtual 296, 3) := by decide +kernel
theorem dX12_makes_9 : decode cX12_makes 9 = .ok (.istore 5, 2) := by decide +kernel
theorem dX12_makes_11 : decode cX12_makes 11 = .ok (.iload 5, 2) := by decide +kernel
theorem dX12_makes_13 : decode cX12_makes 13 = .ok (.ifCond .ge 16, 3) := by decide +kernel
theorem dX12_makes_16 : decode cX12_makes 16 = .ok (.aload_n 0, 1) := by decide +kernel
theorem dX12_makes_17 : decode cX12_makes 17 = .ok (.getfield 681, 3) := by decide +kernel
theorem dX12_makes_20 : decode cX12_makes 20 = .ok (.sipush 600, 3) := by decide +kernel
theorem dX12_makes_23 : decode cX12_makes 23 = .ok (.if_icmp .ne 6, 3) := by decide +kernel
theorem dX12_makes_26 : decode cX12_makes 26 = .ok (.bipush (-4), 2) := by decide +kernel
theorem dX12_makes_28 : decode cX12_makes 28 = .ok (.ireturn, 1) := by decide +kernel
theorem dX12_makes_29 : decode cX12_makes 29 = .ok (.aload_n 0, 1) := by decide +kernel
theorem dX12_makes_30 : decode cX12_makes 30 = .ok (.iload 5, 2) := by decide +kernel
theorem dX12_makes_32 : decode cX12_makes 32 = .ok (.ifCond .lt 8, 3) := by decide +kernel
theorem dX12_makes_35 : decode cX12_makes 35 = .ok (.iload 5, 2) := by decide +kernel
theorem dX12_makes_37 : decode cX12_makes 37 = .ok (.goto 12, 3) := by decide +kernel
theorem dX12_makes_40 : decode cX12_makes 40 = .ok (.aload_n 0, 1) := by decide +kernel
theorem dX12_makes_41 : decode cX12_makes 41 = .ok (.iload_n 1, 1) := by decide +kernel
theorem dX12_makes_42 : decode cX12_makes 42 = .ok (.iload_n 2, 1) := by decide +kernel
theorem dX12_makes_43 : decode cX12_makes 43 = .ok (.iload_n 3, 1) := by decide +kernel
theorem dX12_makes_44 : decode cX12_makes 44 = .ok (.iload 4, 2) := by decide +kernel
theorem dX12_makes_46 : decode cX12_makes 46 = .ok (.invokevirtual 271, 3) := by decide +kernel
theorem dX12_makes_49 : decode cX12_makes 49 = .ok (.invokevirtual 687, 3) := by decide +kernel
theorem dX12_makes_52 : decode cX12_makes 52 = .ok (.ireturn, 1) := by decide +kernel
theorem cc_makes : Cond.code yX12_makes cX12_makes 6 (some .int) ∈ rf_tb := rf_at 2291 (by decide +kernel) (by decide +kernel)
theorem cw_makes : rf_wV yX12_makes cX12_makes 6 (some .int) 690 4 := ⟨⟨rf_at 2288 (by decide +kernel) (by decide +kernel), rf_at 2290 (by decide +kernel) (by decide +kernel), rf_sel (q := (yX12_makes, 122)) 141 (by decide +kernel) (by decide +kernel), cc_makes⟩, rfl, by decide +kernel⟩
noncomputable def bq_makes_29 (x1 : Int32) (x2 : Int32) (x3 : Int32) (x4 : Int32) (x5 : Int32) (ρ : rf_S) : Option (Int32 × rf_S) := (if x5 < 0 then bd2 (fq_term x1 x2 x3 x4 ρ) (fun r_4 ρ_3 => bd2 (fq_shows r_4 ρ_3) (fun r_6 ρ_5 => some (r_6, ρ_5))) else bd2 (fq_shows x5 ρ) (fun r_8 ρ_7 => some (r_8, ρ_7)))
set_option maxHeartbeats 4000000 in
theorem wq_makes_29 (C : rf_C D p s m args meth c cX12_makes 6 (some .int)) {r : Int32} {x1 : Int32} {x2 : Int32} {x3 : Int32} {x4 : Int32} {x5 : Int32} {ρ ρ' : rf_S} {H : Heap} {locs : List Loc} {ls : Array Slot} (h : bq_makes_29 x1 x2 x3 x4 x5 ρ = some (r, ρ')) (G : rf_G D h0 s ρ H locs) (hl : lv_has ls 6 [(0, .ref h0), (1, .int x1), (2, .int x2), (3, .int x3), (4, .int x4), (5, .int x5)]) : W p l e ({ frames := 3, cells := 0, slots := 0, locals := 74 }) s m args below meth c H locs 0 0 (MQ below (rf_Q D h0 (some (.int r)) ρ') args s 0 0 (rf_A h0)) (F0 m 29 ls []) := by
  unfold bq_makes_29 at h
  refine lv_aload_n C.1 C.2.1 dX12_makes_29 rfl (lv_at hl 0 rfl) ?_
  refine lv_iload C.1 C.2.1 dX12_makes_30 (lv_at hl 5 rfl) ?_
  refine lv_if_lt (tgt := 40) C.1 C.2.1 dX12_makes_32 (by decide) (fun hc => ?_) (fun hc => ?_)
  · rw [if_pos hc] at h
    refine lv_aload_n C.1 C.2.1 dX12_makes_40 rfl (lv_at hl 0 rfl) ?_
    refine lv_iload_n C.1 C.2.1 dX12_makes_41 rfl (lv_at hl 1 rfl) ?_
    refine lv_iload_n C.1 C.2.1 dX12_makes_42 rfl (lv_at hl 2 rfl) ?_
    refine lv_iload_n C.1 C.2.1 dX12_makes_43 rfl (lv_at hl 3 rfl) ?_
    refine lv_iload C.1 C.2.1 dX12_makes_44 (lv_at hl 4 rfl) ?_
    obtain ⟨r_4, ρ_3, hq, h⟩ := bd2_some h
    refine rf_callV (rest := [.ref h0]) C G cw_term [.int x1, .int x2, .int x3, .int x4] _ (kq_term l D h0 hq) (Nat.le_of_ble_eq_true rfl) (Nat.le_of_ble_eq_true rfl) rfl rfl hl.1 (Nat.le_of_ble_eq_true rfl) (Nat.zero_le _) (Nat.zero_le _) dX12_makes_46 (fun H locs G => ?_)
    refine W.eq (g2 := F0 m 49 ls [.int r_4, .ref h0]) rfl ?_
    obtain ⟨r_6, ρ_5, hq, h⟩ := bd2_some h
    refine rf_callV (rest := []) C G cw_shows [.int r_4] _ (kq_shows l D h0 hq) (Nat.le_of_ble_eq_true rfl) (Nat.le_of_ble_eq_true rfl) rfl rfl hl.1 (Nat.le_of_ble_eq_true rfl) (Nat.zero_le _) (Nat.zero_le _) dX12_makes_49 (fun H locs G => ?_)
    refine W.eq (g2 := F0 m 52 ls [.int r_6]) rfl ?_
    exact rf_iret C G h dX12_makes_52
  · rw [if_neg hc] at h
    refine lv_iload C.1 C.2.1 dX12_makes_35 (lv_at hl 5 rfl) ?_
    refine lv_goto (tgt := 49) C.1 C.2.1 dX12_makes_37 (by decide) ?_
    obtain ⟨r_8, ρ_7, hq, h⟩ := bd2_some h
    refine rf_callV (rest := []) C G cw_shows [.int x5] _ (kq_shows l D h0 hq) (Nat.le_of_ble_eq_true rfl) (Nat.le_of_ble_eq_true rfl) rfl rfl hl.1 (Nat.le_of_ble_eq_true rfl) (Nat.zero_le _) (Nat.zero_le _) dX12_makes_49 (fun H locs G => ?_)
    refine W.eq (g2 := F0 m 52 ls [.int r_8]) rfl ?_
    exact rf_iret C G h dX12_makes_52
noncomputable def bq_makes_0 (x1 : Int32) (x2 : Int32) (x3 : Int32) (x4 : Int32) (ρ : rf_S) : Option (Int32 × rf_S) := bd2 (fq_peek x1 x2 x3 x4 ρ) (fun r_2 ρ_1 => (if 0 ≤ r_2 then bq_makes_29 x1 x2 x3 x4 r_2 ρ_1 else (if (ρ_1.1 0 110) = (600:Int32) then some ((-4:Int32), ρ_1) else bq_makes_29 x1 x2 x3 x4 r_2 ρ_1)))
set_option maxHeartbeats 4000000 in
theorem wq_makes_0 (C : rf_C D p s m args meth c cX12_makes 6 (some .int)) {r : Int32} {x1 : Int32} {x2 : Int32} {x3 : Int32} {x4 : Int32} {ρ ρ' : rf_S} {H : Heap} {locs : List Loc} {ls : Array Slot} (h : bq_makes_0 x1 x2 x3 x4 ρ = some (r, ρ')) (G : rf_G D h0 s ρ H locs) (hl : lv_has ls 6 [(0, .ref h0), (1, .int x1), (2, .int x2), (3, .int x3), (4, .int x4)]) : W p l e ({ frames := 3, cells := 0, slots := 0, locals := 74 }) s m args below meth c H locs 0 0 (MQ below (rf_Q D h0 (some (.int r)) ρ') args s 0 0 (rf_A h0)) (F0 m 0 ls []) := by
  unfold bq_makes_0 at h
  refine lv_aload_n C.1 C.2.1 dX12_makes_0 rfl (lv_at hl 0 rfl) ?_
  refine lv_iload_n C.1 C.2.1 dX12_makes_1 rfl (lv_at hl 1 rfl) ?_
  refine lv_iload_n C.1 C.2.1 dX12_makes_2 rfl (lv_at hl 2 rfl) ?_
  refine lv_iload_n C.1 C.2.1 dX12_makes_3 rfl (lv_at hl 3 rfl) ?_
  refine lv_iload C.1 C.2.1 dX12_makes_4 (lv_at hl 4 rfl) ?_
  obtain ⟨r_2, ρ_1, hq, h⟩ := bd2_some h
  refine rf_callV (rest := []) C G cw_peek [.int x1, .int x2, .int x3, .int x4] _ (kq_peek l D h0 hq) (Nat.le_of_ble_eq_true rfl) (Nat.le_of_ble_eq_true rfl) rfl rfl hl.1 (Nat.le_of_ble_eq_true rfl) (Nat.zero_le _) (Nat.zero_le _) dX12_makes_6 (fun H locs G => ?_)
  refine W.eq (g2 := F0 m 9 ls [.int r_2]) rfl ?_
  refine lv_istore (lv' := [(5, .int r_2), (0, .ref h0), (1, .int x1), (2, .int x2), (3, .int x3), (4, .int x4)]) C.1 C.2.1 dX12_makes_9 hl (by decide) rfl (fun ls hl => ?_)
  refine lv_iload C.1 C.2.1 dX12_makes_11 (lv_at hl 0 rfl) ?_
  refine lv_if_ge (tgt := 29) C.1 C.2.1 dX12_makes_13 (by decide) (fun hc => ?_) (fun hc => ?_)
  · rw [if_pos hc] at h
    exact wq_makes_29 C h G (lv_sub hl [1, 2, 3, 4, 5, 0] rfl)
  · rw [if_neg hc] at h
    refine lv_aload_n C.1 C.2.1 dX12_makes_16 rfl (lv_at hl 1 rfl) ?_
    refine gf_110 C G dX12_makes_17 ?_
    refine lv_sipush (v := (600:Int32)) C.1 C.2.1 dX12_makes_20 (by decide) ?_
    refine lv_icmp_ne (tgt := 29) C.1 C.2.1 dX12_makes_23 (by decide) (fun hc => ?_) (fun hc => ?_)
    · rw [if_neg hc] at h
      exact wq_makes_29 C h G (lv_sub hl [1, 2, 3, 4, 5, 0] rfl)
    · rw [if_pos hc] at h
      refine lv_bipush (v := (-4:Int32)) C.1 C.2.1 dX12_makes_26 (by decide) ?_
      exact rf_iret C G h dX12_makes_28
noncomputable def fq_makes (x1 : Int32) (x2 : Int32) (x3 : Int32) (x4 : Int32) (ρ : rf_S) : Option (Int32 × rf_S) := bq_makes_0 x1 x2 x3 x4 ρ
theorem kq_makes (l : Launch) (D : rf_D) (h0 : Nat) {r : Int32} {x1 : Int32} {x2 : Int32} {x3 : Int32} {x4 : Int32} {ρ ρ' : rf_S} (h : fq_makes x1 x2 x3 x4 ρ = some (r, ρ')) : rf_Met l D h0 yX12_makes cX12_makes 6 (some .int) 3 74 [.ref h0, .int x1, .int x2, .int x3, .int x4] ρ (some (.int r)) ρ' :=
  rf_of rfl cc_makes (Nat.le_of_ble_eq_true rfl) (fun p e s m args below meth c ls C G hl => wq_makes_0 C h G hl)
abbrev cX12_make : ByteArray := prog_14_method_111_code
def yX12_make : MethodName := ⟨RX12, "make", "(IIII)I"⟩
theorem dX12_make_0 : decode cX12_make 0 = .ok (.iload_n 1, 1) := by decide +kernel
theorem dX12_make_1 : decode cX12_make 1 = .ok (.ifCond .ne 12, 3) := by decide +kernel
theorem dX12_make_4 : decode cX12_make 4 = .ok (.aload_n 0, 1) := by decide +kernel
theorem dX12_make_5 : decode cX12_make 5 = .ok (.iconst 0, 1) := by decide +kernel
theorem dX12_make_6 : decode cX12_make 6 = .ok (.iload_n 2, 1) := by decide +kernel
theorem dX12_make_7 : decode cX12_make 7 = .ok (.iconst 0, 1) := by decide +kernel
theorem dX12_make_8 : decode cX12_make 8 = .ok (.iconst 0, 1) := by decide +kernel
theorem dX12_make_9 : decode cX12_make 9 = .ok (.invokevirtual 690, 3) := by decide +kernel
theorem dX12_make_12 : decode cX12_make 12 = .ok (.ireturn, 1) := by decide +kernel
theorem dX12_make_13 : decode cX12_make 13 = .ok (.iload_n 1, 1) := by decide +kernel
theorem dX12_make_14 : decode cX12_make 14 = .ok (.iconst 2, 1) := by decide +kernel
theorem dX12_make_15 : decode cX12_make 15 = .ok (.if_icmp .lt 9, 3) := by decide +kernel
theorem dX12_make_18 : decode cX12_make 18 = .ok (.iload_n 1, 1) := by decide +kernel
theorem dX12_make_19 : decode cX12_make 19 = .ok (.bipush 9, 2) := by decide +kernel
theorem dX12_make_21 : decode cX12_make 21 = .ok (.if_icmp .le 6, 3) := by decide +kernel
theorem dX12_make_24 : decode cX12_make 24 = .ok (.bipush (-2), 2) := by decide +kernel
theorem dX12_make_26 : decode cX12_make 26 = .ok (.ireturn, 1) := by decide +kernel
theorem dX12_make_27 : decode cX12_make 27 = .ok (.iload_n 1, 1) := by decide +kernel
theorem dX12_make_28 : decode cX12_make 28 = .ok (.iconst 2, 1) := by decide +kernel
theorem dX12_make_29 : decode cX12_make 29 = .ok (.if_icmp .ne 44, 3) := by decide +kernel
theorem dX12_make_32 : decode cX12_make 32 = .ok (.aload_n 0, 1) := by decide +kernel
theorem dX12_make_33 : decode cX12_make 33 = .ok (.getfield 681, 3) := by decide +kernel
theorem dX12_make_36 : decode cX12_make 36 = .ok (.sipush 600, 3) := by decide +kernel
theorem dX12_make_39 : decode cX12_make 39 = .ok (.if_icmp .ne 6, 3) := by decide +kernel
theorem dX12_make_42 : decode cX12_make 42 = .ok (.bipush (-4), 2) := by decide +kernel
theorem dX12_make_44 : decode cX12_make 44 = .ok (.ireturn, 1) := by decide +kernel
theorem dX12_make_45 : decode cX12_make 45 = .ok (.aload_n 0, 1) := by decide +kernel
theorem dX12_make_46 : decode cX12_make 46 = .ok (.dup, 1) := by decide +kernel
theorem dX12_make_47 : decode cX12_make 47 = .ok (.getfield 278, 3) := by decide +kernel
theorem dX12_make_50 : decode cX12_make 50 = .ok (.iconst 1, 1) := by decide +kernel
theorem dX12_make_51 : decode cX12_make 51 = .ok (.iadd, 1) := by decide +kernel
theorem dX12_make_52 : decode cX12_make 52 = .ok (.putfield 278, 3) := by decide +kernel
theorem dX12_make_55 : decode cX12_make 55 = .ok (.aload_n 0, 1) := by decide +kernel
theorem dX12_make_56 : decode cX12_make 56 = .ok (.aload_n 0, 1) := by decide +kernel
theorem dX12_make_57 : decode cX12_make 57 = .ok (.iconst 2, 1) := by decide +kernel
theorem dX12_make_58 : decode cX12_make 58 = .ok (.aload_n 0, 1) := by decide +kernel
theorem dX12_make_59 : decode cX12_make 59 = .ok (.getfield 278, 3) := by decide +kernel
theorem dX12_make_62 : decode cX12_make 62 = .ok (.iconst 1, 1) := by decide +kernel
theorem dX12_make_63 : decode cX12_make 63 = .ok (.isub, 1) := by decide +kernel
theorem dX12_make_64 : decode cX12_make 64 = .ok (.iconst 0, 1) := by decide +kernel
theorem dX12_make_65 : decode cX12_make 65 = .ok (.iconst 0, 1) := by decide +kernel
theorem dX12_make_66 : decode cX12_make 66 = .ok (.invokevirtual 271, 3) := by decide +kernel
theorem dX12_make_69 : decode cX12_make 69 = .ok (.invokevirtual 687, 3) := by decide +kernel
theorem dX12_make_72 : decode cX12_make 72 = .ok (.ireturn, 1) := by decide +kernel
theorem dX12_make_73 : decode cX12_make 73 = .ok (.iload_n 1, 1) := by decide +kernel
theorem dX12_make_74 : decode cX12_make 74 = .ok (.iconst 4, 1) := by decide +kernel
theorem dX12_make_75 : decode cX12_make 75 = .ok (.if_icmp .eq 9, 3) := by decide +kernel
theorem dX12_make_78 : decode cX12_make 78 = .ok (.iload_n 1, 1) := by decide +kernel
theorem dX12_make_79 : decode cX12_make 79 = .ok (.bipush 6, 2) := by decide +kernel
theorem dX12_make_81 : decode cX12_make 81 = .ok (.if_icmp .ne 7, 3) := by decide +kernel
theorem dX12_make_84 : decode cX12_make 84 = .ok (.iconst 1, 1) := by decide +kernel
theorem dX12_make_85 : decode cX12_make 85 = .ok (.goto 4, 3) := by decide +kernel
theorem dX12_make_88 : decode cX12_make 88 = .ok (.iconst 0, 1) := by decide +kernel
theorem dX12_make_89 : decode cX12_make 89 = .ok (.istore 5, 2) := by decide +kernel
theorem dX12_make_91 : decode cX12_make 91 = .ok (.aload_n 0, 1) := by decide +kernel
theorem dX12_make_92 : decode cX12_make 92 = .ok (.iload_n 2, 1) := by decide +kernel
theorem dX12_make_93 : decode cX12_make 93 = .ok (.invokevirtual 684, 3) := by decide +kernel
theorem dX12_make_96 : decode cX12_make 96 = .ok (.ifCond .eq 31, 3) := by decide +kernel
theorem dX12_make_99 : decode cX12_make 99 = .ok (.iload 5, 2) := by decide +kernel
theorem dX12_make_101 : decode cX12_make 101 = .ok (.ifCond .ne 11, 3) := by decide +kernel
theorem dX12_make_104 : decode cX12_make 104 = .ok (.aload_n 0, 1) := by decide +kernel
theorem dX12_make_105 : decode cX12_make 105 = .ok (.iload_n 3, 1) := by decide +kernel
theorem dX12_make_106 : decode cX12_make 106 = .ok (.invokevirtual 684, 3) := by decide +kernel
theorem dX12_make_109 : decode cX12_make 109 = .ok (.ifCond .eq 18, 3) := by decide +kernel
theorem dX12_make_112 : decode cX12_make 112 = .ok (.iload_n 1, 1) := by decide +kernel
theorem dX12_make_113 : decode cX12_make 113 = .ok (.bipush 8, 2) := by decide +kernel
theorem dX12_make_115 : decode cX12_make 115 = .ok (.if_icmp .ne 14, 3) := by decide +kernel
theorem dX12_make_118 : decode cX12_make 118 = .ok (.aload_n 0, 1) := by decide +kernel
theorem dX12_make_119 : decode cX12_make 119 = .ok (.iload 4, 2) := by decide +kernel
theorem dX12_make_121 : decode cX12_make 121 = .ok (.invokevirtual 684, 3) := by decide +kernel
theorem dX12_make_124 : decode cX12_make 124 = .ok (.ifCond .ne 5, 3) := by decide +kernel
theorem dX12_make_127 : decode cX12_make 127 = .ok (.iconst (-1), 1) := by decide +kernel
theorem dX12_make_128 : decode cX12_make 128 = .ok (.ireturn, 1) := by decide +kernel
theorem dX12_make_129 : decode cX12_make 129 = .ok (.aload_n 0, 1) := by decide +kernel
theorem dX12_make_130 : decode cX12_make 130 = .ok (.iload_n 1, 1) := by decide +kernel
theorem dX12_make_131 : decode cX12_make 131 = .ok (.aload_n 0, 1) := by decide +kernel
theorem dX12_make_132 : decode cX12_make 132 = .ok (.iload_n 2, 1) := by decide +kernel
theorem dX12_make_133 : decode cX12_make 133 = .ok (.invokevirtual 693, 3) := by decide +kernel
theorem dX12_make_136 : decode cX12_make 136 = .ok (.iload 5, 2) := by decide +kernel
theorem dX12_make_138 : decode cX12_make 138 = .ok (.ifCond .eq 7, 3) := by decide +kernel
theorem dX12_make_141 : decode cX12_make 141 = .ok (.iconst 0, 1) := by decide +kernel
theorem dX12_make_142 : decode cX12_make 142 = .ok (.goto 8, 3) := by decide +kernel
theorem dX12_make_145 : decode cX12_make 145 = .ok (.aload_n 0, 1) := by decide +kernel
theorem dX12_make_146 : decode cX12_make 146 = .ok (.iload_n 3, 1) := by decide +kernel
theorem dX12_make_147 : decode cX12_make 147 = .ok (.invokevirtual 693, 3) := by decide +kernel
theorem dX12_make_150 : decode cX12_make 150 = .ok (.iload_n 1, 1) := by decide +kernel
theorem dX12_make_151 : decode cX12_make 151 = .ok (.bipush 8, 2) := by decide +kernel
theorem dX12_make_153 : decode cX12_make 153 = .ok (.if_icmp .ne 12, 3) := by decide +kernel
theorem dX12_make_156 : decode cX12_make 156 = .ok (.aload_n 0, 1) := by decide +kernel
theorem dX12_make_157 : decode cX12_make 157 = .ok (.iload 4, 2) := by decide +kernel
theorem dX12_make_159 : decode cX12_make 159 = .ok (.invokevirtual 693, 3) := by decide +kernel
theorem dX12_make_162 : decode cX12_make 162 = .ok (.goto 4, 3) := by decide +kernel
theorem dX12_make_165 : decode cX12_make 165 = .ok (.iconst 0, 1) := by decide +kernel
theorem dX12_make_166 : decode cX12_make 166 = .ok (.invokevirtual 690, 3) := by decide +kernel
theorem dX12_make_169 : decode cX12_make 169 = .ok (.ireturn, 1) := by decide +kernel
theorem cc_make : Cond.code yX12_make cX12_make 6 (some .int) ∈ rf_tb := rf_at 2287 (by decide +kernel) (by decide +kernel)
noncomputable def bq_make_150 (x1 : Int32) (x4 : Int32) (v1 : Int32) (v2 : Int32) (v3 : Int32) (ρ : rf_S) : Option (Int32 × rf_S) := (if x1 = (8:Int32) then bd2 (fq_outsideAt x4 ρ) (fun r_10 ρ_9 => bd2 (fq_makes v1 v2 v3 r_10 ρ_9) (fun r_12 ρ_11 => some (r_12, ρ_11))) else bd2 (fq_makes v1 v2 v3 (0:Int32) ρ) (fun r_8 ρ_7 => some (r_8, ρ_7)))
set_option maxHeartbeats 4000000 in
theorem wq_make_150 (C : rf_C D p s m args meth c cX12_make 6 (some .int)) {r : Int32} {x1 : Int32} {x4 : Int32} {v1 : Int32} {v2 : Int32} {v3 : Int32} {ρ ρ' : rf_S} {H : Heap} {locs : List Loc} {ls : Array Slot} (h : bq_make_150 x1 x4 v1 v2 v3 ρ = some (r, ρ')) (G : rf_G D h0 s ρ H locs) (hl : lv_has ls 6 [(0, .ref h0), (1, .int x1), (4, .int x4)]) : W p l e ({ frames := 4, cells := 0, slots := 0, locals := 99 }) s m args below meth c H locs 0 0 (MQ below (rf_Q D h0 (some (.int r)) ρ') args s 0 0 (rf_A h0)) (F0 m 150 ls [.int v3, .int v2, .int v1, .ref h0]) := by
  unfold bq_make_150 at h
  refine lv_iload_n C.1 C.2.1 dX12_make_150 rfl (lv_at hl 1 rfl) ?_
  refine lv_bipush (v := (8:Int32)) C.1 C.2.1 dX12_make_151 (by decide) ?_
  refine lv_icmp_ne (tgt := 165) C.1 C.2.1 dX12_make_153 (by decide) (fun hc => ?_) (fun hc => ?_)
  · rw [if_neg hc] at h
    refine lv_iconst (v := (0:Int32)) C.1 C.2.1 dX12_make_165 (by decide) ?_
    obtain ⟨r_8, ρ_7, hq, h⟩ := bd2_some h
    refine rf_callV (rest := []) C G cw_makes [.int v1, .int v2, .int v3, .int (0:Int32)] _ (kq_makes l D h0 hq) (Nat.le_of_ble_eq_true rfl) (Nat.le_of_ble_eq_true rfl) rfl rfl hl.1 (Nat.le_of_ble_eq_true rfl) (Nat.zero_le _) (Nat.zero_le _) dX12_make_166 (fun H locs G => ?_)
    refine W.eq (g2 := F0 m 169 ls [.int r_8]) rfl ?_
    exact rf_iret C G h dX12_make_169
  · rw [if_pos hc] at h
    refine lv_aload_n C.1 C.2.1 dX12_make_156 rfl (lv_at hl 0 rfl) ?_
    refine lv_iload C.1 C.2.1 dX12_make_157 (lv_at hl 2 rfl) ?_
    obtain ⟨r_10, ρ_9, hq, h⟩ := bd2_some h
    refine rf_callV (rest := [.int v3, .int v2, .int v1, .ref h0]) C G cw_outsideAt [.int x4] _ (kq_outsideAt l D h0 hq) (Nat.le_of_ble_eq_true rfl) (Nat.le_of_ble_eq_true rfl) rfl rfl hl.1 (Nat.le_of_ble_eq_true rfl) (Nat.zero_le _) (Nat.zero_le _) dX12_make_159 (fun H locs G => ?_)
    refine W.eq (g2 := F0 m 162 ls [.int r_10, .int v3, .int v2, .int v1, .ref h0]) rfl ?_
    refine lv_goto (tgt := 166) C.1 C.2.1 dX12_make_162 (by decide) ?_
    obtain ⟨r_12, ρ_11, hq, h⟩ := bd2_some h
    refine rf_callV (rest := []) C G cw_makes [.int v1, .int v2, .int v3, .int r_10] _ (kq_makes l D h0 hq) (Nat.le_of_ble_eq_true rfl) (Nat.le_of_ble_eq_true rfl) rfl rfl hl.1 (Nat.le_of_ble_eq_true rfl) (Nat.zero_le _) (Nat.zero_le _) dX12_make_166 (fun H locs G => ?_)
    refine W.eq (g2 := F0 m 169 ls [.int r_12]) rfl ?_
    exact rf_iret C G h dX12_make_169
noncomputable def bq_make_129 (x1 : Int32) (x2 : Int32) (x3 : Int32) (x4 : Int32) (x5 : Int32) (ρ : rf_S) : Option (Int32 × rf_S) := bd2 (fq_outsideAt x2 ρ) (fun r_4 ρ_3 => (if x5 = 0 then bd2 (fq_outsideAt x3 ρ_3) (fun r_6 ρ_5 => bq_make_150 x1 x4 x1 r_4 r_6 ρ_5) else bq_make_150 x1 x4 x1 r_4 (0:Int32) ρ_3))
set_option maxHeartbeats 4000000 in
theorem wq_make_129 (C : rf_C D p s m args meth c cX12_make 6 (some .int)) {r : Int32} {x1 : Int32} {x2 : Int32} {x3 : Int32} {x4 : Int32} {x5 : Int32} {ρ ρ' : rf_S} {H : Heap} {locs : List Loc} {ls : Array Slot} (h : bq_make_129 x1 x2 x3 x4 x5 ρ = some (r, ρ')) (G : rf_G D h0 s ρ H locs) (hl : lv_has ls 6 [(0, .ref h0), (1, .int x1), (2, .int x2), (3, .int x3), (4, .int x4), (5, .int x5)]) : W p l e ({ frames := 4, cells := 0, slots := 0, locals := 99 }) s m args below meth c H locs 0 0 (MQ below (rf_Q D h0 (some (.int r)) ρ') args s 0 0 (rf_A h0)) (F0 m 129 ls []) := by
  unfold bq_make_129 at h
  refine lv_aload_n C.1 C.2.1 dX12_make_129 rfl (lv_at hl 0 rfl) ?_
  refine lv_iload_n C.1 C.2.1 dX12_make_130 rfl (lv_at hl 1 rfl) ?_
  refine lv_aload_n C.1 C.2.1 dX12_make_131 rfl (lv_at hl 0 rfl) ?_
  refine lv_iload_n C.1 C.2.1 dX12_make_132 rfl (lv_at hl 2 rfl) ?_
  obtain ⟨r_4, ρ_3, hq, h⟩ := bd2_some h
  refine rf_callV (rest := [.int x1, .ref h0]) C G cw_outsideAt [.int x2] _ (kq_outsideAt l D h0 hq) (Nat.le_of_ble_eq_true rfl) (Nat.le_of_ble_eq_true rfl) rfl rfl hl.1 (Nat.le_of_ble_eq_true rfl) (Nat.zero_le _) (Nat.zero_le _) dX12_make_133 (fun H locs G => ?_)
  refine W.eq (g2 := F0 m 136 ls [.int r_4, .int x1, .ref h0]) rfl ?_
  refine lv_iload C.1 C.2.1 dX12_make_136 (lv_at hl 5 rfl) ?_
  refine lv_if_eq (tgt := 145) C.1 C.2.1 dX12_make_138 (by decide) (fun hc => ?_) (fun hc => ?_)
  · rw [if_pos hc] at h
    refine lv_aload_n C.1 C.2.1 dX12_make_145 rfl (lv_at hl 0 rfl) ?_
    refine lv_iload_n C.1 C.2.1 dX12_make_146 rfl (lv_at hl 3 rfl) ?_
    obtain ⟨r_6, ρ_5, hq, h⟩ := bd2_some h
    refine rf_callV (rest := [.int r_4, .int x1, .ref h0]) C G cw_outsideAt [.int x3] _ (kq_outsideAt l D h0 hq) (Nat.le_of_ble_eq_true rfl) (Nat.le_of_ble_eq_true rfl) rfl rfl hl.1 (Nat.le_of_ble_eq_true rfl) (Nat.zero_le _) (Nat.zero_le _) dX12_make_147 (fun H locs G => ?_)
    refine W.eq (g2 := F0 m 150 ls [.int r_6, .int r_4, .int x1, .ref h0]) rfl ?_
    exact wq_make_150 C h G (lv_sub hl [0, 1, 4] rfl)
  · rw [if_neg hc] at h
    refine lv_iconst (v := (0:Int32)) C.1 C.2.1 dX12_make_141 (by decide) ?_
    refine lv_goto (tgt := 150) C.1 C.2.1 dX12_make_142 (by decide) ?_
    exact wq_make_150 C h G (lv_sub hl [0, 1, 4] rfl)
noncomputable def bq_make_112 (x1 : Int32) (x2 : Int32) (x3 : Int32) (x4 : Int32) (x5 : Int32) (ρ : rf_S) : Option (Int32 × rf_S) := (if x1 = (8:Int32) then bd2 (fq_isOutside x4 ρ) (fun r_14 ρ_13 => (if r_14 = 0 then some ((-1:Int32), ρ_13) else bq_make_129 x1 x2 x3 x4 x5 ρ_13)) else bq_make_129 x1 x2 x3 x4 x5 ρ)
set_option maxHeartbeats 4000000 in
theorem wq_make_112 (C : rf_C D p s m args meth c cX12_make 6 (some .int)) {r : Int32} {x1 : Int32} {x2 : Int32} {x3 : Int32} {x4 : Int32} {x5 : Int32} {ρ ρ' : rf_S} {H : Heap} {locs : List Loc} {ls : Array Slot} (h : bq_make_112 x1 x2 x3 x4 x5 ρ = some (r, ρ')) (G : rf_G D h0 s ρ H locs) (hl : lv_has ls 6 [(0, .ref h0), (1, .int x1), (2, .int x2), (3, .int x3), (4, .int x4), (5, .int x5)]) : W p l e ({ frames := 4, cells := 0, slots := 0, locals := 99 }) s m args below meth c H locs 0 0 (MQ below (rf_Q D h0 (some (.int r)) ρ') args s 0 0 (rf_A h0)) (F0 m 112 ls []) := by
  unfold bq_make_112 at h
  refine lv_iload_n C.1 C.2.1 dX12_make_112 rfl (lv_at hl 1 rfl) ?_
  refine lv_bipush (v := (8:Int32)) C.1 C.2.1 dX12_make_113 (by decide) ?_
  refine lv_icmp_ne (tgt := 129) C.1 C.2.1 dX12_make_115 (by decide) (fun hc => ?_) (fun hc => ?_)
  · rw [if_neg hc] at h
    exact wq_make_129 C h G (lv_sub hl [0, 1, 2, 3, 4, 5] rfl)
  · rw [if_pos hc] at h
    refine lv_aload_n C.1 C.2.1 dX12_make_118 rfl (lv_at hl 0 rfl) ?_
    refine lv_iload C.1 C.2.1 dX12_make_119 (lv_at hl 4 rfl) ?_
    obtain ⟨r_14, ρ_13, hq, h⟩ := bd2_some h
    refine rf_callV (rest := []) C G cw_isOutside [.int x4] _ (kq_isOutside l D h0 hq) (Nat.le_of_ble_eq_true rfl) (Nat.le_of_ble_eq_true rfl) rfl rfl hl.1 (Nat.le_of_ble_eq_true rfl) (Nat.zero_le _) (Nat.zero_le _) dX12_make_121 (fun H locs G => ?_)
    refine W.eq (g2 := F0 m 124 ls [.int r_14]) rfl ?_
    refine lv_if_ne (tgt := 129) C.1 C.2.1 dX12_make_124 (by decide) (fun hc => ?_) (fun hc => ?_)
    · rw [if_neg hc] at h
      exact wq_make_129 C h G (lv_sub hl [0, 1, 2, 3, 4, 5] rfl)
    · rw [if_pos hc] at h
      refine lv_iconst (v := (-1:Int32)) C.1 C.2.1 dX12_make_127 (by decide) ?_
      exact rf_iret C G h dX12_make_128
noncomputable def bq_make_89 (x1 : Int32) (x2 : Int32) (x3 : Int32) (x4 : Int32) (v0 : Int32) (ρ : rf_S) : Option (Int32 × rf_S) := bd2 (fq_isOutside x2 ρ) (fun r_2 ρ_1 => (if r_2 = 0 then some ((-1:Int32), ρ_1) else (if v0 = 0 then bd2 (fq_isOutside x3 ρ_1) (fun r_16 ρ_15 => (if r_16 = 0 then some ((-1:Int32), ρ_15) else bq_make_112 x1 x2 x3 x4 v0 ρ_15)) else bq_make_112 x1 x2 x3 x4 v0 ρ_1)))
set_option maxHeartbeats 4000000 in
theorem wq_make_89 (C : rf_C D p s m args meth c cX12_make 6 (some .int)) {r : Int32} {x1 : Int32} {x2 : Int32} {x3 : Int32} {x4 : Int32} {v0 : Int32} {ρ ρ' : rf_S} {H : Heap} {locs : List Loc} {ls : Array Slot} (h : bq_make_89 x1 x2 x3 x4 v0 ρ = some (r, ρ')) (G : rf_G D h0 s ρ H locs) (hl : lv_has ls 6 [(0, .ref h0), (1, .int x1), (2, .int x2), (3, .int x3), (4, .int x4)]) : W p l e ({ frames := 4, cells := 0, slots := 0, locals := 99 }) s m args below meth c H locs 0 0 (MQ below (rf_Q D h0 (some (.int r)) ρ') args s 0 0 (rf_A h0)) (F0 m 89 ls [.int v0]) := by
  unfold bq_make_89 at h
  refine lv_istore (lv' := [(5, .int v0), (0, .ref h0), (1, .int x1), (2, .int x2), (3, .int x3), (4, .int x4)]) C.1 C.2.1 dX12_make_89 hl (by decide) rfl (fun ls hl => ?_)
  refine lv_aload_n C.1 C.2.1 dX12_make_91 rfl (lv_at hl 1 rfl) ?_
  refine lv_iload_n C.1 C.2.1 dX12_make_92 rfl (lv_at hl 3 rfl) ?_
  obtain ⟨r_2, ρ_1, hq, h⟩ := bd2_some h
  refine rf_callV (rest := []) C G cw_isOutside [.int x2] _ (kq_isOutside l D h0 hq) (Nat.le_of_ble_eq_true rfl) (Nat.le_of_ble_eq_true rfl) rfl rfl hl.1 (Nat.le_of_ble_eq_true rfl) (Nat.zero_le _) (Nat.zero_le _) dX12_make_93 (fun H locs G => ?_)
  refine W.eq (g2 := F0 m 96 ls [.int r_2]) rfl ?_
  refine lv_if_eq (tgt := 127) C.1 C.2.1 dX12_make_96 (by decide) (fun hc => ?_) (fun hc => ?_)
  · rw [if_pos hc] at h
    refine lv_iconst (v := (-1:Int32)) C.1 C.2.1 dX12_make_127 (by decide) ?_
    exact rf_iret C G h dX12_make_128
  · rw [if_neg hc] at h
    refine lv_iload C.1 C.2.1 dX12_make_99 (lv_at hl 0 rfl) ?_
    refine lv_if_ne (tgt := 112) C.1 C.2.1 dX12_make_101 (by decide) (fun hc => ?_) (fun hc => ?_)
    · rw [if_neg hc] at h
      exact wq_make_112 C h G (lv_sub hl [1, 2, 3, 4, 5, 0] rfl)
    · rw [if_pos hc] at h
      refine lv_aload_n C.1 C.2.1 dX12_make_104 rfl (lv_at hl 1 rfl) ?_
      refine lv_iload_n C.1 C.2.1 dX12_make_105 rfl (lv_at hl 4 rfl) ?_
      obtain ⟨r_16, ρ_15, hq, h⟩ := bd2_some h
      refine rf_callV (rest := []) C G cw_isOutside [.int x3] _ (kq_isOutside l D h0 hq) (Nat.le_of_ble_eq_true rfl) (Nat.le_of_ble_eq_true rfl) rfl rfl hl.1 (Nat.le_of_ble_eq_true rfl) (Nat.zero_le _) (Nat.zero_le _) dX12_make_106 (fun H locs G => ?_)
      refine W.eq (g2 := F0 m 109 ls [.int r_16]) rfl ?_
      refine lv_if_eq (tgt := 127) C.1 C.2.1 dX12_make_109 (by decide) (fun hc => ?_) (fun hc => ?_)
      · rw [if_pos hc] at h
        refine lv_iconst (v := (-1:Int32)) C.1 C.2.1 dX12_make_127 (by decide) ?_
        exact rf_iret C G h dX12_make_128
      · rw [if_neg hc] at h
        exact wq_make_112 C h G (lv_sub hl [1, 2, 3, 4, 5, 0] rfl)
noncomputable def bq_make_84 (x1 : Int32) (x2 : Int32) (x3 : Int32) (x4 : Int32) (ρ : rf_S) : Option (Int32 × rf_S) := bq_make_89 x1 x2 x3 x4 (1:Int32) ρ
set_option maxHeartbeats 4000000 in
theorem wq_make_84 (C : rf_C D p s m args meth c cX12_make 6 (some .int)) {r : Int32} {x1 : Int32} {x2 : Int32} {x3 : Int32} {x4 : Int32} {ρ ρ' : rf_S} {H : Heap} {locs : List Loc} {ls : Array Slot} (h : bq_make_84 x1 x2 x3 x4 ρ = some (r, ρ')) (G : rf_G D h0 s ρ H locs) (hl : lv_has ls 6 [(0, .ref h0), (1, .int x1), (2, .int x2), (3, .int x3), (4, .int x4)]) : W p l e ({ frames := 4, cells := 0, slots := 0, locals := 99 }) s m args below meth c H locs 0 0 (MQ below (rf_Q D h0 (some (.int r)) ρ') args s 0 0 (rf_A h0)) (F0 m 84 ls []) := by
  unfold bq_make_84 at h
  refine lv_iconst (v := (1:Int32)) C.1 C.2.1 dX12_make_84 (by decide) ?_
  refine lv_goto (tgt := 89) C.1 C.2.1 dX12_make_85 (by decide) ?_
  exact wq_make_89 C h G (lv_sub hl [0, 1, 2, 3, 4] rfl)
noncomputable def bq_make_0 (x1 : Int32) (x2 : Int32) (x3 : Int32) (x4 : Int32) (ρ : rf_S) : Option (Int32 × rf_S) := (if x1 = 0 then bd2 (fq_makes (0:Int32) x2 (0:Int32) (0:Int32) ρ) (fun r_23 ρ_22 => some (r_23, ρ_22)) else (if x1 < (2:Int32) then some ((-2:Int32), ρ) else (if x1 ≤ (9:Int32) then (if x1 = (2:Int32) then (if (ρ.1 0 110) = (600:Int32) then some ((-4:Int32), ρ) else vl (rf_w ρ 0 13 ((ρ.1 0 13) + (1:Int32))) (fun ρ_17 => bd2 (fq_term (2:Int32) ((ρ_17.1 0 13) - (1:Int32)) (0:Int32) (0:Int32) ρ_17) (fun r_19 ρ_18 => bd2 (fq_shows r_19 ρ_18) (fun r_21 ρ_20 => some (r_21, ρ_20))))) else (if x1 = (4:Int32) then bq_make_84 x1 x2 x3 x4 ρ else (if x1 = (6:Int32) then bq_make_84 x1 x2 x3 x4 ρ else bq_make_89 x1 x2 x3 x4 (0:Int32) ρ))) else some ((-2:Int32), ρ))))
set_option maxHeartbeats 4000000 in
theorem wq_make_0 (C : rf_C D p s m args meth c cX12_make 6 (some .int)) {r : Int32} {x1 : Int32} {x2 : Int32} {x3 : Int32} {x4 : Int32} {ρ ρ' : rf_S} {H : Heap} {locs : List Loc} {ls : Array Slot} (h : bq_make_0 x1 x2 x3 x4 ρ = some (r, ρ')) (G : rf_G D h0 s ρ H locs) (hl : lv_has ls 6 [(0, .ref h0), (1, .int x1), (2, .int x2), (3, .int x3), (4, .int x4)]) : W p l e ({ frames := 4, cells := 0, slots := 0, locals := 99 }) s m args below meth c H locs 0 0 (MQ below (rf_Q D h0 (some (.int r)) ρ') args s 0 0 (rf_A h0)) (F0 m 0 ls []) := by
  unfold bq_make_0 at h
  refine lv_iload_n C.1 C.2.1 dX12_make_0 rfl (lv_at hl 1 rfl) ?_
  refine lv_if_ne (tgt := 13) C.1 C.2.1 dX12_make_1 (by decide) (fun hc => ?_) (fun hc => ?_)
  · rw [if_neg hc] at h
    refine lv_iload_n C.1 C.2.1 dX12_make_13 rfl (lv_at hl 1 rfl) ?_
    refine lv_iconst (v := (2:Int32)) C.1 C.2.1 dX12_make_14 (by decide) ?_
    refine lv_icmp_lt (tgt := 24) C.1 C.2.1 dX12_make_15 (by decide) (fun hc => ?_) (fun hc => ?_)
    · rw [if_pos hc] at h
      refine lv_bipush (v := (-2:Int32)) C.1 C.2.1 dX12_make_24 (by decide) ?_
      exact rf_iret C G h dX12_make_26
    · rw [if_neg hc] at h
      refine lv_iload_n C.1 C.2.1 dX12_make_18 rfl (lv_at hl 1 rfl) ?_
      refine lv_bipush (v := (9:Int32)) C.1 C.2.1 dX12_make_19 (by decide) ?_
      refine lv_icmp_le (tgt := 27) C.1 C.2.1 dX12_make_21 (by decide) (fun hc => ?_) (fun hc => ?_)
      · rw [if_pos hc] at h
        refine lv_iload_n C.1 C.2.1 dX12_make_27 rfl (lv_at hl 1 rfl) ?_
        refine lv_iconst (v := (2:Int32)) C.1 C.2.1 dX12_make_28 (by decide) ?_
        refine lv_icmp_ne (tgt := 73) C.1 C.2.1 dX12_make_29 (by decide) (fun hc => ?_) (fun hc => ?_)
        · rw [if_neg hc] at h
          refine lv_iload_n C.1 C.2.1 dX12_make_73 rfl (lv_at hl 1 rfl) ?_
          refine lv_iconst (v := (4:Int32)) C.1 C.2.1 dX12_make_74 (by decide) ?_
          refine lv_icmp_eq (tgt := 84) C.1 C.2.1 dX12_make_75 (by decide) (fun hc => ?_) (fun hc => ?_)
          · rw [if_pos hc] at h
            exact wq_make_84 C h G (lv_sub hl [0, 1, 2, 3, 4] rfl)
          · rw [if_neg hc] at h
            refine lv_iload_n C.1 C.2.1 dX12_make_78 rfl (lv_at hl 1 rfl) ?_
            refine lv_bipush (v := (6:Int32)) C.1 C.2.1 dX12_make_79 (by decide) ?_
            refine lv_icmp_ne (tgt := 88) C.1 C.2.1 dX12_make_81 (by decide) (fun hc => ?_) (fun hc => ?_)
            · rw [if_neg hc] at h
              refine lv_iconst (v := (0:Int32)) C.1 C.2.1 dX12_make_88 (by decide) ?_
              exact wq_make_89 C h G (lv_sub hl [0, 1, 2, 3, 4] rfl)
            · rw [if_pos hc] at h
              exact wq_make_84 C h G (lv_sub hl [0, 1, 2, 3, 4] rfl)
        · rw [if_pos hc] at h
          refine lv_aload_n C.1 C.2.1 dX12_make_32 rfl (lv_at hl 0 rfl) ?_
          refine gf_110 C G dX12_make_33 ?_
          refine lv_sipush (v := (600:Int32)) C.1 C.2.1 dX12_make_36 (by decide) ?_
          refine lv_icmp_ne (tgt := 45) C.1 C.2.1 dX12_make_39 (by decide) (fun hc => ?_) (fun hc => ?_)
          · rw [if_neg hc] at h
            refine lv_aload_n C.1 C.2.1 dX12_make_45 rfl (lv_at hl 0 rfl) ?_
            refine lv_dup C.1 C.2.1 dX12_make_46 rfl ?_
            refine gf_13 C G dX12_make_47 ?_
            refine lv_iconst (v := (1:Int32)) C.1 C.2.1 dX12_make_50 (by decide) ?_
            refine lv_iadd C.1 C.2.1 dX12_make_51 ?_
            refine pf_13 C G dX12_make_52 (fun H locs G => ?_)
            refine rf_nm G h (fun ρ_17 G h => ?_)
            refine lv_aload_n C.1 C.2.1 dX12_make_55 rfl (lv_at hl 0 rfl) ?_
            refine lv_aload_n C.1 C.2.1 dX12_make_56 rfl (lv_at hl 0 rfl) ?_
            refine lv_iconst (v := (2:Int32)) C.1 C.2.1 dX12_make_57 (by decide) ?_
            refine lv_aload_n C.1 C.2.1 dX12_make_58 rfl (lv_at hl 0 rfl) ?_
            refine gf_13 C G dX12_make_59 ?_
            refine lv_iconst (v := (1:Int32)) C.1 C.2.1 dX12_make_62 (by decide) ?_
            refine lv_isub C.1 C.2.1 dX12_make_63 ?_
            refine lv_iconst (v := (0:Int32)) C.1 C.2.1 dX12_make_64 (by decide) ?_
            refine lv_iconst (v := (0:Int32)) C.1 C.2.1 dX12_make_65 (by decide) ?_
            obtain ⟨r_19, ρ_18, hq, h⟩ := bd2_some h
            refine rf_callV (rest := [.ref h0]) C G cw_term [.int (2:Int32), .int ((ρ_17.1 0 13) - (1:Int32)), .int (0:Int32), .int (0:Int32)] _ (kq_term l D h0 hq) (Nat.le_of_ble_eq_true rfl) (Nat.le_of_ble_eq_true rfl) rfl rfl hl.1 (Nat.le_of_ble_eq_true rfl) (Nat.zero_le _) (Nat.zero_le _) dX12_make_66 (fun H locs G => ?_)
            refine W.eq (g2 := F0 m 69 ls [.int r_19, .ref h0]) rfl ?_
            obtain ⟨r_21, ρ_20, hq, h⟩ := bd2_some h
            refine rf_callV (rest := []) C G cw_shows [.int r_19] _ (kq_shows l D h0 hq) (Nat.le_of_ble_eq_true rfl) (Nat.le_of_ble_eq_true rfl) rfl rfl hl.1 (Nat.le_of_ble_eq_true rfl) (Nat.zero_le _) (Nat.zero_le _) dX12_make_69 (fun H locs G => ?_)
            refine W.eq (g2 := F0 m 72 ls [.int r_21]) rfl ?_
            exact rf_iret C G h dX12_make_72
          · rw [if_pos hc] at h
            refine lv_bipush (v := (-4:Int32)) C.1 C.2.1 dX12_make_42 (by decide) ?_
            exact rf_iret C G h dX12_make_44
      · rw [if_neg hc] at h
        refine lv_bipush (v := (-2:Int32)) C.1 C.2.1 dX12_make_24 (by decide) ?_
        exact rf_iret C G h dX12_make_26
  · rw [if_pos hc] at h
    refine lv_aload_n C.1 C.2.1 dX12_make_4 rfl (lv_at hl 0 rfl) ?_
    refine lv_iconst (v := (0:Int32)) C.1 C.2.1 dX12_make_5 (by decide) ?_
    refine lv_iload_n C.1 C.2.1 dX12_make_6 rfl (lv_at hl 2 rfl) ?_
    refine lv_iconst (v := (0:Int32)) C.1 C.2.1 dX12_make_7 (by decide) ?_
    refine lv_iconst (v := (0:Int32)) C.1 C.2.1 dX12_make_8 (by decide) ?_
    obtain ⟨r_23, ρ_22, hq, h⟩ := bd2_some h
    refine rf_callV (rest := []) C G cw_makes [.int (0:Int32), .int x2, .int (0:Int32), .int (0:Int32)] _ (kq_makes l D h0 hq) (Nat.le_of_ble_eq_true rfl) (Nat.le_of_ble_eq_true rfl) rfl rfl hl.1 (Nat.le_of_ble_eq_true rfl) (Nat.zero_le _) (Nat.zero_le _) dX12_make_9 (fun H locs G => ?_)
    refine W.eq (g2 := F0 m 12 ls [.int r_23]) rfl ?_
    exact rf_iret C G h dX12_make_12
noncomputable def fq_make (x1 : Int32) (x2 : Int32) (x3 : Int32) (x4 : Int32) (ρ : rf_S) : Option (Int32 × rf_S) := bq_make_0 x1 x2 x3 x4 ρ
theorem kq_make (l : Launch) (D : rf_D) (h0 : Nat) {r : Int32} {x1 : Int32} {x2 : Int32} {x3 : Int32} {x4 : Int32} {ρ ρ' : rf_S} (h : fq_make x1 x2 x3 x4 ρ = some (r, ρ')) : rf_Met l D h0 yX12_make cX12_make 6 (some .int) 4 99 [.ref h0, .int x1, .int x2, .int x3, .int x4] ρ (some (.int r)) ρ' :=
  rf_of rfl cc_make (Nat.le_of_ble_eq_true rfl) (fun p e s m args below meth c ls C G hl => wq_make_0 C h G hl)
abbrev cX12_take : ByteArray := prog_14_method_112_code
def yX12_take : MethodName := ⟨RX12, "take", "(III)I"⟩
theorem dX12_take_0 : decode cX12_take 0 = .ok (.aload_n 0, 1) := by decide +kernel
theorem dX12_take_1 : decode cX12_take 1 = .ok (.iload_n 1, 1) := by decide +kernel
theorem dX12_take_2 : decode cX12_take 2 = .ok (.invokevirtual 684, 3) := by decide +kernel
theorem dX12_take_5 : decode cX12_take 5 = .ok (.ifCond .eq 16, 3) := by decide +kernel
theorem dX12_take_8 : decode cX12_take 8 = .ok (.iload_n 2, 1) := by decide +kernel
theorem dX12_take_9 : decode cX12_take 9 = .ok (.iconst 4, 1) := by decide +kernel
theorem dX12_take_10 : decode cX12_take 10 = .ok (.if_icmp .ne 13, 3) := by decide +kernel
theorem dX12_take_13 : decode cX12_take 13 = .ok (.aload_n 0, 1) := by decide +kernel
theorem dX12_take_14 : decode cX12_take 14 = .ok (.iload_n 3, 1) := by decide +kernel
theorem dX12_take_15 : decode cX12_take 15 = .ok (.invokevirtual 684, 3) := by decide +kernel
theorem dX12_take_18 : decode cX12_take 18 = .ok (.ifCond .ne 5, 3) := by decide +kernel
theorem dX12_take_21 : decode cX12_take 21 = .ok (.iconst (-1), 1) := by decide +kernel
theorem dX12_take_22 : decode cX12_take 22 = .ok (.ireturn, 1) := by decide +kernel
theorem dX12_take_23 : decode cX12_take 23 = .ok (.iload_n 2, 1) := by decide +kernel
theorem dX12_take_24 : decode cX12_take 24 = .ok (.ifCond .lt 8, 3) := by decide +kernel
theorem dX12_take_27 : decode cX12_take 27 = .ok (.iload_n 2, 1) := by decide +kernel
theorem dX12_take_28 : decode cX12_take 28 = .ok (.iconst 4, 1) := by decide +kernel
theorem dX12_take_29 : decode cX12_take 29 = .ok (.if_icmp .le 6, 3) := by decide +kernel
theorem dX12_take_32 : decode cX12_take 32 = .ok (.bipush (-2), 2) := by decide +kernel
theorem dX12_take_34 : decode cX12_take 34 = .ok (.ireturn, 1) := by decide +kernel
theorem dX12_take_35 : decode cX12_take 35 = .ok (.aload_n 0, 1) := by decide +kernel
theorem dX12_take_36 : decode cX12_take 36 = .ok (.iload_n 1, 1) := by decide +kernel
theorem dX12_take_37 : decode cX12_take 37 = .ok (.invokevirtual 693, 3) := by decide +kernel
theorem dX12_take_40 : decode cX12_take 40 = .ok (.istore 4, 2) := by decide +kernel
theorem dX12_take_42 : decode cX12_take 42 = .ok (.aload_n 0, 1) := by decide +kernel
theorem dX12_take_43 : decode cX12_take 43 = .ok (.getfield 8, 3) := by decide +kernel
theorem dX12_take_46 : decode cX12_take 46 = .ok (.iload 4, 2) := by decide +kernel
theorem dX12_take_48 : decode cX12_take 48 = .ok (.baload, 1) := by decide +kernel
theorem dX12_take_49 : decode cX12_take 49 = .ok (.istore 5, 2) := by decide +kernel
theorem dX12_take_51 : decode cX12_take 51 = .ok (.iload_n 2, 1) := by decide +kernel
theorem dX12_take_52 : decode cX12_take 52 = .ok (.iconst 2, 1) := by decide +kernel
theorem dX12_take_53 : decode cX12_take 53 = .ok (.if_icmp .ge 40, 3) := by decide +kernel
theorem dX12_take_56 : decode cX12_take 56 = .ok (.iload 5, 2) := by decide +kernel
theorem dX12_take_58 : decode cX12_take 58 = .ok (.iconst 3, 1) := by decide +kernel
theorem dX12_take_59 : decode cX12_take 59 = .ok (.if_icmp .ne 31, 3) := by decide +kernel
theorem dX12_take_62 : decode cX12_take 62 = .ok (.aload_n 0, 1) := by decide +kernel
theorem dX12_take_63 : decode cX12_take 63 = .ok (.iload_n 2, 1) := by decide +kernel
theorem dX12_take_64 : decode cX12_take 64 = .ok (.ifCond .ne 13, 3) := by decide +kernel
theorem dX12_take_67 : decode cX12_take 67 = .ok (.aload_n 0, 1) := by decide +kernel
theorem dX12_take_68 : decode cX12_take 68 = .ok (.getfield 14, 3) := by decide +kernel
theorem dX12_take_71 : decode cX12_take 71 = .ok (.iload 4, 2) := by decide +kernel
theorem dX12_take_73 : decode cX12_take 73 = .ok (.iaload, 1) := by decide +kernel
theorem dX12_take_74 : decode cX12_take 74 = .ok (.goto 10, 3) := by decide +kernel
theorem dX12_take_77 : decode cX12_take 77 = .ok (.aload_n 0, 1) := by decide +kernel
theorem dX12_take_78 : decode cX12_take 78 = .ok (.getfield 18, 3) := by decide +kernel
theorem dX12_take_81 : decode cX12_take 81 = .ok (.iload 4, 2) := by decide +kernel
theorem dX12_take_83 : decode cX12_take 83 = .ok (.iaload, 1) := by decide +kernel
theorem dX12_take_84 : decode cX12_take 84 = .ok (.invokevirtual 687, 3) := by decide +kernel
theorem dX12_take_87 : decode cX12_take 87 = .ok (.goto 5, 3) := by decide +kernel
theorem dX12_take_90 : decode cX12_take 90 = .ok (.bipush (-3), 2) := by decide +kernel
theorem dX12_take_92 : decode cX12_take 92 = .ok (.ireturn, 1) := by decide +kernel
theorem dX12_take_93 : decode cX12_take 93 = .ok (.iload_n 2, 1) := by decide +kernel
theorem dX12_take_94 : decode cX12_take 94 = .ok (.iconst 2, 1) := by decide +kernel
theorem dX12_take_95 : decode cX12_take 95 = .ok (.if_icmp .ne 27, 3) := by decide +kernel
theorem dX12_take_98 : decode cX12_take 98 = .ok (.iload 5, 2) := by decide +kernel
theorem dX12_take_100 : decode cX12_take 100 = .ok (.bipush 7, 2) := by decide +kernel
theorem dX12_take_102 : decode cX12_take 102 = .ok (.if_icmp .ne 17, 3) := by decide +kernel
theorem dX12_take_105 : decode cX12_take 105 = .ok (.aload_n 0, 1) := by decide +kernel
theorem dX12_take_106 : decode cX12_take 106 = .ok (.aload_n 0, 1) := by decide +kernel
theorem dX12_take_107 : decode cX12_take 107 = .ok (.getfield 18, 3) := by decide +kernel
theorem dX12_take_110 : decode cX12_take 110 = .ok (.iload 4, 2) := by decide +kernel
theorem dX12_take_112 : decode cX12_take 112 = .ok (.iaload, 1) := by decide +kernel
theorem dX12_take_113 : decode cX12_take 113 = .ok (.invokevirtual 687, 3) := by decide +kernel
theorem dX12_take_116 : decode cX12_take 116 = .ok (.goto 5, 3) := by decide +kernel
theorem dX12_take_119 : decode cX12_take 119 = .ok (.bipush (-3), 2) := by decide +kernel
theorem dX12_take_121 : decode cX12_take 121 = .ok (.ireturn, 1) := by decide +kernel
theorem dX12_take_122 : decode cX12_take 122 = .ok (.iload 5, 2) := by decide +kernel
theorem dX12_take_124 : decode cX12_take 124 = .ok (.bipush 8, 2) := by decide +kernel
theorem dX12_take_126 : decode cX12_take 126 = .ok (.if_icmp .ne 23, 3) := by decide +kernel
theorem dX12_take_129 : decode cX12_take 129 = .ok (.iload_n 2, 1) := by decide +kernel
theorem dX12_take_130 : decode cX12_take 130 = .ok (.iconst 4, 1) := by decide +kernel
theorem dX12_take_131 : decode cX12_take 131 = .ok (.if_icmp .ne 21, 3) := by decide +kernel
theorem dX12_take_134 : decode cX12_take 134 = .ok (.aload_n 0, 1) := by decide +kernel
theorem dX12_take_135 : decode cX12_take 135 = .ok (.getfield 14, 3) := by decide +kernel
theorem dX12_take_138 : decode cX12_take 138 = .ok (.iload 4, 2) := by decide +kernel
theorem dX12_take_140 : decode cX12_take 140 = .ok (.iaload, 1) := by decide +kernel
theorem dX12_take_141 : decode cX12_take 141 = .ok (.aload_n 0, 1) := by decide +kernel
theorem dX12_take_142 : decode cX12_take 142 = .ok (.iload_n 3, 1) := by decide +kernel
theorem dX12_take_143 : decode cX12_take 143 = .ok (.invokevirtual 693, 3) := by decide +kernel
theorem dX12_take_146 : decode cX12_take 146 = .ok (.if_icmp .eq 6, 3) := by decide +kernel
theorem dX12_take_149 : decode cX12_take 149 = .ok (.bipush (-3), 2) := by decide +kernel
theorem dX12_take_151 : decode cX12_take 151 = .ok (.ireturn, 1) := by decide +kernel
theorem dX12_take_152 : decode cX12_take 152 = .ok (.aload_n 0, 1) := by decide +kernel
theorem dX12_take_153 : decode cX12_take 153 = .ok (.iload_n 2, 1) := by decide +kernel
theorem dX12_take_154 : decode cX12_take 154 = .ok (.iconst 3, 1) := by decide +kernel
theorem dX12_take_155 : decode cX12_take 155 = .ok (.if_icmp .ne 13, 3) := by decide +kernel
theorem dX12_take_158 : decode cX12_take 158 = .ok (.aload_n 0, 1) := by decide +kernel
theorem dX12_take_159 : decode cX12_take 159 = .ok (.getfield 18, 3) := by decide +kernel
theorem dX12_take_162 : decode cX12_take 162 = .ok (.iload 4, 2) := by decide +kernel
theorem dX12_take_164 : decode cX12_take 164 = .ok (.iaload, 1) := by decide +kernel
theorem dX12_take_165 : decode cX12_take 165 = .ok (.goto 10, 3) := by decide +kernel
theorem dX12_take_168 : decode cX12_take 168 = .ok (.aload_n 0, 1) := by decide +kernel
theorem dX12_take_169 : decode cX12_take 169 = .ok (.getfield 21, 3) := by decide +kernel
theorem dX12_take_172 : decode cX12_take 172 = .ok (.iload 4, 2) := by decide +kernel
theorem dX12_take_174 : decode cX12_take 174 = .ok (.iaload, 1) := by decide +kernel
theorem dX12_take_175 : decode cX12_take 175 = .ok (.invokevirtual 687, 3) := by decide +kernel
theorem dX12_take_178 : decode cX12_take 178 = .ok (.ireturn, 1) := by decide +kernel
theorem cc_take : Cond.code yX12_take cX12_take 6 (some .int) ∈ rf_tb := rf_at 2299 (by decide +kernel) (by decide +kernel)
noncomputable def bq_take_152 (x2 : Int32) (x4 : Int32) (ρ : rf_S) : Option (Int32 × rf_S) := (if x2 = (3:Int32) then ix x4 112000 (bd2 (fq_shows (ρ.1 3 x4.toNatClampNeg) ρ) (fun r_9 ρ_8 => some (r_9, ρ_8))) else ix x4 112000 (bd2 (fq_shows (ρ.1 4 x4.toNatClampNeg) ρ) (fun r_7 ρ_6 => some (r_7, ρ_6))))
set_option maxHeartbeats 4000000 in
theorem wq_take_152 (C : rf_C D p s m args meth c cX12_take 6 (some .int)) {r : Int32} {x2 : Int32} {x4 : Int32} {ρ ρ' : rf_S} {H : Heap} {locs : List Loc} {ls : Array Slot} (h : bq_take_152 x2 x4 ρ = some (r, ρ')) (G : rf_G D h0 s ρ H locs) (hl : lv_has ls 6 [(0, .ref h0), (2, .int x2), (4, .int x4)]) : W p l e ({ frames := 2, cells := 0, slots := 0, locals := 43 }) s m args below meth c H locs 0 0 (MQ below (rf_Q D h0 (some (.int r)) ρ') args s 0 0 (rf_A h0)) (F0 m 152 ls []) := by
  unfold bq_take_152 at h
  refine lv_aload_n C.1 C.2.1 dX12_take_152 rfl (lv_at hl 0 rfl) ?_
  refine lv_iload_n C.1 C.2.1 dX12_take_153 rfl (lv_at hl 1 rfl) ?_
  refine lv_iconst (v := (3:Int32)) C.1 C.2.1 dX12_take_154 (by decide) ?_
  refine lv_icmp_ne (tgt := 168) C.1 C.2.1 dX12_take_155 (by decide) (fun hc => ?_) (fun hc => ?_)
  · rw [if_neg hc] at h
    refine lv_aload_n C.1 C.2.1 dX12_take_168 rfl (lv_at hl 0 rfl) ?_
    refine gf_3 C G dX12_take_169 ?_
    refine lv_iload C.1 C.2.1 dX12_take_172 (lv_at hl 2 rfl) ?_
    obtain ⟨hi, h⟩ := ix_some h
    refine rf_iald C G 4 rfl (by decide) rfl rfl hi dX12_take_174 ?_
    obtain ⟨r_7, ρ_6, hq, h⟩ := bd2_some h
    refine rf_callV (rest := []) C G cw_shows [.int (ρ.1 4 x4.toNatClampNeg)] _ (kq_shows l D h0 hq) (Nat.le_of_ble_eq_true rfl) (Nat.le_of_ble_eq_true rfl) rfl rfl hl.1 (Nat.le_of_ble_eq_true rfl) (Nat.zero_le _) (Nat.zero_le _) dX12_take_175 (fun H locs G => ?_)
    refine W.eq (g2 := F0 m 178 ls [.int r_7]) rfl ?_
    exact rf_iret C G h dX12_take_178
  · rw [if_pos hc] at h
    refine lv_aload_n C.1 C.2.1 dX12_take_158 rfl (lv_at hl 0 rfl) ?_
    refine gf_2 C G dX12_take_159 ?_
    refine lv_iload C.1 C.2.1 dX12_take_162 (lv_at hl 2 rfl) ?_
    obtain ⟨hi, h⟩ := ix_some h
    refine rf_iald C G 3 rfl (by decide) rfl rfl hi dX12_take_164 ?_
    refine lv_goto (tgt := 175) C.1 C.2.1 dX12_take_165 (by decide) ?_
    obtain ⟨r_9, ρ_8, hq, h⟩ := bd2_some h
    refine rf_callV (rest := []) C G cw_shows [.int (ρ.1 3 x4.toNatClampNeg)] _ (kq_shows l D h0 hq) (Nat.le_of_ble_eq_true rfl) (Nat.le_of_ble_eq_true rfl) rfl rfl hl.1 (Nat.le_of_ble_eq_true rfl) (Nat.zero_le _) (Nat.zero_le _) dX12_take_175 (fun H locs G => ?_)
    refine W.eq (g2 := F0 m 178 ls [.int r_9]) rfl ?_
    exact rf_iret C G h dX12_take_178
noncomputable def bq_take_84 (v1 : Int32) (ρ : rf_S) : Option (Int32 × rf_S) := bd2 (fq_shows v1 ρ) (fun r_15 ρ_14 => some (r_15, ρ_14))
set_option maxHeartbeats 4000000 in
theorem wq_take_84 (C : rf_C D p s m args meth c cX12_take 6 (some .int)) {r : Int32} {v1 : Int32} {ρ ρ' : rf_S} {H : Heap} {locs : List Loc} {ls : Array Slot} (h : bq_take_84 v1 ρ = some (r, ρ')) (G : rf_G D h0 s ρ H locs) (hl : lv_has ls 6 [(0, .ref h0)]) : W p l e ({ frames := 2, cells := 0, slots := 0, locals := 43 }) s m args below meth c H locs 0 0 (MQ below (rf_Q D h0 (some (.int r)) ρ') args s 0 0 (rf_A h0)) (F0 m 84 ls [.int v1, .ref h0]) := by
  unfold bq_take_84 at h
  obtain ⟨r_15, ρ_14, hq, h⟩ := bd2_some h
  refine rf_callV (rest := []) C G cw_shows [.int v1] _ (kq_shows l D h0 hq) (Nat.le_of_ble_eq_true rfl) (Nat.le_of_ble_eq_true rfl) rfl rfl hl.1 (Nat.le_of_ble_eq_true rfl) (Nat.zero_le _) (Nat.zero_le _) dX12_take_84 (fun H locs G => ?_)
  refine W.eq (g2 := F0 m 87 ls [.int r_15]) rfl ?_
  refine lv_goto (tgt := 92) C.1 C.2.1 dX12_take_87 (by decide) ?_
  exact rf_iret C G h dX12_take_92
noncomputable def bq_take_23 (x1 : Int32) (x2 : Int32) (x3 : Int32) (ρ : rf_S) : Option (Int32 × rf_S) := (if x2 < 0 then some ((-2:Int32), ρ) else (if x2 ≤ (4:Int32) then bd2 (fq_outsideAt x1 ρ) (fun r_4 ρ_3 => ix r_4 112000 (vl (ρ_3.1 1 r_4.toNatClampNeg) (fun x5_5 => (if (2:Int32) ≤ x2 then (if x2 = (2:Int32) then (if x5_5 = (7:Int32) then ix r_4 112000 (bd2 (fq_shows (ρ_3.1 3 r_4.toNatClampNeg) ρ_3) (fun r_13 ρ_12 => some (r_13, ρ_12))) else some ((-3:Int32), ρ_3)) else (if x5_5 = (8:Int32) then (if x2 = (4:Int32) then ix r_4 112000 (bd2 (fq_outsideAt x3 ρ_3) (fun r_11 ρ_10 => (if (ρ_3.1 2 r_4.toNatClampNeg) = r_11 then bq_take_152 x2 r_4 ρ_10 else some ((-3:Int32), ρ_10)))) else bq_take_152 x2 r_4 ρ_3) else some ((-3:Int32), ρ_3))) else (if x5_5 = (3:Int32) then (if x2 = 0 then ix r_4 112000 (bq_take_84 (ρ_3.1 2 r_4.toNatClampNeg) ρ_3) else ix r_4 112000 (bq_take_84 (ρ_3.1 3 r_4.toNatClampNeg) ρ_3)) else some ((-3:Int32), ρ_3)))))) else some ((-2:Int32), ρ)))
set_option maxHeartbeats 4000000 in
theorem wq_take_23 (C : rf_C D p s m args meth c cX12_take 6 (some .int)) {r : Int32} {x1 : Int32} {x2 : Int32} {x3 : Int32} {ρ ρ' : rf_S} {H : Heap} {locs : List Loc} {ls : Array Slot} (h : bq_take_23 x1 x2 x3 ρ = some (r, ρ')) (G : rf_G D h0 s ρ H locs) (hl : lv_has ls 6 [(0, .ref h0), (1, .int x1), (2, .int x2), (3, .int x3)]) : W p l e ({ frames := 2, cells := 0, slots := 0, locals := 43 }) s m args below meth c H locs 0 0 (MQ below (rf_Q D h0 (some (.int r)) ρ') args s 0 0 (rf_A h0)) (F0 m 23 ls []) := by
  unfold bq_take_23 at h
  refine lv_iload_n C.1 C.2.1 dX12_take_23 rfl (lv_at hl 2 rfl) ?_
  refine lv_if_lt (tgt := 32) C.1 C.2.1 dX12_take_24 (by decide) (fun hc => ?_) (fun hc => ?_)
  · rw [if_pos hc] at h
    refine lv_bipush (v := (-2:Int32)) C.1 C.2.1 dX12_take_32 (by decide) ?_
    exact rf_iret C G h dX12_take_34
  · rw [if_neg hc] at h
    refine lv_iload_n C.1 C.2.1 dX12_take_27 rfl (lv_at hl 2 rfl) ?_
    refine lv_iconst (v := (4:Int32)) C.1 C.2.1 dX12_take_28 (by decide) ?_
    refine lv_icmp_le (tgt := 35) C.1 C.2.1 dX12_take_29 (by decide) (fun hc => ?_) (fun hc => ?_)
    · rw [if_pos hc] at h
      refine lv_aload_n C.1 C.2.1 dX12_take_35 rfl (lv_at hl 0 rfl) ?_
      refine lv_iload_n C.1 C.2.1 dX12_take_36 rfl (lv_at hl 1 rfl) ?_
      obtain ⟨r_4, ρ_3, hq, h⟩ := bd2_some h
      refine rf_callV (rest := []) C G cw_outsideAt [.int x1] _ (kq_outsideAt l D h0 hq) (Nat.le_of_ble_eq_true rfl) (Nat.le_of_ble_eq_true rfl) rfl rfl hl.1 (Nat.le_of_ble_eq_true rfl) (Nat.zero_le _) (Nat.zero_le _) dX12_take_37 (fun H locs G => ?_)
      refine W.eq (g2 := F0 m 40 ls [.int r_4]) rfl ?_
      refine lv_istore (lv' := [(4, .int r_4), (0, .ref h0), (1, .int x1), (2, .int x2), (3, .int x3)]) C.1 C.2.1 dX12_take_40 hl (by decide) rfl (fun ls hl => ?_)
      refine lv_aload_n C.1 C.2.1 dX12_take_42 rfl (lv_at hl 1 rfl) ?_
      refine gf_0 C G dX12_take_43 ?_
      refine lv_iload C.1 C.2.1 dX12_take_46 (lv_at hl 0 rfl) ?_
      obtain ⟨hi, h⟩ := ix_some h
      refine rf_bald C G 1 rfl (by decide) rfl rfl hi dX12_take_48 ?_
      refine vt_i h (fun x5_5 h => ?_)
      refine lv_istore (lv' := [(5, .int x5_5), (4, .int r_4), (0, .ref h0), (1, .int x1), (2, .int x2), (3, .int x3)]) C.1 C.2.1 dX12_take_49 hl (by decide) rfl (fun ls hl => ?_)
      refine lv_iload_n C.1 C.2.1 dX12_take_51 rfl (lv_at hl 4 rfl) ?_
      refine lv_iconst (v := (2:Int32)) C.1 C.2.1 dX12_take_52 (by decide) ?_
      refine lv_icmp_ge (tgt := 93) C.1 C.2.1 dX12_take_53 (by decide) (fun hc => ?_) (fun hc => ?_)
      · rw [if_pos hc] at h
        refine lv_iload_n C.1 C.2.1 dX12_take_93 rfl (lv_at hl 4 rfl) ?_
        refine lv_iconst (v := (2:Int32)) C.1 C.2.1 dX12_take_94 (by decide) ?_
        refine lv_icmp_ne (tgt := 122) C.1 C.2.1 dX12_take_95 (by decide) (fun hc => ?_) (fun hc => ?_)
        · rw [if_neg hc] at h
          refine lv_iload C.1 C.2.1 dX12_take_122 (lv_at hl 0 rfl) ?_
          refine lv_bipush (v := (8:Int32)) C.1 C.2.1 dX12_take_124 (by decide) ?_
          refine lv_icmp_ne (tgt := 149) C.1 C.2.1 dX12_take_126 (by decide) (fun hc => ?_) (fun hc => ?_)
          · rw [if_neg hc] at h
            refine lv_bipush (v := (-3:Int32)) C.1 C.2.1 dX12_take_149 (by decide) ?_
            exact rf_iret C G h dX12_take_151
          · rw [if_pos hc] at h
            refine lv_iload_n C.1 C.2.1 dX12_take_129 rfl (lv_at hl 4 rfl) ?_
            refine lv_iconst (v := (4:Int32)) C.1 C.2.1 dX12_take_130 (by decide) ?_
            refine lv_icmp_ne (tgt := 152) C.1 C.2.1 dX12_take_131 (by decide) (fun hc => ?_) (fun hc => ?_)
            · rw [if_neg hc] at h
              exact wq_take_152 C h G (lv_sub hl [2, 4, 1] rfl)
            · rw [if_pos hc] at h
              refine lv_aload_n C.1 C.2.1 dX12_take_134 rfl (lv_at hl 2 rfl) ?_
              refine gf_1 C G dX12_take_135 ?_
              refine lv_iload C.1 C.2.1 dX12_take_138 (lv_at hl 1 rfl) ?_
              obtain ⟨hi, h⟩ := ix_some h
              refine rf_iald C G 2 rfl (by decide) rfl rfl hi dX12_take_140 ?_
              refine lv_aload_n C.1 C.2.1 dX12_take_141 rfl (lv_at hl 2 rfl) ?_
              refine lv_iload_n C.1 C.2.1 dX12_take_142 rfl (lv_at hl 5 rfl) ?_
              obtain ⟨r_11, ρ_10, hq, h⟩ := bd2_some h
              refine rf_callV (rest := [.int (ρ_3.1 2 r_4.toNatClampNeg)]) C G cw_outsideAt [.int x3] _ (kq_outsideAt l D h0 hq) (Nat.le_of_ble_eq_true rfl) (Nat.le_of_ble_eq_true rfl) rfl rfl hl.1 (Nat.le_of_ble_eq_true rfl) (Nat.zero_le _) (Nat.zero_le _) dX12_take_143 (fun H locs G => ?_)
              refine W.eq (g2 := F0 m 146 ls [.int r_11, .int (ρ_3.1 2 r_4.toNatClampNeg)]) rfl ?_
              refine lv_icmp_eq (tgt := 152) C.1 C.2.1 dX12_take_146 (by decide) (fun hc => ?_) (fun hc => ?_)
              · rw [if_pos hc] at h
                exact wq_take_152 C h G (lv_sub hl [2, 4, 1] rfl)
              · rw [if_neg hc] at h
                refine lv_bipush (v := (-3:Int32)) C.1 C.2.1 dX12_take_149 (by decide) ?_
                exact rf_iret C G h dX12_take_151
        · rw [if_pos hc] at h
          refine lv_iload C.1 C.2.1 dX12_take_98 (lv_at hl 0 rfl) ?_
          refine lv_bipush (v := (7:Int32)) C.1 C.2.1 dX12_take_100 (by decide) ?_
          refine lv_icmp_ne (tgt := 119) C.1 C.2.1 dX12_take_102 (by decide) (fun hc => ?_) (fun hc => ?_)
          · rw [if_neg hc] at h
            refine lv_bipush (v := (-3:Int32)) C.1 C.2.1 dX12_take_119 (by decide) ?_
            exact rf_iret C G h dX12_take_121
          · rw [if_pos hc] at h
            refine lv_aload_n C.1 C.2.1 dX12_take_105 rfl (lv_at hl 2 rfl) ?_
            refine lv_aload_n C.1 C.2.1 dX12_take_106 rfl (lv_at hl 2 rfl) ?_
            refine gf_2 C G dX12_take_107 ?_
            refine lv_iload C.1 C.2.1 dX12_take_110 (lv_at hl 1 rfl) ?_
            obtain ⟨hi, h⟩ := ix_some h
            refine rf_iald C G 3 rfl (by decide) rfl rfl hi dX12_take_112 ?_
            obtain ⟨r_13, ρ_12, hq, h⟩ := bd2_some h
            refine rf_callV (rest := []) C G cw_shows [.int (ρ_3.1 3 r_4.toNatClampNeg)] _ (kq_shows l D h0 hq) (Nat.le_of_ble_eq_true rfl) (Nat.le_of_ble_eq_true rfl) rfl rfl hl.1 (Nat.le_of_ble_eq_true rfl) (Nat.zero_le _) (Nat.zero_le _) dX12_take_113 (fun H locs G => ?_)
            refine W.eq (g2 := F0 m 116 ls [.int r_13]) rfl ?_
            refine lv_goto (tgt := 121) C.1 C.2.1 dX12_take_116 (by decide) ?_
            exact rf_iret C G h dX12_take_121
      · rw [if_neg hc] at h
        refine lv_iload C.1 C.2.1 dX12_take_56 (lv_at hl 0 rfl) ?_
        refine lv_iconst (v := (3:Int32)) C.1 C.2.1 dX12_take_58 (by decide) ?_
        refine lv_icmp_ne (tgt := 90) C.1 C.2.1 dX12_take_59 (by decide) (fun hc => ?_) (fun hc => ?_)
        · rw [if_neg hc] at h
          refine lv_bipush (v := (-3:Int32)) C.1 C.2.1 dX12_take_90 (by decide) ?_
          exact rf_iret C G h dX12_take_92
        · rw [if_pos hc] at h
          refine lv_aload_n C.1 C.2.1 dX12_take_62 rfl (lv_at hl 2 rfl) ?_
          refine lv_iload_n C.1 C.2.1 dX12_take_63 rfl (lv_at hl 4 rfl) ?_
          refine lv_if_ne (tgt := 77) C.1 C.2.1 dX12_take_64 (by decide) (fun hc => ?_) (fun hc => ?_)
          · rw [if_neg hc] at h
            refine lv_aload_n C.1 C.2.1 dX12_take_77 rfl (lv_at hl 2 rfl) ?_
            refine gf_2 C G dX12_take_78 ?_
            refine lv_iload C.1 C.2.1 dX12_take_81 (lv_at hl 1 rfl) ?_
            obtain ⟨hi, h⟩ := ix_some h
            refine rf_iald C G 3 rfl (by decide) rfl rfl hi dX12_take_83 ?_
            exact wq_take_84 C h G (lv_sub hl [2] rfl)
          · rw [if_pos hc] at h
            refine lv_aload_n C.1 C.2.1 dX12_take_67 rfl (lv_at hl 2 rfl) ?_
            refine gf_1 C G dX12_take_68 ?_
            refine lv_iload C.1 C.2.1 dX12_take_71 (lv_at hl 1 rfl) ?_
            obtain ⟨hi, h⟩ := ix_some h
            refine rf_iald C G 2 rfl (by decide) rfl rfl hi dX12_take_73 ?_
            refine lv_goto (tgt := 84) C.1 C.2.1 dX12_take_74 (by decide) ?_
            exact wq_take_84 C h G (lv_sub hl [2] rfl)
    · rw [if_neg hc] at h
      refine lv_bipush (v := (-2:Int32)) C.1 C.2.1 dX12_take_32 (by decide) ?_
      exact rf_iret C G h dX12_take_34
noncomputable def bq_take_0 (x1 : Int32) (x2 : Int32) (x3 : Int32) (ρ : rf_S) : Option (Int32 × rf_S) := bd2 (fq_isOutside x1 ρ) (fun r_2 ρ_1 => (if r_2 = 0 then some ((-1:Int32), ρ_1) else (if x2 = (4:Int32) then bd2 (fq_isOutside x3 ρ_1) (fun r_17 ρ_16 => (if r_17 = 0 then some ((-1:Int32), ρ_16) else bq_take_23 x1 x2 x3 ρ_16)) else bq_take_23 x1 x2 x3 ρ_1)))
set_option maxHeartbeats 4000000 in
theorem wq_take_0 (C : rf_C D p s m args meth c cX12_take 6 (some .int)) {r : Int32} {x1 : Int32} {x2 : Int32} {x3 : Int32} {ρ ρ' : rf_S} {H : Heap} {locs : List Loc} {ls : Array Slot} (h : bq_take_0 x1 x2 x3 ρ = some (r, ρ')) (G : rf_G D h0 s ρ H locs) (hl : lv_has ls 6 [(0, .ref h0), (1, .int x1), (2, .int x2), (3, .int x3)]) : W p l e ({ frames := 2, cells := 0, slots := 0, locals := 43 }) s m args below meth c H locs 0 0 (MQ below (rf_Q D h0 (some (.int r)) ρ') args s 0 0 (rf_A h0)) (F0 m 0 ls []) := by
  unfold bq_take_0 at h
  refine lv_aload_n C.1 C.2.1 dX12_take_0 rfl (lv_at hl 0 rfl) ?_
  refine lv_iload_n C.1 C.2.1 dX12_take_1 rfl (lv_at hl 1 rfl) ?_
  obtain ⟨r_2, ρ_1, hq, h⟩ := bd2_some h
  refine rf_callV (rest := []) C G cw_isOutside [.int x1] _ (kq_isOutside l D h0 hq) (Nat.le_of_ble_eq_true rfl) (Nat.le_of_ble_eq_true rfl) rfl rfl hl.1 (Nat.le_of_ble_eq_true rfl) (Nat.zero_le _) (Nat.zero_le _) dX12_take_2 (fun H locs G => ?_)
  refine W.eq (g2 := F0 m 5 ls [.int r_2]) rfl ?_
  refine lv_if_eq (tgt := 21) C.1 C.2.1 dX12_take_5 (by decide) (fun hc => ?_) (fun hc => ?_)
  · rw [if_pos hc] at h
    refine lv_iconst (v := (-1:Int32)) C.1 C.2.1 dX12_take_21 (by decide) ?_
    exact rf_iret C G h dX12_take_22
  · rw [if_neg hc] at h
    refine lv_iload_n C.1 C.2.1 dX12_take_8 rfl (lv_at hl 2 rfl) ?_
    refine lv_iconst (v := (4:Int32)) C.1 C.2.1 dX12_take_9 (by decide) ?_
    refine lv_icmp_ne (tgt := 23) C.1 C.2.1 dX12_take_10 (by decide) (fun hc => ?_) (fun hc => ?_)
    · rw [if_neg hc] at h
      exact wq_take_23 C h G (lv_sub hl [0, 1, 2, 3] rfl)
    · rw [if_pos hc] at h
      refine lv_aload_n C.1 C.2.1 dX12_take_13 rfl (lv_at hl 0 rfl) ?_
      refine lv_iload_n C.1 C.2.1 dX12_take_14 rfl (lv_at hl 3 rfl) ?_
      obtain ⟨r_17, ρ_16, hq, h⟩ := bd2_some h
      refine rf_callV (rest := []) C G cw_isOutside [.int x3] _ (kq_isOutside l D h0 hq) (Nat.le_of_ble_eq_true rfl) (Nat.le_of_ble_eq_true rfl) rfl rfl hl.1 (Nat.le_of_ble_eq_true rfl) (Nat.zero_le _) (Nat.zero_le _) dX12_take_15 (fun H locs G => ?_)
      refine W.eq (g2 := F0 m 18 ls [.int r_17]) rfl ?_
      refine lv_if_ne (tgt := 23) C.1 C.2.1 dX12_take_18 (by decide) (fun hc => ?_) (fun hc => ?_)
      · rw [if_neg hc] at h
        exact wq_take_23 C h G (lv_sub hl [0, 1, 2, 3] rfl)
      · rw [if_pos hc] at h
        refine lv_iconst (v := (-1:Int32)) C.1 C.2.1 dX12_take_21 (by decide) ?_
        exact rf_iret C G h dX12_take_22
noncomputable def fq_take (x1 : Int32) (x2 : Int32) (x3 : Int32) (ρ : rf_S) : Option (Int32 × rf_S) := bq_take_0 x1 x2 x3 ρ
theorem kq_take (l : Launch) (D : rf_D) (h0 : Nat) {r : Int32} {x1 : Int32} {x2 : Int32} {x3 : Int32} {ρ ρ' : rf_S} (h : fq_take x1 x2 x3 ρ = some (r, ρ')) : rf_Met l D h0 yX12_take cX12_take 6 (some .int) 2 43 [.ref h0, .int x1, .int x2, .int x3] ρ (some (.int r)) ρ' :=
  rf_of rfl cc_take (Nat.le_of_ble_eq_true rfl) (fun p e s m args below meth c ls C G hl => wq_take_0 C h G hl)
abbrev cX12_kind : ByteArray := prog_14_method_113_code
def yX12_kind : MethodName := ⟨RX12, "kind", "(I)I"⟩
theorem dX12_kind_0 : decode cX12_kind 0 = .ok (.aload_n 0, 1) := by decide +kernel
theorem dX12_kind_1 : decode cX12_kind 1 = .ok (.iload_n 1, 1) := by decide +kernel
theorem dX12_kind_2 : decode cX12_kind 2 = .ok (.invokevirtual 684, 3) := by decide +kernel
theorem dX12_kind_5 : decode cX12_kind 5 = .ok (.ifCond .eq 16, 3) := by decide +kernel
theorem dX12_kind_8 : decode cX12_kind 8 = .ok (.aload_n 0, 1) := by decide +kernel
theorem dX12_kind_9 : decode cX12_kind 9 = .ok (.getfield 8, 3) := by decide +kernel
theorem dX12_kind_12 : decode cX12_kind 12 = .ok (.aload_n 0, 1) := by decide +kernel
theorem dX12_kind_13 : decode cX12_kind 13 = .ok (.iload_n 1, 1) := by decide +kernel
theorem dX12_kind_14 : decode cX12_kind 14 = .ok (.invokevirtual 693, 3) := by decide +kernel
theorem dX12_kind_17 : decode cX12_kind 17 = .ok (.baload, 1) := by decide +kernel
theorem dX12_kind_18 : decode cX12_kind 18 = .ok (.goto 4, 3) := by decide +kernel
theorem dX12_kind_21 : decode cX12_kind 21 = .ok (.iconst (-1), 1) := by decide +kernel
theorem dX12_kind_22 : decode cX12_kind 22 = .ok (.ireturn, 1) := by decide +kernel
theorem cc_kind : Cond.code yX12_kind cX12_kind 2 (some .int) ∈ rf_tb := rf_at 2303 (by decide +kernel) (by decide +kernel)
noncomputable def bq_kind_0 (x1 : Int32) (ρ : rf_S) : Option (Int32 × rf_S) := bd2 (fq_isOutside x1 ρ) (fun r_2 ρ_1 => (if r_2 = 0 then some ((-1:Int32), ρ_1) else bd2 (fq_outsideAt x1 ρ_1) (fun r_4 ρ_3 => ix r_4 112000 (some ((ρ_3.1 1 r_4.toNatClampNeg), ρ_3)))))
set_option maxHeartbeats 4000000 in
theorem wq_kind_0 (C : rf_C D p s m args meth c cX12_kind 2 (some .int)) {r : Int32} {x1 : Int32} {ρ ρ' : rf_S} {H : Heap} {locs : List Loc} {ls : Array Slot} (h : bq_kind_0 x1 ρ = some (r, ρ')) (G : rf_G D h0 s ρ H locs) (hl : lv_has ls 2 [(0, .ref h0), (1, .int x1)]) : W p l e ({ frames := 1, cells := 0, slots := 0, locals := 21 }) s m args below meth c H locs 0 0 (MQ below (rf_Q D h0 (some (.int r)) ρ') args s 0 0 (rf_A h0)) (F0 m 0 ls []) := by
  unfold bq_kind_0 at h
  refine lv_aload_n C.1 C.2.1 dX12_kind_0 rfl (lv_at hl 0 rfl) ?_
  refine lv_iload_n C.1 C.2.1 dX12_kind_1 rfl (lv_at hl 1 rfl) ?_
  obtain ⟨r_2, ρ_1, hq, h⟩ := bd2_some h
  refine rf_callV (rest := []) C G cw_isOutside [.int x1] _ (kq_isOutside l D h0 hq) (Nat.le_of_ble_eq_true rfl) (Nat.le_of_ble_eq_true rfl) rfl rfl hl.1 (Nat.le_of_ble_eq_true rfl) (Nat.zero_le _) (Nat.zero_le _) dX12_kind_2 (fun H locs G => ?_)
  refine W.eq (g2 := F0 m 5 ls [.int r_2]) rfl ?_
  refine lv_if_eq (tgt := 21) C.1 C.2.1 dX12_kind_5 (by decide) (fun hc => ?_) (fun hc => ?_)
  · rw [if_pos hc] at h
    refine lv_iconst (v := (-1:Int32)) C.1 C.2.1 dX12_kind_21 (by decide) ?_
    exact rf_iret C G h dX12_kind_22
  · rw [if_neg hc] at h
    refine lv_aload_n C.1 C.2.1 dX12_kind_8 rfl (lv_at hl 0 rfl) ?_
    refine gf_0 C G dX12_kind_9 ?_
    refine lv_aload_n C.1 C.2.1 dX12_kind_12 rfl (lv_at hl 0 rfl) ?_
    refine lv_iload_n C.1 C.2.1 dX12_kind_13 rfl (lv_at hl 1 rfl) ?_
    obtain ⟨r_4, ρ_3, hq, h⟩ := bd2_some h
    refine rf_callV (rest := [.ref (h0 + 1)]) C G cw_outsideAt [.int x1] _ (kq_outsideAt l D h0 hq) (Nat.le_of_ble_eq_true rfl) (Nat.le_of_ble_eq_true rfl) rfl rfl hl.1 (Nat.le_of_ble_eq_true rfl) (Nat.zero_le _) (Nat.zero_le _) dX12_kind_14 (fun H locs G => ?_)
    refine W.eq (g2 := F0 m 17 ls [.int r_4, .ref (h0 + 1)]) rfl ?_
    obtain ⟨hi, h⟩ := ix_some h
    refine rf_bald C G 1 rfl (by decide) rfl rfl hi dX12_kind_17 ?_
    refine lv_goto (tgt := 22) C.1 C.2.1 dX12_kind_18 (by decide) ?_
    exact rf_iret C G h dX12_kind_22
noncomputable def fq_kind (x1 : Int32) (ρ : rf_S) : Option (Int32 × rf_S) := bq_kind_0 x1 ρ
theorem kq_kind (l : Launch) (D : rf_D) (h0 : Nat) {r : Int32} {x1 : Int32} {ρ ρ' : rf_S} (h : fq_kind x1 ρ = some (r, ρ')) : rf_Met l D h0 yX12_kind cX12_kind 2 (some .int) 1 21 [.ref h0, .int x1] ρ (some (.int r)) ρ' :=
  rf_of rfl cc_kind (Nat.le_of_ble_eq_true rfl) (fun p e s m args below meth c ls C G hl => wq_kind_0 C h G hl)
abbrev cX12_number : ByteArray := prog_14_method_114_code
def yX12_number : MethodName := ⟨RX12, "number", "(I)I"⟩
theorem dX12_number_0 : decode cX12_number 0 = .ok (.aload_n 0, 1) := by decide +kernel
theorem dX12_number_1 : decode cX12_number 1 = .ok (.iload_n 1, 1) := by decide +kernel
theorem dX12_number_2 : decode cX12_number 2 = .ok (.invokevirtual 684, 3) := by decide +kernel
theorem dX12_number_5 : decode cX12_number 5 = .ok (.ifCond .eq 29, 3) := by decide +kernel
theorem dX12_number_8 : decode cX12_number 8 = .ok (.aload_n 0, 1) := by decide +kernel
theorem dX12_number_9 : decode cX12_number 9 = .ok (.getfield 8, 3) := by decide +kernel
theorem dX12_number_12 : decode cX12_number 12 = .ok (.aload_n 0, 1) := by decide +kernel
theorem dX12_number_13 : decode cX12_number 13 = .ok (.iload_n 1, 1) := by decide +kernel
theorem dX12_number_14 : decode cX12_number 14 = .ok (.invokevirtual 693, 3) := by decide +kernel
theorem dX12_number_17 : decode cX12_number 17 = .ok (.baload, 1) := by decide +kernel
theorem dX12_number_18 : decode cX12_number 18 = .ok (.ifCond .ne 16, 3) := by decide +kernel
theorem dX12_number_21 : decode cX12_number 21 = .ok (.aload_n 0, 1) := by decide +kernel
theorem dX12_number_22 : decode cX12_number 22 = .ok (.getfield 14, 3) := by decide +kernel
theorem dX12_number_25 : decode cX12_number 25 = .ok (.aload_n 0, 1) := by decide +kernel
theorem dX12_number_26 : decode cX12_number 26 = .ok (.iload_n 1, 1) := by decide +kernel
theorem dX12_number_27 : decode cX12_number 27 = .ok (.invokevirtual 693, 3) := by decide +kernel
theorem dX12_number_30 : decode cX12_number 30 = .ok (.iaload, 1) := by decide +kernel
theorem dX12_number_31 : decode cX12_number 31 = .ok (.goto 4, 3) := by decide +kernel
theorem dX12_number_34 : decode cX12_number 34 = .ok (.iconst 0, 1) := by decide +kernel
theorem dX12_number_35 : decode cX12_number 35 = .ok (.ireturn, 1) := by decide +kernel
theorem cc_number : Cond.code yX12_number cX12_number 2 (some .int) ∈ rf_tb := rf_at 2307 (by decide +kernel) (by decide +kernel)
noncomputable def bq_number_0 (x1 : Int32) (ρ : rf_S) : Option (Int32 × rf_S) := bd2 (fq_isOutside x1 ρ) (fun r_2 ρ_1 => (if r_2 = 0 then some ((0:Int32), ρ_1) else bd2 (fq_outsideAt x1 ρ_1) (fun r_4 ρ_3 => ix r_4 112000 ((if (ρ_3.1 1 r_4.toNatClampNeg) = 0 then bd2 (fq_outsideAt x1 ρ_3) (fun r_6 ρ_5 => ix r_6 112000 (some ((ρ_5.1 2 r_6.toNatClampNeg), ρ_5))) else some ((0:Int32), ρ_3))))))
set_option maxHeartbeats 4000000 in
theorem wq_number_0 (C : rf_C D p s m args meth c cX12_number 2 (some .int)) {r : Int32} {x1 : Int32} {ρ ρ' : rf_S} {H : Heap} {locs : List Loc} {ls : Array Slot} (h : bq_number_0 x1 ρ = some (r, ρ')) (G : rf_G D h0 s ρ H locs) (hl : lv_has ls 2 [(0, .ref h0), (1, .int x1)]) : W p l e ({ frames := 1, cells := 0, slots := 0, locals := 21 }) s m args below meth c H locs 0 0 (MQ below (rf_Q D h0 (some (.int r)) ρ') args s 0 0 (rf_A h0)) (F0 m 0 ls []) := by
  unfold bq_number_0 at h
  refine lv_aload_n C.1 C.2.1 dX12_number_0 rfl (lv_at hl 0 rfl) ?_
  refine lv_iload_n C.1 C.2.1 dX12_number_1 rfl (lv_at hl 1 rfl) ?_
  obtain ⟨r_2, ρ_1, hq, h⟩ := bd2_some h
  refine rf_callV (rest := []) C G cw_isOutside [.int x1] _ (kq_isOutside l D h0 hq) (Nat.le_of_ble_eq_true rfl) (Nat.le_of_ble_eq_true rfl) rfl rfl hl.1 (Nat.le_of_ble_eq_true rfl) (Nat.zero_le _) (Nat.zero_le _) dX12_number_2 (fun H locs G => ?_)
  refine W.eq (g2 := F0 m 5 ls [.int r_2]) rfl ?_
  refine lv_if_eq (tgt := 34) C.1 C.2.1 dX12_number_5 (by decide) (fun hc => ?_) (fun hc => ?_)
  · rw [if_pos hc] at h
    refine lv_iconst (v := (0:Int32)) C.1 C.2.1 dX12_number_34 (by decide) ?_
    exact rf_iret C G h dX12_number_35
  · rw [if_neg hc] at h
    refine lv_aload_n C.1 C.2.1 dX12_number_8 rfl (lv_at hl 0 rfl) ?_
    refine gf_0 C G dX12_number_9 ?_
    refine lv_aload_n C.1 C.2.1 dX12_number_12 rfl (lv_at hl 0 rfl) ?_
    refine lv_iload_n C.1 C.2.1 dX12_number_13 rfl (lv_at hl 1 rfl) ?_
    obtain ⟨r_4, ρ_3, hq, h⟩ := bd2_some h
    refine rf_callV (rest := [.ref (h0 + 1)]) C G cw_outsideAt [.int x1] _ (kq_outsideAt l D h0 hq) (Nat.le_of_ble_eq_true rfl) (Nat.le_of_ble_eq_true rfl) rfl rfl hl.1 (Nat.le_of_ble_eq_true rfl) (Nat.zero_le _) (Nat.zero_le _) dX12_number_14 (fun H locs G => ?_)
    refine W.eq (g2 := F0 m 17 ls [.int r_4, .ref (h0 + 1)]) rfl ?_
    obtain ⟨hi, h⟩ := ix_some h
    refine rf_bald C G 1 rfl (by decide) rfl rfl hi dX12_number_17 ?_
    refine lv_if_ne (tgt := 34) C.1 C.2.1 dX12_number_18 (by decide) (fun hc => ?_) (fun hc => ?_)
    · rw [if_neg hc] at h
      refine lv_iconst (v := (0:Int32)) C.1 C.2.1 dX12_number_34 (by decide) ?_
      exact rf_iret C G h dX12_number_35
    · rw [if_pos hc] at h
      refine lv_aload_n C.1 C.2.1 dX12_number_21 rfl (lv_at hl 0 rfl) ?_
      refine gf_1 C G dX12_number_22 ?_
      refine lv_aload_n C.1 C.2.1 dX12_number_25 rfl (lv_at hl 0 rfl) ?_
      refine lv_iload_n C.1 C.2.1 dX12_number_26 rfl (lv_at hl 1 rfl) ?_
      obtain ⟨r_6, ρ_5, hq, h⟩ := bd2_some h
      refine rf_callV (rest := [.ref (h0 + 2)]) C G cw_outsideAt [.int x1] _ (kq_outsideAt l D h0 hq) (Nat.le_of_ble_eq_true rfl) (Nat.le_of_ble_eq_true rfl) rfl rfl hl.1 (Nat.le_of_ble_eq_true rfl) (Nat.zero_le _) (Nat.zero_le _) dX12_number_27 (fun H locs G => ?_)
      refine W.eq (g2 := F0 m 30 ls [.int r_6, .ref (h0 + 2)]) rfl ?_
      obtain ⟨hi, h⟩ := ix_some h
      refine rf_iald C G 2 rfl (by decide) rfl rfl hi dX12_number_30 ?_
      refine lv_goto (tgt := 35) C.1 C.2.1 dX12_number_31 (by decide) ?_
      exact rf_iret C G h dX12_number_35
noncomputable def fq_number (x1 : Int32) (ρ : rf_S) : Option (Int32 × rf_S) := bq_number_0 x1 ρ
theorem kq_number (l : Launch) (D : rf_D) (h0 : Nat) {r : Int32} {x1 : Int32} {ρ ρ' : rf_S} (h : fq_number x1 ρ = some (r, ρ')) : rf_Met l D h0 yX12_number cX12_number 2 (some .int) 1 21 [.ref h0, .int x1] ρ (some (.int r)) ρ' :=
  rf_of rfl cc_number (Nat.le_of_ble_eq_true rfl) (fun p e s m args below meth c ls C G hl => wq_number_0 C h G hl)
abbrev cX12_measure : ByteArray := prog_14_method_115_code
def yX12_measure : MethodName := ⟨RX12, "measure", "(I)I"⟩
theorem dX12_measure_0 : decode cX12_measure 0 = .ok (.iload_n 1, 1) := by decide +kernel
theorem dX12_measure_1 : decode cX12_measure 1 = .ok (.ifCond .lt 11, 3) := by decide +kernel
theorem dX12_measure_4 : decode cX12_measure 4 = .ok (.iload_n 1, 1) := by decide +kernel
theorem dX12_measure_5 : decode cX12_measure 5 = .ok (.aload_n 0, 1) := by decide +kernel
theorem dX12_measure_6 : decode cX12_measure 6 = .ok (.getfield 513, 3) := by decide +kernel
theorem dX12_measure_9 : decode cX12_measure 9 = .ok (.if_icmp .lt 7, 3) := by decide +kernel
theorem dX12_measure_12 : decode cX12_measure 12 = .ok (.iconst (-1), 1) := by decide +kernel
theorem dX12_measure_13 : decode cX12_measure 13 = .ok (.goto 13, 3) := by decide +kernel
theorem dX12_measure_16 : decode cX12_measure 16 = .ok (.aload_n 0, 1) := by decide +kernel
theorem dX12_measure_17 : decode cX12_measure 17 = .ok (.aload_n 0, 1) := by decide +kernel
theorem dX12_measure_18 : decode cX12_measure 18 = .ok (.getfield 140, 3) := by decide +kernel
theorem dX12_measure_21 : decode cX12_measure 21 = .ok (.iload_n 1, 1) := by decide +kernel
theorem dX12_measure_22 : decode cX12_measure 22 = .ok (.iaload, 1) := by decide +kernel
theorem dX12_measure_23 : decode cX12_measure 23 = .ok (.invokevirtual 687, 3) := by decide +kernel
theorem dX12_measure_26 : decode cX12_measure 26 = .ok (.ireturn, 1) := by decide +kernel
theorem cc_measure : Cond.code yX12_measure cX12_measure 2 (some .int) ∈ rf_tb := rf_at 2311 (by decide +kernel) (by decide +kernel)
noncomputable def bq_measure_0 (x1 : Int32) (ρ : rf_S) : Option (Int32 × rf_S) := (if x1 < 0 then some ((-1:Int32), ρ) else (if x1 < (ρ.1 0 55) then ix x1 8 (bd2 (fq_shows (ρ.1 39 x1.toNatClampNeg) ρ) (fun r_2 ρ_1 => some (r_2, ρ_1))) else some ((-1:Int32), ρ)))
set_option maxHeartbeats 4000000 in
theorem wq_measure_0 (C : rf_C D p s m args meth c cX12_measure 2 (some .int)) {r : Int32} {x1 : Int32} {ρ ρ' : rf_S} {H : Heap} {locs : List Loc} {ls : Array Slot} (h : bq_measure_0 x1 ρ = some (r, ρ')) (G : rf_G D h0 s ρ H locs) (hl : lv_has ls 2 [(0, .ref h0), (1, .int x1)]) : W p l e ({ frames := 2, cells := 0, slots := 0, locals := 43 }) s m args below meth c H locs 0 0 (MQ below (rf_Q D h0 (some (.int r)) ρ') args s 0 0 (rf_A h0)) (F0 m 0 ls []) := by
  unfold bq_measure_0 at h
  refine lv_iload_n C.1 C.2.1 dX12_measure_0 rfl (lv_at hl 1 rfl) ?_
  refine lv_if_lt (tgt := 12) C.1 C.2.1 dX12_measure_1 (by decide) (fun hc => ?_) (fun hc => ?_)
  · rw [if_pos hc] at h
    refine lv_iconst (v := (-1:Int32)) C.1 C.2.1 dX12_measure_12 (by decide) ?_
    refine lv_goto (tgt := 26) C.1 C.2.1 dX12_measure_13 (by decide) ?_
    exact rf_iret C G h dX12_measure_26
  · rw [if_neg hc] at h
    refine lv_iload_n C.1 C.2.1 dX12_measure_4 rfl (lv_at hl 1 rfl) ?_
    refine lv_aload_n C.1 C.2.1 dX12_measure_5 rfl (lv_at hl 0 rfl) ?_
    refine gf_55 C G dX12_measure_6 ?_
    refine lv_icmp_lt (tgt := 16) C.1 C.2.1 dX12_measure_9 (by decide) (fun hc => ?_) (fun hc => ?_)
    · rw [if_pos hc] at h
      refine lv_aload_n C.1 C.2.1 dX12_measure_16 rfl (lv_at hl 0 rfl) ?_
      refine lv_aload_n C.1 C.2.1 dX12_measure_17 rfl (lv_at hl 0 rfl) ?_
      refine gf_69 C G dX12_measure_18 ?_
      refine lv_iload_n C.1 C.2.1 dX12_measure_21 rfl (lv_at hl 1 rfl) ?_
      obtain ⟨hi, h⟩ := ix_some h
      refine rf_iald C G 39 rfl (by decide) rfl rfl hi dX12_measure_22 ?_
      obtain ⟨r_2, ρ_1, hq, h⟩ := bd2_some h
      refine rf_callV (rest := []) C G cw_shows [.int (ρ.1 39 x1.toNatClampNeg)] _ (kq_shows l D h0 hq) (Nat.le_of_ble_eq_true rfl) (Nat.le_of_ble_eq_true rfl) rfl rfl hl.1 (Nat.le_of_ble_eq_true rfl) (Nat.zero_le _) (Nat.zero_le _) dX12_measure_23 (fun H locs G => ?_)
      refine W.eq (g2 := F0 m 26 ls [.int r_2]) rfl ?_
      exact rf_iret C G h dX12_measure_26
    · rw [if_neg hc] at h
      refine lv_iconst (v := (-1:Int32)) C.1 C.2.1 dX12_measure_12 (by decide) ?_
      refine lv_goto (tgt := 26) C.1 C.2.1 dX12_measure_13 (by decide) ?_
      exact rf_iret C G h dX12_measure_26
noncomputable def fq_measure (x1 : Int32) (ρ : rf_S) : Option (Int32 × rf_S) := bq_measure_0 x1 ρ
theorem kq_measure (l : Launch) (D : rf_D) (h0 : Nat) {r : Int32} {x1 : Int32} {ρ ρ' : rf_S} (h : fq_measure x1 ρ = some (r, ρ')) : rf_Met l D h0 yX12_measure cX12_measure 2 (some .int) 2 43 [.ref h0, .int x1] ρ (some (.int r)) ρ' :=
  rf_of rfl cc_measure (Nat.le_of_ble_eq_true rfl) (fun p e s m args below meth c ls C G hl => wq_measure_0 C h G hl)
end RQ15
