section RQZ
variable {p : Program} {l : Launch} {e : Env} {s : State} {m : MethodId} {args : Array Value} {below : List Frame} {meth : Method} {c : Code} {D : rf_D} {h0 : Nat} {E : Heap × Nat × Nat}
abbrev cX12_show : ByteArray := prog_14_method_45_code
def yX12_show : MethodName := ⟨RX12, "show", "(I)I"⟩
theorem dX12_show_0 : decode cX12_show 0 = .ok (.aload_n 0, 1) := by decide +kernel
theorem dX12_show_1 : decode cX12_show 1 = .ok (.iconst 0, 1) := by decide +kernel
theorem dX12_show_2 : decode cX12_show 2 = .ok (.putfield 459, 3) := by decide +kernel
theorem dX12_show_5 : decode cX12_show 5 = .ok (.iload_n 1, 1) := by decide +kernel
theorem dX12_show_6 : decode cX12_show 6 = .ok (.invokestatic 471, 3) := by decide +kernel
theorem dX12_show_9 : decode cX12_show 9 = .ok (.ifCond .eq 10, 3) := by decide +kernel
theorem dX12_show_12 : decode cX12_show 12 = .ok (.iload_n 1, 1) := by decide +kernel
theorem dX12_show_13 : decode cX12_show 13 = .ok (.bipush 26, 2) := by decide +kernel
theorem dX12_show_15 : decode cX12_show 15 = .ok (.iushr, 1) := by decide +kernel
theorem dX12_show_16 : decode cX12_show 16 = .ok (.goto 5, 3) := by decide +kernel
theorem dX12_show_19 : decode cX12_show 19 = .ok (.bipush 40, 2) := by decide +kernel
theorem dX12_show_21 : decode cX12_show 21 = .ok (.istore_n 2, 1) := by decide +kernel
theorem dX12_show_22 : decode cX12_show 22 = .ok (.aload_n 0, 1) := by decide +kernel
theorem dX12_show_23 : decode cX12_show 23 = .ok (.getfield 62, 3) := by decide +kernel
theorem dX12_show_26 : decode cX12_show 26 = .ok (.iload_n 2, 1) := by decide +kernel
theorem dX12_show_27 : decode cX12_show 27 = .ok (.iaload, 1) := by decide +kernel
theorem dX12_show_28 : decode cX12_show 28 = .ok (.istore_n 3, 1) := by decide +kernel
theorem dX12_show_29 : decode cX12_show 29 = .ok (.iload_n 3, 1) := by decide +kernel
theorem dX12_show_30 : decode cX12_show 30 = .ok (.aload_n 0, 1) := by decide +kernel
theorem dX12_show_31 : decode cX12_show 31 = .ok (.getfield 65, 3) := by decide +kernel
theorem dX12_show_34 : decode cX12_show 34 = .ok (.iload_n 2, 1) := by decide +kernel
theorem dX12_show_35 : decode cX12_show 35 = .ok (.iaload, 1) := by decide +kernel
theorem dX12_show_36 : decode cX12_show 36 = .ok (.if_icmp .ge 20, 3) := by decide +kernel
theorem dX12_show_39 : decode cX12_show 39 = .ok (.aload_n 0, 1) := by decide +kernel
theorem dX12_show_40 : decode cX12_show 40 = .ok (.ldc_w 263, 3) := by decide +kernel
theorem dX12_show_43 : decode cX12_show 43 = .ok (.iload_n 3, 1) := by decide +kernel
theorem dX12_show_44 : decode cX12_show 44 = .ok (.invokevirtual 265, 3) := by decide +kernel
theorem dX12_show_47 : decode cX12_show 47 = .ok (.invokevirtual 462, 3) := by decide +kernel
theorem dX12_show_50 : decode cX12_show 50 = .ok (.iinc 3 1, 3) := by decide +kernel
theorem dX12_show_53 : decode cX12_show 53 = .ok (.goto (-24), 3) := by decide +kernel
theorem dX12_show_56 : decode cX12_show 56 = .ok (.iload_n 2, 1) := by decide +kernel
theorem dX12_show_57 : decode cX12_show 57 = .ok (.bipush 39, 2) := by decide +kernel
theorem dX12_show_59 : decode cX12_show 59 = .ok (.if_icmp .ne 8, 3) := by decide +kernel
theorem dX12_show_62 : decode cX12_show 62 = .ok (.aload_n 0, 1) := by decide +kernel
theorem dX12_show_63 : decode cX12_show 63 = .ok (.getfield 459, 3) := by decide +kernel
theorem dX12_show_66 : decode cX12_show 66 = .ok (.ireturn, 1) := by decide +kernel
theorem dX12_show_67 : decode cX12_show 67 = .ok (.aload_n 0, 1) := by decide +kernel
theorem dX12_show_68 : decode cX12_show 68 = .ok (.bipush 32, 2) := by decide +kernel
theorem dX12_show_70 : decode cX12_show 70 = .ok (.invokevirtual 462, 3) := by decide +kernel
theorem dX12_show_73 : decode cX12_show 73 = .ok (.iload_n 2, 1) := by decide +kernel
theorem dX12_show_74 : decode cX12_show 74 = .ok (.bipush 40, 2) := by decide +kernel
theorem dX12_show_76 : decode cX12_show 76 = .ok (.if_icmp .ne 12, 3) := by decide +kernel
theorem dX12_show_79 : decode cX12_show 79 = .ok (.aload_n 0, 1) := by decide +kernel
theorem dX12_show_80 : decode cX12_show 80 = .ok (.iload_n 1, 1) := by decide +kernel
theorem dX12_show_81 : decode cX12_show 81 = .ok (.i2l, 1) := by decide +kernel
theorem dX12_show_82 : decode cX12_show 82 = .ok (.invokevirtual 467, 3) := by decide +kernel
theorem dX12_show_85 : decode cX12_show 85 = .ok (.goto 112, 3) := by decide +kernel
theorem dX12_show_88 : decode cX12_show 88 = .ok (.iload_n 2, 1) := by decide +kernel
theorem dX12_show_89 : decode cX12_show 89 = .ok (.bipush 38, 2) := by decide +kernel
theorem dX12_show_91 : decode cX12_show 91 = .ok (.if_icmp .ne 15, 3) := by decide +kernel
theorem dX12_show_94 : decode cX12_show 94 = .ok (.aload_n 0, 1) := by decide +kernel
theorem dX12_show_95 : decode cX12_show 95 = .ok (.iload_n 1, 1) := by decide +kernel
theorem dX12_show_96 : decode cX12_show 96 = .ok (.invokestatic 474, 3) := by decide +kernel
theorem dX12_show_99 : decode cX12_show 99 = .ok (.i2l, 1) := by decide +kernel
theorem dX12_show_100 : decode cX12_show 100 = .ok (.invokevirtual 467, 3) := by decide +kernel
theorem dX12_show_103 : decode cX12_show 103 = .ok (.goto 94, 3) := by decide +kernel
theorem dX12_show_106 : decode cX12_show 106 = .ok (.aload_n 0, 1) := by decide +kernel
theorem dX12_show_107 : decode cX12_show 107 = .ok (.iload_n 1, 1) := by decide +kernel
theorem dX12_show_108 : decode cX12_show 108 = .ok (.bipush 22, 2) := by decide +kernel
theorem dX12_show_110 : decode cX12_show 110 = .ok (.iushr, 1) := by decide +kernel
theorem dX12_show_111 : decode cX12_show 111 = .ok (.bipush 15, 2) := by decide +kernel
theorem dX12_show_113 : decode cX12_show 113 = .ok (.iand, 1) := by decide +kernel
theorem dX12_show_114 : decode cX12_show 114 = .ok (.iconst 1, 1) := by decide +kernel
theorem dX12_show_115 : decode cX12_show 115 = .ok (.invokevirtual 477, 3) := by decide +kernel
theorem dX12_show_118 : decode cX12_show 118 = .ok (.iload_n 2, 1) := by decide +kernel
theorem dX12_show_119 : decode cX12_show 119 = .ok (.bipush 21, 2) := by decide +kernel
theorem dX12_show_121 : decode cX12_show 121 = .ok (.if_icmp .ne 16, 3) := by decide +kernel
theorem dX12_show_124 : decode cX12_show 124 = .ok (.aload_n 0, 1) := by decide +kernel
theorem dX12_show_125 : decode cX12_show 125 = .ok (.iload_n 1, 1) := by decide +kernel
theorem dX12_show_126 : decode cX12_show 126 = .ok (.ldc_w 445, 3) := by decide +kernel
theorem dX12_show_129 : decode cX12_show 129 = .ok (.iand, 1) := by decide +kernel
theorem dX12_show_130 : decode cX12_show 130 = .ok (.i2l, 1) := by decide +kernel
theorem dX12_show_131 : decode cX12_show 131 = .ok (.invokevirtual 467, 3) := by decide +kernel
theorem dX12_show_134 : decode cX12_show 134 = .ok (.goto 63, 3) := by decide +kernel
theorem dX12_show_137 : decode cX12_show 137 = .ok (.iload_n 2, 1) := by decide +kernel
theorem dX12_show_138 : decode cX12_show 138 = .ok (.bipush 12, 2) := by decide +kernel
theorem dX12_show_140 : decode cX12_show 140 = .ok (.if_icmp .ge 30, 3) := by decide +kernel
theorem dX12_show_143 : decode cX12_show 143 = .ok (.aload_n 0, 1) := by decide +kernel
theorem dX12_show_144 : decode cX12_show 144 = .ok (.iload_n 1, 1) := by decide +kernel
theorem dX12_show_145 : decode cX12_show 145 = .ok (.bipush 18, 2) := by decide +kernel
theorem dX12_show_147 : decode cX12_show 147 = .ok (.iushr, 1) := by decide +kernel
theorem dX12_show_148 : decode cX12_show 148 = .ok (.bipush 15, 2) := by decide +kernel
theorem dX12_show_150 : decode cX12_show 150 = .ok (.iand, 1) := by decide +kernel
theorem dX12_show_151 : decode cX12_show 151 = .ok (.iconst 1, 1) := by decide +kernel
theorem dX12_show_152 : decode cX12_show 152 = .ok (.invokevirtual 477, 3) := by decide +kernel
theorem dX12_show_155 : decode cX12_show 155 = .ok (.aload_n 0, 1) := by decide +kernel
theorem dX12_show_156 : decode cX12_show 156 = .ok (.iload_n 1, 1) := by decide +kernel
theorem dX12_show_157 : decode cX12_show 157 = .ok (.bipush 14, 2) := by decide +kernel
theorem dX12_show_159 : decode cX12_show 159 = .ok (.iushr, 1) := by decide +kernel
theorem dX12_show_160 : decode cX12_show 160 = .ok (.bipush 15, 2) := by decide +kernel
theorem dX12_show_162 : decode cX12_show 162 = .ok (.iand, 1) := by decide +kernel
theorem dX12_show_163 : decode cX12_show 163 = .ok (.iconst 0, 1) := by decide +kernel
theorem dX12_show_164 : decode cX12_show 164 = .ok (.invokevirtual 477, 3) := by decide +kernel
theorem dX12_show_167 : decode cX12_show 167 = .ok (.goto 30, 3) := by decide +kernel
theorem dX12_show_170 : decode cX12_show 170 = .ok (.iload_n 2, 1) := by decide +kernel
theorem dX12_show_171 : decode cX12_show 171 = .ok (.bipush 36, 2) := by decide +kernel
theorem dX12_show_173 : decode cX12_show 173 = .ok (.if_icmp .eq 15, 3) := by decide +kernel
theorem dX12_show_176 : decode cX12_show 176 = .ok (.aload_n 0, 1) := by decide +kernel
theorem dX12_show_177 : decode cX12_show 177 = .ok (.iload_n 1, 1) := by decide +kernel
theorem dX12_show_178 : decode cX12_show 178 = .ok (.bipush 18, 2) := by decide +kernel
theorem dX12_show_180 : decode cX12_show 180 = .ok (.iushr, 1) := by decide +kernel
theorem dX12_show_181 : decode cX12_show 181 = .ok (.bipush 15, 2) := by decide +kernel
theorem dX12_show_183 : decode cX12_show 183 = .ok (.iand, 1) := by decide +kernel
theorem dX12_show_184 : decode cX12_show 184 = .ok (.iconst 1, 1) := by decide +kernel
theorem dX12_show_185 : decode cX12_show 185 = .ok (.invokevirtual 477, 3) := by decide +kernel
theorem dX12_show_188 : decode cX12_show 188 = .ok (.aload_n 0, 1) := by decide +kernel
theorem dX12_show_189 : decode cX12_show 189 = .ok (.iload_n 1, 1) := by decide +kernel
theorem dX12_show_190 : decode cX12_show 190 = .ok (.invokestatic 474, 3) := by decide +kernel
theorem dX12_show_193 : decode cX12_show 193 = .ok (.i2l, 1) := by decide +kernel
theorem dX12_show_194 : decode cX12_show 194 = .ok (.invokevirtual 467, 3) := by decide +kernel
theorem dX12_show_197 : decode cX12_show 197 = .ok (.aload_n 0, 1) := by decide +kernel
theorem dX12_show_198 : decode cX12_show 198 = .ok (.getfield 459, 3) := by decide +kernel
theorem dX12_show_201 : decode cX12_show 201 = .ok (.ireturn, 1) := by decide +kernel
theorem cc_show : Cond.code yX12_show cX12_show 4 (some .int) ∈ rf_tb := rf_at 2005 (by decide +kernel) (by decide +kernel)
noncomputable def lq_show_29 (x1 : Int32) (x2 : Int32) (x3 : Int32) (ρ : rf_S) : Option ((Int32 × rf_S) ⊕ (Int32 × rf_S)) := ix x2 42 ((if (ρ.1 15 x2.toNatClampNeg) ≤ x3 then some (.inr (x3, ρ)) else ix x3 188 (vl (rn_tab.getD x3.toNatClampNeg 0) (fun x_5 => bd1 (fq_put8 x_5 ρ) (fun ρ_6 => vl (x3 + (1:Int32)) (fun x3_7 => some (.inl (x3_7, ρ_6))))))))
noncomputable def bq_show_188 (x1 : Int32) (ρ : rf_S) : Option (Int32 × rf_S) := bd2 (fq_signed x1 ρ) (fun r_11 ρ_10 => bd1 (fq_putFigures (r_11.toInt64) ρ_10) (fun ρ_12 => some ((ρ_12.1 0 43), ρ_12)))
set_option maxHeartbeats 4000000 in
theorem wq_show_188 (C : rf_C D p s m args meth c cX12_show 4 (some .int)) {r : Int32} {x1 : Int32} {ρ ρ' : rf_S} {H : Heap} {locs : List Loc} {ls : Array Slot} (Z : rf_Zs E h0 s) (h : bq_show_188 x1 ρ = some (r, ρ')) (G : rf_G D h0 s ρ H locs) (hl : lv_has ls 4 [(0, .ref h0), (1, .int x1)]) : W p l e ({ frames := 4, cells := 0, slots := 0, locals := 85 }) s m args below meth c H locs 0 0 (MQ below (rf_Q D h0 (some (.int r)) ρ') args s 0 0 (rf_A h0)) (F0 m 188 ls []) := by
  unfold bq_show_188 at h
  refine lv_aload_n C.1 C.2.1 dX12_show_188 rfl (lv_at hl 0 rfl) ?_
  refine lv_iload_n C.1 C.2.1 dX12_show_189 rfl (lv_at hl 1 rfl) ?_
  obtain ⟨r_11, ρ_10, hq, h⟩ := bd2_some h
  refine rf_callS (rest := [.ref h0]) C G cw_signed [.int x1] _ (kq_signed l D h0 hq) (Nat.le_of_ble_eq_true rfl) (Nat.le_of_ble_eq_true rfl) rfl rfl hl.1 (Nat.le_of_ble_eq_true rfl) (Nat.zero_le _) (Nat.zero_le _) dX12_show_190 (fun H locs G => ?_)
  refine W.eq (g2 := F0 m 193 ls [.int r_11, .ref h0]) rfl ?_
  refine lv_i2l C.1 C.2.1 dX12_show_193 rfl ?_
  obtain ⟨ρ_12, hq, h⟩ := bd1_some h
  refine rf_callV (rest := []) C G cw_putFigures [.long r_11.toInt64] _ (kq_putFigures l D h0 hq) (Nat.le_of_ble_eq_true rfl) (Nat.le_of_ble_eq_true rfl) rfl rfl hl.1 (Nat.le_of_ble_eq_true rfl) (Nat.zero_le _) (Nat.zero_le _) dX12_show_194 (fun H locs G => ?_)
  refine W.eq (g2 := F0 m 197 ls []) rfl ?_
  refine lv_aload_n C.1 C.2.1 dX12_show_197 rfl (lv_at hl 0 rfl) ?_
  refine gf_43 C G dX12_show_198 ?_
  exact rf_iret C G h dX12_show_201
noncomputable def eq_show_29 (x1 : Int32) (x2 : Int32) (x3 : Int32) (ρ : rf_S) : Option (Int32 × rf_S) := (if x2 = (39:Int32) then some ((ρ.1 0 43), ρ) else bd1 (fq_put8 (32:Int32) ρ) (fun ρ_8 => (if x2 = (40:Int32) then bd1 (fq_putFigures (x1.toInt64) ρ_8) (fun ρ_20 => some ((ρ_20.1 0 43), ρ_20)) else (if x2 = (38:Int32) then bd2 (fq_signed x1 ρ_8) (fun r_18 ρ_17 => bd1 (fq_putFigures (r_18.toInt64) ρ_17) (fun ρ_19 => some ((ρ_19.1 0 43), ρ_19))) else bd1 (fq_putRegister (((x1.toUInt32 >>> ((22:Int32).toUInt32 &&& Int32.toUInt32 31)).toInt32) &&& (15:Int32)) (1:Int32) ρ_8) (fun ρ_9 => (if x2 = (21:Int32) then bd1 (fq_putFigures ((x1 &&& (262143:Int32)).toInt64) ρ_9) (fun ρ_16 => some ((ρ_16.1 0 43), ρ_16)) else (if (12:Int32) ≤ x2 then (if x2 = (36:Int32) then bq_show_188 x1 ρ_9 else bd1 (fq_putRegister (((x1.toUInt32 >>> ((18:Int32).toUInt32 &&& Int32.toUInt32 31)).toInt32) &&& (15:Int32)) (1:Int32) ρ_9) (fun ρ_13 => bq_show_188 x1 ρ_13)) else bd1 (fq_putRegister (((x1.toUInt32 >>> ((18:Int32).toUInt32 &&& Int32.toUInt32 31)).toInt32) &&& (15:Int32)) (1:Int32) ρ_9) (fun ρ_14 => bd1 (fq_putRegister (((x1.toUInt32 >>> ((14:Int32).toUInt32 &&& Int32.toUInt32 31)).toInt32) &&& (15:Int32)) (0:Int32) ρ_14) (fun ρ_15 => some ((ρ_15.1 0 43), ρ_15))))))))))
noncomputable def bq_show_29 (x1 : Int32) (x2 : Int32) (x3 : Int32) (ρ : rf_S) : Option (Int32 × rf_S) := (lp (fun z : (Int32 × rf_S) => lq_show_29 x1 x2 z.1 z.2) (x3, ρ)).bind (fun z => eq_show_29 x1 x2 z.1 z.2)
set_option maxHeartbeats 4000000 in
theorem wq_show_29 (C : rf_C D p s m args meth c cX12_show 4 (some .int)) {r : Int32} {x1 : Int32} {x2 : Int32} {x3 : Int32} {ρ ρ' : rf_S} {H : Heap} {locs : List Loc} {ls : Array Slot} (Z : rf_Zs E h0 s) (h : bq_show_29 x1 x2 x3 ρ = some (r, ρ')) (G : rf_G D h0 s ρ H locs) (hl : lv_has ls 4 [(0, .ref h0), (1, .int x1), (2, .int x2), (3, .int x3)]) : W p l e ({ frames := 4, cells := 0, slots := 0, locals := 85 }) s m args below meth c H locs 0 0 (MQ below (rf_Q D h0 (some (.int r)) ρ') args s 0 0 (rf_A h0)) (F0 m 29 ls []) := by
  unfold bq_show_29 at h
  obtain ⟨y, hy, h⟩ := bd_some h
  have hE : (fun z : (Int32 × rf_S) => ∀ (H : Heap) (locs : List Loc) (ls : Array Slot), rf_G D h0 s z.2 H locs → lv_has ls 4 [(0, .ref h0), (1, .int x1), (2, .int x2), (3, .int z.1)] → W p l e ({ frames := 4, cells := 0, slots := 0, locals := 85 }) s m args below meth c H locs 0 0 (MQ below (rf_Q D h0 (some (.int r)) ρ') args s 0 0 (rf_A h0)) (F0 m 56 ls [])) y := by
    intro H locs ls G hl
    obtain ⟨x3, ρ⟩ := y
    dsimp only at h G hl
    unfold eq_show_29 at h
    refine lv_iload_n C.1 C.2.1 dX12_show_56 rfl (lv_at hl 2 rfl) ?_
    refine lv_bipush (v := (39:Int32)) C.1 C.2.1 dX12_show_57 (by decide) ?_
    refine lv_icmp_ne (tgt := 67) C.1 C.2.1 dX12_show_59 (by decide) (fun hc => ?_) (fun hc => ?_)
    · rw [if_neg hc] at h
      refine lv_aload_n C.1 C.2.1 dX12_show_67 rfl (lv_at hl 0 rfl) ?_
      refine lv_bipush (v := (32:Int32)) C.1 C.2.1 dX12_show_68 (by decide) ?_
      obtain ⟨ρ_8, hq, h⟩ := bd1_some h
      refine rf_callV (rest := []) C G cw_put8 [.int (32:Int32)] _ (kq_put8 l D h0 hq) (Nat.le_of_ble_eq_true rfl) (Nat.le_of_ble_eq_true rfl) rfl rfl hl.1 (Nat.le_of_ble_eq_true rfl) (Nat.zero_le _) (Nat.zero_le _) dX12_show_70 (fun H locs G => ?_)
      refine W.eq (g2 := F0 m 73 ls []) rfl ?_
      refine lv_iload_n C.1 C.2.1 dX12_show_73 rfl (lv_at hl 2 rfl) ?_
      refine lv_bipush (v := (40:Int32)) C.1 C.2.1 dX12_show_74 (by decide) ?_
      refine lv_icmp_ne (tgt := 88) C.1 C.2.1 dX12_show_76 (by decide) (fun hc => ?_) (fun hc => ?_)
      · rw [if_neg hc] at h
        refine lv_iload_n C.1 C.2.1 dX12_show_88 rfl (lv_at hl 2 rfl) ?_
        refine lv_bipush (v := (38:Int32)) C.1 C.2.1 dX12_show_89 (by decide) ?_
        refine lv_icmp_ne (tgt := 106) C.1 C.2.1 dX12_show_91 (by decide) (fun hc => ?_) (fun hc => ?_)
        · rw [if_neg hc] at h
          refine lv_aload_n C.1 C.2.1 dX12_show_106 rfl (lv_at hl 0 rfl) ?_
          refine lv_iload_n C.1 C.2.1 dX12_show_107 rfl (lv_at hl 1 rfl) ?_
          refine lv_bipush (v := (22:Int32)) C.1 C.2.1 dX12_show_108 (by decide) ?_
          refine lv_iushr C.1 C.2.1 dX12_show_110 rfl ?_
          refine lv_bipush (v := (15:Int32)) C.1 C.2.1 dX12_show_111 (by decide) ?_
          refine lv_iand C.1 C.2.1 dX12_show_113 ?_
          refine lv_iconst (v := (1:Int32)) C.1 C.2.1 dX12_show_114 (by decide) ?_
          obtain ⟨ρ_9, hq, h⟩ := bd1_some h
          refine rf_callV (rest := []) C G cw_putRegister [.int (((x1.toUInt32 >>> ((22:Int32).toUInt32 &&& Int32.toUInt32 31)).toInt32) &&& (15:Int32)), .int (1:Int32)] _ (kq_putRegister l D h0 hq) (Nat.le_of_ble_eq_true rfl) (Nat.le_of_ble_eq_true rfl) rfl rfl hl.1 (Nat.le_of_ble_eq_true rfl) (Nat.zero_le _) (Nat.zero_le _) dX12_show_115 (fun H locs G => ?_)
          refine W.eq (g2 := F0 m 118 ls []) rfl ?_
          refine lv_iload_n C.1 C.2.1 dX12_show_118 rfl (lv_at hl 2 rfl) ?_
          refine lv_bipush (v := (21:Int32)) C.1 C.2.1 dX12_show_119 (by decide) ?_
          refine lv_icmp_ne (tgt := 137) C.1 C.2.1 dX12_show_121 (by decide) (fun hc => ?_) (fun hc => ?_)
          · rw [if_neg hc] at h
            refine lv_iload_n C.1 C.2.1 dX12_show_137 rfl (lv_at hl 2 rfl) ?_
            refine lv_bipush (v := (12:Int32)) C.1 C.2.1 dX12_show_138 (by decide) ?_
            refine lv_icmp_ge (tgt := 170) C.1 C.2.1 dX12_show_140 (by decide) (fun hc => ?_) (fun hc => ?_)
            · rw [if_pos hc] at h
              refine lv_iload_n C.1 C.2.1 dX12_show_170 rfl (lv_at hl 2 rfl) ?_
              refine lv_bipush (v := (36:Int32)) C.1 C.2.1 dX12_show_171 (by decide) ?_
              refine lv_icmp_eq (tgt := 188) C.1 C.2.1 dX12_show_173 (by decide) (fun hc => ?_) (fun hc => ?_)
              · rw [if_pos hc] at h
                exact wq_show_188 C Z h G (lv_sub hl [0, 1] rfl)
              · rw [if_neg hc] at h
                refine lv_aload_n C.1 C.2.1 dX12_show_176 rfl (lv_at hl 0 rfl) ?_
                refine lv_iload_n C.1 C.2.1 dX12_show_177 rfl (lv_at hl 1 rfl) ?_
                refine lv_bipush (v := (18:Int32)) C.1 C.2.1 dX12_show_178 (by decide) ?_
                refine lv_iushr C.1 C.2.1 dX12_show_180 rfl ?_
                refine lv_bipush (v := (15:Int32)) C.1 C.2.1 dX12_show_181 (by decide) ?_
                refine lv_iand C.1 C.2.1 dX12_show_183 ?_
                refine lv_iconst (v := (1:Int32)) C.1 C.2.1 dX12_show_184 (by decide) ?_
                obtain ⟨ρ_13, hq, h⟩ := bd1_some h
                refine rf_callV (rest := []) C G cw_putRegister [.int (((x1.toUInt32 >>> ((18:Int32).toUInt32 &&& Int32.toUInt32 31)).toInt32) &&& (15:Int32)), .int (1:Int32)] _ (kq_putRegister l D h0 hq) (Nat.le_of_ble_eq_true rfl) (Nat.le_of_ble_eq_true rfl) rfl rfl hl.1 (Nat.le_of_ble_eq_true rfl) (Nat.zero_le _) (Nat.zero_le _) dX12_show_185 (fun H locs G => ?_)
                refine W.eq (g2 := F0 m 188 ls []) rfl ?_
                exact wq_show_188 C Z h G (lv_sub hl [0, 1] rfl)
            · rw [if_neg hc] at h
              refine lv_aload_n C.1 C.2.1 dX12_show_143 rfl (lv_at hl 0 rfl) ?_
              refine lv_iload_n C.1 C.2.1 dX12_show_144 rfl (lv_at hl 1 rfl) ?_
              refine lv_bipush (v := (18:Int32)) C.1 C.2.1 dX12_show_145 (by decide) ?_
              refine lv_iushr C.1 C.2.1 dX12_show_147 rfl ?_
              refine lv_bipush (v := (15:Int32)) C.1 C.2.1 dX12_show_148 (by decide) ?_
              refine lv_iand C.1 C.2.1 dX12_show_150 ?_
              refine lv_iconst (v := (1:Int32)) C.1 C.2.1 dX12_show_151 (by decide) ?_
              obtain ⟨ρ_14, hq, h⟩ := bd1_some h
              refine rf_callV (rest := []) C G cw_putRegister [.int (((x1.toUInt32 >>> ((18:Int32).toUInt32 &&& Int32.toUInt32 31)).toInt32) &&& (15:Int32)), .int (1:Int32)] _ (kq_putRegister l D h0 hq) (Nat.le_of_ble_eq_true rfl) (Nat.le_of_ble_eq_true rfl) rfl rfl hl.1 (Nat.le_of_ble_eq_true rfl) (Nat.zero_le _) (Nat.zero_le _) dX12_show_152 (fun H locs G => ?_)
              refine W.eq (g2 := F0 m 155 ls []) rfl ?_
              refine lv_aload_n C.1 C.2.1 dX12_show_155 rfl (lv_at hl 0 rfl) ?_
              refine lv_iload_n C.1 C.2.1 dX12_show_156 rfl (lv_at hl 1 rfl) ?_
              refine lv_bipush (v := (14:Int32)) C.1 C.2.1 dX12_show_157 (by decide) ?_
              refine lv_iushr C.1 C.2.1 dX12_show_159 rfl ?_
              refine lv_bipush (v := (15:Int32)) C.1 C.2.1 dX12_show_160 (by decide) ?_
              refine lv_iand C.1 C.2.1 dX12_show_162 ?_
              refine lv_iconst (v := (0:Int32)) C.1 C.2.1 dX12_show_163 (by decide) ?_
              obtain ⟨ρ_15, hq, h⟩ := bd1_some h
              refine rf_callV (rest := []) C G cw_putRegister [.int (((x1.toUInt32 >>> ((14:Int32).toUInt32 &&& Int32.toUInt32 31)).toInt32) &&& (15:Int32)), .int (0:Int32)] _ (kq_putRegister l D h0 hq) (Nat.le_of_ble_eq_true rfl) (Nat.le_of_ble_eq_true rfl) rfl rfl hl.1 (Nat.le_of_ble_eq_true rfl) (Nat.zero_le _) (Nat.zero_le _) dX12_show_164 (fun H locs G => ?_)
              refine W.eq (g2 := F0 m 167 ls []) rfl ?_
              refine lv_goto (tgt := 197) C.1 C.2.1 dX12_show_167 (by decide) ?_
              refine lv_aload_n C.1 C.2.1 dX12_show_197 rfl (lv_at hl 0 rfl) ?_
              refine gf_43 C G dX12_show_198 ?_
              exact rf_iret C G h dX12_show_201
          · rw [if_pos hc] at h
            refine lv_aload_n C.1 C.2.1 dX12_show_124 rfl (lv_at hl 0 rfl) ?_
            refine lv_iload_n C.1 C.2.1 dX12_show_125 rfl (lv_at hl 1 rfl) ?_
            refine lv_ldcw (v := (262143:Int32)) C.1 C.2.1 C.2.2.2.1 (C.2.2.2.2.1 _ kc_445) dX12_show_126 ?_
            refine lv_iand C.1 C.2.1 dX12_show_129 ?_
            refine lv_i2l C.1 C.2.1 dX12_show_130 rfl ?_
            obtain ⟨ρ_16, hq, h⟩ := bd1_some h
            refine rf_callV (rest := []) C G cw_putFigures [.long (x1 &&& (262143:Int32)).toInt64] _ (kq_putFigures l D h0 hq) (Nat.le_of_ble_eq_true rfl) (Nat.le_of_ble_eq_true rfl) rfl rfl hl.1 (Nat.le_of_ble_eq_true rfl) (Nat.zero_le _) (Nat.zero_le _) dX12_show_131 (fun H locs G => ?_)
            refine W.eq (g2 := F0 m 134 ls []) rfl ?_
            refine lv_goto (tgt := 197) C.1 C.2.1 dX12_show_134 (by decide) ?_
            refine lv_aload_n C.1 C.2.1 dX12_show_197 rfl (lv_at hl 0 rfl) ?_
            refine gf_43 C G dX12_show_198 ?_
            exact rf_iret C G h dX12_show_201
        · rw [if_pos hc] at h
          refine lv_aload_n C.1 C.2.1 dX12_show_94 rfl (lv_at hl 0 rfl) ?_
          refine lv_iload_n C.1 C.2.1 dX12_show_95 rfl (lv_at hl 1 rfl) ?_
          obtain ⟨r_18, ρ_17, hq, h⟩ := bd2_some h
          refine rf_callS (rest := [.ref h0]) C G cw_signed [.int x1] _ (kq_signed l D h0 hq) (Nat.le_of_ble_eq_true rfl) (Nat.le_of_ble_eq_true rfl) rfl rfl hl.1 (Nat.le_of_ble_eq_true rfl) (Nat.zero_le _) (Nat.zero_le _) dX12_show_96 (fun H locs G => ?_)
          refine W.eq (g2 := F0 m 99 ls [.int r_18, .ref h0]) rfl ?_
          refine lv_i2l C.1 C.2.1 dX12_show_99 rfl ?_
          obtain ⟨ρ_19, hq, h⟩ := bd1_some h
          refine rf_callV (rest := []) C G cw_putFigures [.long r_18.toInt64] _ (kq_putFigures l D h0 hq) (Nat.le_of_ble_eq_true rfl) (Nat.le_of_ble_eq_true rfl) rfl rfl hl.1 (Nat.le_of_ble_eq_true rfl) (Nat.zero_le _) (Nat.zero_le _) dX12_show_100 (fun H locs G => ?_)
          refine W.eq (g2 := F0 m 103 ls []) rfl ?_
          refine lv_goto (tgt := 197) C.1 C.2.1 dX12_show_103 (by decide) ?_
          refine lv_aload_n C.1 C.2.1 dX12_show_197 rfl (lv_at hl 0 rfl) ?_
          refine gf_43 C G dX12_show_198 ?_
          exact rf_iret C G h dX12_show_201
      · rw [if_pos hc] at h
        refine lv_aload_n C.1 C.2.1 dX12_show_79 rfl (lv_at hl 0 rfl) ?_
        refine lv_iload_n C.1 C.2.1 dX12_show_80 rfl (lv_at hl 1 rfl) ?_
        refine lv_i2l C.1 C.2.1 dX12_show_81 rfl ?_
        obtain ⟨ρ_20, hq, h⟩ := bd1_some h
        refine rf_callV (rest := []) C G cw_putFigures [.long x1.toInt64] _ (kq_putFigures l D h0 hq) (Nat.le_of_ble_eq_true rfl) (Nat.le_of_ble_eq_true rfl) rfl rfl hl.1 (Nat.le_of_ble_eq_true rfl) (Nat.zero_le _) (Nat.zero_le _) dX12_show_82 (fun H locs G => ?_)
        refine W.eq (g2 := F0 m 85 ls []) rfl ?_
        refine lv_goto (tgt := 197) C.1 C.2.1 dX12_show_85 (by decide) ?_
        refine lv_aload_n C.1 C.2.1 dX12_show_197 rfl (lv_at hl 0 rfl) ?_
        refine gf_43 C G dX12_show_198 ?_
        exact rf_iret C G h dX12_show_201
    · rw [if_pos hc] at h
      refine lv_aload_n C.1 C.2.1 dX12_show_62 rfl (lv_at hl 0 rfl) ?_
      refine gf_43 C G dX12_show_63 ?_
      exact rf_iret C G h dX12_show_66
  refine lp_recE (fun z : (Int32 × rf_S) => ∀ (H : Heap) (locs : List Loc) (ls : Array Slot), rf_G D h0 s z.2 H locs → lv_has ls 4 [(0, .ref h0), (1, .int x1), (2, .int x2), (3, .int z.1)] → W p l e ({ frames := 4, cells := 0, slots := 0, locals := 85 }) s m args below meth c H locs 0 0 (MQ below (rf_Q D h0 (some (.int r)) ρ') args s 0 0 (rf_A h0)) (F0 m 29 ls [])) (fun z : (Int32 × rf_S) => ∀ (H : Heap) (locs : List Loc) (ls : Array Slot), rf_G D h0 s z.2 H locs → lv_has ls 4 [(0, .ref h0), (1, .int x1), (2, .int x2), (3, .int z.1)] → W p l e ({ frames := 4, cells := 0, slots := 0, locals := 85 }) s m args below meth c H locs 0 0 (MQ below (rf_Q D h0 (some (.int r)) ρ') args s 0 0 (rf_A h0)) (F0 m 56 ls [])) ?_ _ _ hy hE _ _ _ G hl
  clear hE hy G hl h
  intro z o h hP H locs ls G hl
  obtain ⟨x3, ρ⟩ := z
  dsimp only at h G hl
  unfold lq_show_29 at h
  refine lv_iload_n C.1 C.2.1 dX12_show_29 rfl (lv_at hl 3 rfl) ?_
  refine lv_aload_n C.1 C.2.1 dX12_show_30 rfl (lv_at hl 0 rfl) ?_
  refine gf_24 C G dX12_show_31 ?_
  refine lv_iload_n C.1 C.2.1 dX12_show_34 rfl (lv_at hl 2 rfl) ?_
  obtain ⟨hi, h⟩ := ix_some h
  refine rf_iald C G 15 rfl (by decide) rfl rfl hi dX12_show_35 ?_
  refine lv_icmp_ge (tgt := 56) C.1 C.2.1 dX12_show_36 (by decide) (fun hc => ?_) (fun hc => ?_)
  · rw [if_pos hc] at h
    cases h
    exact hP _ _ _ G (lv_sub hl [0, 1, 2, 3] rfl)
  · rw [if_neg hc] at h
    refine lv_aload_n C.1 C.2.1 dX12_show_39 rfl (lv_at hl 0 rfl) ?_
    refine lv_ldcSW C.1 C.2.1 C.2.2.2.1 Z.2.2.2 dX12_show_40 ?_
    refine lv_iload_n C.1 C.2.1 dX12_show_43 rfl (lv_at hl 3 rfl) ?_
    obtain ⟨hi, h⟩ := ix_some h
    refine rf_callJ (rest := [.ref h0]) C G Z jl_X12_265 jim_J0_charAt_5068e cc_J0_charAt_5068e ji_0 jse_J0_charAt_5068e (n := 1) (by decide +kernel) [.int x3] _ (rf_charAt hi) (Nat.le_of_ble_eq_true rfl) (Nat.le_of_ble_eq_true rfl) rfl rfl hl.1 (Nat.le_of_ble_eq_true rfl) (Nat.le_of_ble_eq_true rfl) (Nat.le_of_ble_eq_true rfl) dX12_show_44 ?_
    refine vt_i h (fun x_5 h => ?_)
    refine W.eq (g2 := F0 m 47 ls [.int x_5, .ref h0]) rfl ?_
    obtain ⟨ρ_6, hq, h⟩ := bd1_some h
    refine rf_callV (rest := []) C G cw_put8 [.int x_5] _ (kq_put8 l D h0 hq) (Nat.le_of_ble_eq_true rfl) (Nat.le_of_ble_eq_true rfl) rfl rfl hl.1 (Nat.le_of_ble_eq_true rfl) (Nat.zero_le _) (Nat.zero_le _) dX12_show_47 (fun H locs G => ?_)
    refine W.eq (g2 := F0 m 50 ls []) rfl ?_
    refine vl_ex h (fun x3_7 ey h => ?_)
    refine lv_iinc (v := x3_7) (lv' := [(3, .int x3_7), (0, .ref h0), (1, .int x1), (2, .int x2)]) C.1 C.2.1 dX12_show_50 hl (k := 3) rfl (by rw [ey]; rfl) (by decide) rfl (fun ls hl => ?_)
    refine lv_goto (tgt := 29) C.1 C.2.1 dX12_show_53 (by decide) ?_
    cases h
    exact hP _ _ _ G (lv_sub hl [1, 2, 3, 0] rfl)
noncomputable def bq_show_21 (x1 : Int32) (v0 : Int32) (ρ : rf_S) : Option (Int32 × rf_S) := ix v0 42 (vl (ρ.1 14 v0.toNatClampNeg) (fun x3_4 => bq_show_29 x1 v0 x3_4 ρ))
set_option maxHeartbeats 4000000 in
theorem wq_show_21 (C : rf_C D p s m args meth c cX12_show 4 (some .int)) {r : Int32} {x1 : Int32} {v0 : Int32} {ρ ρ' : rf_S} {H : Heap} {locs : List Loc} {ls : Array Slot} (Z : rf_Zs E h0 s) (h : bq_show_21 x1 v0 ρ = some (r, ρ')) (G : rf_G D h0 s ρ H locs) (hl : lv_has ls 4 [(0, .ref h0), (1, .int x1)]) : W p l e ({ frames := 4, cells := 0, slots := 0, locals := 85 }) s m args below meth c H locs 0 0 (MQ below (rf_Q D h0 (some (.int r)) ρ') args s 0 0 (rf_A h0)) (F0 m 21 ls [.int v0]) := by
  unfold bq_show_21 at h
  refine lv_istore_n (lv' := [(2, .int v0), (0, .ref h0), (1, .int x1)]) C.1 C.2.1 dX12_show_21 rfl hl (by decide) rfl (fun ls hl => ?_)
  refine lv_aload_n C.1 C.2.1 dX12_show_22 rfl (lv_at hl 1 rfl) ?_
  refine gf_23 C G dX12_show_23 ?_
  refine lv_iload_n C.1 C.2.1 dX12_show_26 rfl (lv_at hl 0 rfl) ?_
  obtain ⟨hi, h⟩ := ix_some h
  refine rf_iald C G 14 rfl (by decide) rfl rfl hi dX12_show_27 ?_
  refine vt_i h (fun x3_4 h => ?_)
  refine lv_istore_n (lv' := [(3, .int x3_4), (2, .int v0), (0, .ref h0), (1, .int x1)]) C.1 C.2.1 dX12_show_28 rfl hl (by decide) rfl (fun ls hl => ?_)
  exact wq_show_29 C Z h G (lv_sub hl [2, 3, 1, 0] rfl)
noncomputable def bq_show_0 (x1 : Int32) (ρ : rf_S) : Option (Int32 × rf_S) := vl (rf_w ρ 0 43 (0:Int32)) (fun ρ_1 => bd2 (fq_isStatement x1 ρ_1) (fun r_3 ρ_2 => (if r_3 = 0 then bq_show_21 x1 (40:Int32) ρ_2 else bq_show_21 x1 ((x1.toUInt32 >>> ((26:Int32).toUInt32 &&& Int32.toUInt32 31)).toInt32) ρ_2)))
set_option maxHeartbeats 4000000 in
theorem wq_show_0 (C : rf_C D p s m args meth c cX12_show 4 (some .int)) {r : Int32} {x1 : Int32} {ρ ρ' : rf_S} {H : Heap} {locs : List Loc} {ls : Array Slot} (Z : rf_Zs E h0 s) (h : bq_show_0 x1 ρ = some (r, ρ')) (G : rf_G D h0 s ρ H locs) (hl : lv_has ls 4 [(0, .ref h0), (1, .int x1)]) : W p l e ({ frames := 4, cells := 0, slots := 0, locals := 85 }) s m args below meth c H locs 0 0 (MQ below (rf_Q D h0 (some (.int r)) ρ') args s 0 0 (rf_A h0)) (F0 m 0 ls []) := by
  unfold bq_show_0 at h
  refine lv_aload_n C.1 C.2.1 dX12_show_0 rfl (lv_at hl 0 rfl) ?_
  refine lv_iconst (v := (0:Int32)) C.1 C.2.1 dX12_show_1 (by decide) ?_
  refine pf_43 C G dX12_show_2 (fun H locs G => ?_)
  refine rf_nm G h (fun ρ_1 G h => ?_)
  refine lv_iload_n C.1 C.2.1 dX12_show_5 rfl (lv_at hl 1 rfl) ?_
  obtain ⟨r_3, ρ_2, hq, h⟩ := bd2_some h
  refine rf_callS (rest := []) C G cw_isStatement [.int x1] _ (kq_isStatement l D h0 hq) (Nat.le_of_ble_eq_true rfl) (Nat.le_of_ble_eq_true rfl) rfl rfl hl.1 (Nat.le_of_ble_eq_true rfl) (Nat.zero_le _) (Nat.zero_le _) dX12_show_6 (fun H locs G => ?_)
  refine W.eq (g2 := F0 m 9 ls [.int r_3]) rfl ?_
  refine lv_if_eq (tgt := 19) C.1 C.2.1 dX12_show_9 (by decide) (fun hc => ?_) (fun hc => ?_)
  · rw [if_pos hc] at h
    refine lv_bipush (v := (40:Int32)) C.1 C.2.1 dX12_show_19 (by decide) ?_
    exact wq_show_21 C Z h G (lv_sub hl [0, 1] rfl)
  · rw [if_neg hc] at h
    refine lv_iload_n C.1 C.2.1 dX12_show_12 rfl (lv_at hl 1 rfl) ?_
    refine lv_bipush (v := (26:Int32)) C.1 C.2.1 dX12_show_13 (by decide) ?_
    refine lv_iushr C.1 C.2.1 dX12_show_15 rfl ?_
    refine lv_goto (tgt := 21) C.1 C.2.1 dX12_show_16 (by decide) ?_
    exact wq_show_21 C Z h G (lv_sub hl [0, 1] rfl)
noncomputable def fq_show (x1 : Int32) (ρ : rf_S) : Option (Int32 × rf_S) := bq_show_0 x1 ρ
theorem kq_show (l : Launch) (D : rf_D) (E : Heap × Nat × Nat) (h0 : Nat) {r : Int32} {x1 : Int32} {ρ ρ' : rf_S} (h : fq_show x1 ρ = some (r, ρ')) : rf_MetZ l D E h0 yX12_show cX12_show 4 (some .int) 4 85 [.ref h0, .int x1] ρ (some (.int r)) ρ' :=
  rf_ofZ rfl (Nat.le_of_ble_eq_true rfl) (fun p e s m args below meth c ls C Z G hl => wq_show_0 C Z h G hl)
abbrev cX12_init : ByteArray := prog_14_method_1_code
def yX12_init : MethodName := ⟨RX12, "<init>", "()V"⟩
theorem dX12_init_0 : decode cX12_init 0 = .ok (.aload_n 0, 1) := by decide +kernel
theorem dX12_init_1 : decode cX12_init 1 = .ok (.invokespecial 1, 3) := by decide +kernel
theorem dX12_init_4 : decode cX12_init 4 = .ok (.aload_n 0, 1) := by decide +kernel
theorem dX12_init_5 : decode cX12_init 5 = .ok (.ldc 7, 2) := by decide +kernel
theorem dX12_init_7 : decode cX12_init 7 = .ok (.newarray .byte, 2) := by decide +kernel
theorem dX12_init_9 : decode cX12_init 9 = .ok (.putfield 8, 3) := by decide +kernel
theorem dX12_init_12 : decode cX12_init 12 = .ok (.aload_n 0, 1) := by decide +kernel
theorem dX12_init_13 : decode cX12_init 13 = .ok (.ldc 7, 2) := by decide +kernel
theorem dX12_init_15 : decode cX12_init 15 = .ok (.newarray .int, 2) := by decide +kernel
theorem dX12_init_17 : decode cX12_init 17 = .ok (.putfield 14, 3) := by decide +kernel
theorem dX12_init_20 : decode cX12_init 20 = .ok (.aload_n 0, 1) := by decide +kernel
theorem dX12_init_21 : decode cX12_init 21 = .ok (.ldc 7, 2) := by decide +kernel
theorem dX12_init_23 : decode cX12_init 23 = .ok (.newarray .int, 2) := by decide +kernel
theorem dX12_init_25 : decode cX12_init 25 = .ok (.putfield 18, 3) := by decide +kernel
theorem dX12_init_28 : decode cX12_init 28 = .ok (.aload_n 0, 1) := by decide +kernel
theorem dX12_init_29 : decode cX12_init 29 = .ok (.ldc 7, 2) := by decide +kernel
theorem dX12_init_31 : decode cX12_init 31 = .ok (.newarray .int, 2) := by decide +kernel
theorem dX12_init_33 : decode cX12_init 33 = .ok (.putfield 21, 3) := by decide +kernel
theorem dX12_init_36 : decode cX12_init 36 = .ok (.aload_n 0, 1) := by decide +kernel
theorem dX12_init_37 : decode cX12_init 37 = .ok (.ldc 7, 2) := by decide +kernel
theorem dX12_init_39 : decode cX12_init 39 = .ok (.newarray .int, 2) := by decide +kernel
theorem dX12_init_41 : decode cX12_init 41 = .ok (.putfield 24, 3) := by decide +kernel
theorem dX12_init_44 : decode cX12_init 44 = .ok (.aload_n 0, 1) := by decide +kernel
theorem dX12_init_45 : decode cX12_init 45 = .ok (.ldc 7, 2) := by decide +kernel
theorem dX12_init_47 : decode cX12_init 47 = .ok (.newarray .boolean, 2) := by decide +kernel
theorem dX12_init_49 : decode cX12_init 49 = .ok (.putfield 27, 3) := by decide +kernel
theorem dX12_init_52 : decode cX12_init 52 = .ok (.aload_n 0, 1) := by decide +kernel
theorem dX12_init_53 : decode cX12_init 53 = .ok (.ldc 7, 2) := by decide +kernel
theorem dX12_init_55 : decode cX12_init 55 = .ok (.newarray .int, 2) := by decide +kernel
theorem dX12_init_57 : decode cX12_init 57 = .ok (.putfield 31, 3) := by decide +kernel
theorem dX12_init_60 : decode cX12_init 60 = .ok (.aload_n 0, 1) := by decide +kernel
theorem dX12_init_61 : decode cX12_init 61 = .ok (.ldc 7, 2) := by decide +kernel
theorem dX12_init_63 : decode cX12_init 63 = .ok (.newarray .int, 2) := by decide +kernel
theorem dX12_init_65 : decode cX12_init 65 = .ok (.putfield 34, 3) := by decide +kernel
theorem dX12_init_68 : decode cX12_init 68 = .ok (.aload_n 0, 1) := by decide +kernel
theorem dX12_init_69 : decode cX12_init 69 = .ok (.ldc 37, 2) := by decide +kernel
theorem dX12_init_71 : decode cX12_init 71 = .ok (.newarray .int, 2) := by decide +kernel
theorem dX12_init_73 : decode cX12_init 73 = .ok (.putfield 38, 3) := by decide +kernel
theorem dX12_init_76 : decode cX12_init 76 = .ok (.aload_n 0, 1) := by decide +kernel
theorem dX12_init_77 : decode cX12_init 77 = .ok (.ldc 7, 2) := by decide +kernel
theorem dX12_init_79 : decode cX12_init 79 = .ok (.newarray .int, 2) := by decide +kernel
theorem dX12_init_81 : decode cX12_init 81 = .ok (.putfield 41, 3) := by decide +kernel
theorem dX12_init_84 : decode cX12_init 84 = .ok (.aload_n 0, 1) := by decide +kernel
theorem dX12_init_85 : decode cX12_init 85 = .ok (.sipush 16384, 3) := by decide +kernel
theorem dX12_init_88 : decode cX12_init 88 = .ok (.newarray .int, 2) := by decide +kernel
theorem dX12_init_90 : decode cX12_init 90 = .ok (.putfield 44, 3) := by decide +kernel
theorem dX12_init_93 : decode cX12_init 93 = .ok (.aload_n 0, 1) := by decide +kernel
theorem dX12_init_94 : decode cX12_init 94 = .ok (.iconst (-1), 1) := by decide +kernel
theorem dX12_init_95 : decode cX12_init 95 = .ok (.putfield 47, 3) := by decide +kernel
theorem dX12_init_98 : decode cX12_init 98 = .ok (.aload_n 0, 1) := by decide +kernel
theorem dX12_init_99 : decode cX12_init 99 = .ok (.iconst (-1), 1) := by decide +kernel
theorem dX12_init_100 : decode cX12_init 100 = .ok (.putfield 51, 3) := by decide +kernel
theorem dX12_init_103 : decode cX12_init 103 = .ok (.aload_n 0, 1) := by decide +kernel
theorem dX12_init_104 : decode cX12_init 104 = .ok (.ldc 54, 2) := by decide +kernel
theorem dX12_init_106 : decode cX12_init 106 = .ok (.newarray .int, 2) := by decide +kernel
theorem dX12_init_108 : decode cX12_init 108 = .ok (.putfield 55, 3) := by decide +kernel
theorem dX12_init_111 : decode cX12_init 111 = .ok (.aload_n 0, 1) := by decide +kernel
theorem dX12_init_112 : decode cX12_init 112 = .ok (.bipush 42, 2) := by decide +kernel
theorem dX12_init_114 : decode cX12_init 114 = .ok (.newarray .long, 2) := by decide +kernel
theorem dX12_init_116 : decode cX12_init 116 = .ok (.putfield 58, 3) := by decide +kernel
theorem dX12_init_119 : decode cX12_init 119 = .ok (.aload_n 0, 1) := by decide +kernel
theorem dX12_init_120 : decode cX12_init 120 = .ok (.bipush 42, 2) := by decide +kernel
theorem dX12_init_122 : decode cX12_init 122 = .ok (.newarray .int, 2) := by decide +kernel
theorem dX12_init_124 : decode cX12_init 124 = .ok (.putfield 62, 3) := by decide +kernel
theorem dX12_init_127 : decode cX12_init 127 = .ok (.aload_n 0, 1) := by decide +kernel
theorem dX12_init_128 : decode cX12_init 128 = .ok (.bipush 42, 2) := by decide +kernel
theorem dX12_init_130 : decode cX12_init 130 = .ok (.newarray .int, 2) := by decide +kernel
theorem dX12_init_132 : decode cX12_init 132 = .ok (.putfield 65, 3) := by decide +kernel
theorem dX12_init_135 : decode cX12_init 135 = .ok (.aload_n 0, 1) := by decide +kernel
theorem dX12_init_136 : decode cX12_init 136 = .ok (.sipush 6000, 3) := by decide +kernel
theorem dX12_init_139 : decode cX12_init 139 = .ok (.newarray .byte, 2) := by decide +kernel
theorem dX12_init_141 : decode cX12_init 141 = .ok (.putfield 68, 3) := by decide +kernel
theorem dX12_init_144 : decode cX12_init 144 = .ok (.aload_n 0, 1) := by decide +kernel
theorem dX12_init_145 : decode cX12_init 145 = .ok (.sipush 2048, 3) := by decide +kernel
theorem dX12_init_148 : decode cX12_init 148 = .ok (.newarray .int, 2) := by decide +kernel
theorem dX12_init_150 : decode cX12_init 150 = .ok (.putfield 71, 3) := by decide +kernel
theorem dX12_init_153 : decode cX12_init 153 = .ok (.aload_n 0, 1) := by decide +kernel
theorem dX12_init_154 : decode cX12_init 154 = .ok (.sipush 2048, 3) := by decide +kernel
theorem dX12_init_157 : decode cX12_init 157 = .ok (.newarray .int, 2) := by decide +kernel
theorem dX12_init_159 : decode cX12_init 159 = .ok (.putfield 74, 3) := by decide +kernel
theorem dX12_init_162 : decode cX12_init 162 = .ok (.aload_n 0, 1) := by decide +kernel
theorem dX12_init_163 : decode cX12_init 163 = .ok (.sipush 200, 3) := by decide +kernel
theorem dX12_init_166 : decode cX12_init 166 = .ok (.newarray .long, 2) := by decide +kernel
theorem dX12_init_168 : decode cX12_init 168 = .ok (.putfield 77, 3) := by decide +kernel
theorem dX12_init_171 : decode cX12_init 171 = .ok (.aload_n 0, 1) := by decide +kernel
theorem dX12_init_172 : decode cX12_init 172 = .ok (.sipush 200, 3) := by decide +kernel
theorem dX12_init_175 : decode cX12_init 175 = .ok (.newarray .int, 2) := by decide +kernel
theorem dX12_init_177 : decode cX12_init 177 = .ok (.putfield 80, 3) := by decide +kernel
theorem dX12_init_180 : decode cX12_init 180 = .ok (.aload_n 0, 1) := by decide +kernel
theorem dX12_init_181 : decode cX12_init 181 = .ok (.sipush 2048, 3) := by decide +kernel
theorem dX12_init_184 : decode cX12_init 184 = .ok (.newarray .int, 2) := by decide +kernel
theorem dX12_init_186 : decode cX12_init 186 = .ok (.putfield 83, 3) := by decide +kernel
theorem dX12_init_189 : decode cX12_init 189 = .ok (.aload_n 0, 1) := by decide +kernel
theorem dX12_init_190 : decode cX12_init 190 = .ok (.sipush 2048, 3) := by decide +kernel
theorem dX12_init_193 : decode cX12_init 193 = .ok (.newarray .int, 2) := by decide +kernel
theorem dX12_init_195 : decode cX12_init 195 = .ok (.putfield 86, 3) := by decide +kernel
theorem dX12_init_198 : decode cX12_init 198 = .ok (.aload_n 0, 1) := by decide +kernel
theorem dX12_init_199 : decode cX12_init 199 = .ok (.sipush 2048, 3) := by decide +kernel
theorem dX12_init_202 : decode cX12_init 202 = .ok (.newarray .long, 2) := by decide +kernel
theorem dX12_init_204 : decode cX12_init 204 = .ok (.putfield 89, 3) := by decide +kernel
theorem dX12_init_207 : decode cX12_init 207 = .ok (.aload_n 0, 1) := by decide +kernel
theorem dX12_init_208 : decode cX12_init 208 = .ok (.sipush 2048, 3) := by decide +kernel
theorem dX12_init_211 : decode cX12_init 211 = .ok (.newarray .boolean, 2) := by decide +kernel
theorem dX12_init_213 : decode cX12_init 213 = .ok (.putfield 92, 3) := by decide +kernel
theorem dX12_init_216 : decode cX12_init 216 = .ok (.aload_n 0, 1) := by decide +kernel
theorem dX12_init_217 : decode cX12_init 217 = .ok (.iconst (-1), 1) := by decide +kernel
theorem dX12_init_218 : decode cX12_init 218 = .ok (.putfield 95, 3) := by decide +kernel
theorem dX12_init_221 : decode cX12_init 221 = .ok (.aload_n 0, 1) := by decide +kernel
theorem dX12_init_222 : decode cX12_init 222 = .ok (.bipush 64, 2) := by decide +kernel
theorem dX12_init_224 : decode cX12_init 224 = .ok (.newarray .byte, 2) := by decide +kernel
theorem dX12_init_226 : decode cX12_init 226 = .ok (.putfield 98, 3) := by decide +kernel
theorem dX12_init_229 : decode cX12_init 229 = .ok (.aload_n 0, 1) := by decide +kernel
theorem dX12_init_230 : decode cX12_init 230 = .ok (.sipush 17000, 3) := by decide +kernel
theorem dX12_init_233 : decode cX12_init 233 = .ok (.newarray .int, 2) := by decide +kernel
theorem dX12_init_235 : decode cX12_init 235 = .ok (.putfield 101, 3) := by decide +kernel
theorem dX12_init_238 : decode cX12_init 238 = .ok (.aload_n 0, 1) := by decide +kernel
theorem dX12_init_239 : decode cX12_init 239 = .ok (.bipush 10, 2) := by decide +kernel
theorem dX12_init_241 : decode cX12_init 241 = .ok (.newarray .int, 2) := by decide +kernel
theorem dX12_init_243 : decode cX12_init 243 = .ok (.putfield 104, 3) := by decide +kernel
theorem dX12_init_246 : decode cX12_init 246 = .ok (.aload_n 0, 1) := by decide +kernel
theorem dX12_init_247 : decode cX12_init 247 = .ok (.bipush 8, 2) := by decide +kernel
theorem dX12_init_249 : decode cX12_init 249 = .ok (.newarray .int, 2) := by decide +kernel
theorem dX12_init_251 : decode cX12_init 251 = .ok (.putfield 107, 3) := by decide +kernel
theorem dX12_init_254 : decode cX12_init 254 = .ok (.aload_n 0, 1) := by decide +kernel
theorem dX12_init_255 : decode cX12_init 255 = .ok (.bipush 8, 2) := by decide +kernel
theorem dX12_init_257 : decode cX12_init 257 = .ok (.newarray .int, 2) := by decide +kernel
theorem dX12_init_259 : decode cX12_init 259 = .ok (.putfield 110, 3) := by decide +kernel
theorem dX12_init_262 : decode cX12_init 262 = .ok (.aload_n 0, 1) := by decide +kernel
theorem dX12_init_263 : decode cX12_init 263 = .ok (.bipush 8, 2) := by decide +kernel
theorem dX12_init_265 : decode cX12_init 265 = .ok (.newarray .int, 2) := by decide +kernel
theorem dX12_init_267 : decode cX12_init 267 = .ok (.putfield 113, 3) := by decide +kernel
theorem dX12_init_270 : decode cX12_init 270 = .ok (.aload_n 0, 1) := by decide +kernel
theorem dX12_init_271 : decode cX12_init 271 = .ok (.bipush 8, 2) := by decide +kernel
theorem dX12_init_273 : decode cX12_init 273 = .ok (.newarray .int, 2) := by decide +kernel
theorem dX12_init_275 : decode cX12_init 275 = .ok (.putfield 116, 3) := by decide +kernel
theorem dX12_init_278 : decode cX12_init 278 = .ok (.aload_n 0, 1) := by decide +kernel
theorem dX12_init_279 : decode cX12_init 279 = .ok (.bipush 16, 2) := by decide +kernel
theorem dX12_init_281 : decode cX12_init 281 = .ok (.newarray .int, 2) := by decide +kernel
theorem dX12_init_283 : decode cX12_init 283 = .ok (.putfield 119, 3) := by decide +kernel
theorem dX12_init_286 : decode cX12_init 286 = .ok (.aload_n 0, 1) := by decide +kernel
theorem dX12_init_287 : decode cX12_init 287 = .ok (.bipush 16, 2) := by decide +kernel
theorem dX12_init_289 : decode cX12_init 289 = .ok (.newarray .int, 2) := by decide +kernel
theorem dX12_init_291 : decode cX12_init 291 = .ok (.putfield 122, 3) := by decide +kernel
theorem dX12_init_294 : decode cX12_init 294 = .ok (.aload_n 0, 1) := by decide +kernel
theorem dX12_init_295 : decode cX12_init 295 = .ok (.bipush 16, 2) := by decide +kernel
theorem dX12_init_297 : decode cX12_init 297 = .ok (.newarray .int, 2) := by decide +kernel
theorem dX12_init_299 : decode cX12_init 299 = .ok (.putfield 125, 3) := by decide +kernel
theorem dX12_init_302 : decode cX12_init 302 = .ok (.aload_n 0, 1) := by decide +kernel
theorem dX12_init_303 : decode cX12_init 303 = .ok (.bipush 32, 2) := by decide +kernel
theorem dX12_init_305 : decode cX12_init 305 = .ok (.newarray .int, 2) := by decide +kernel
theorem dX12_init_307 : decode cX12_init 307 = .ok (.putfield 128, 3) := by decide +kernel
theorem dX12_init_310 : decode cX12_init 310 = .ok (.aload_n 0, 1) := by decide +kernel
theorem dX12_init_311 : decode cX12_init 311 = .ok (.bipush 32, 2) := by decide +kernel
theorem dX12_init_313 : decode cX12_init 313 = .ok (.newarray .int, 2) := by decide +kernel
theorem dX12_init_315 : decode cX12_init 315 = .ok (.putfield 131, 3) := by decide +kernel
theorem dX12_init_318 : decode cX12_init 318 = .ok (.aload_n 0, 1) := by decide +kernel
theorem dX12_init_319 : decode cX12_init 319 = .ok (.bipush 64, 2) := by decide +kernel
theorem dX12_init_321 : decode cX12_init 321 = .ok (.newarray .boolean, 2) := by decide +kernel
theorem dX12_init_323 : decode cX12_init 323 = .ok (.putfield 134, 3) := by decide +kernel
theorem dX12_init_326 : decode cX12_init 326 = .ok (.aload_n 0, 1) := by decide +kernel
theorem dX12_init_327 : decode cX12_init 327 = .ok (.bipush 8, 2) := by decide +kernel
theorem dX12_init_329 : decode cX12_init 329 = .ok (.newarray .int, 2) := by decide +kernel
theorem dX12_init_331 : decode cX12_init 331 = .ok (.putfield 137, 3) := by decide +kernel
theorem dX12_init_334 : decode cX12_init 334 = .ok (.aload_n 0, 1) := by decide +kernel
theorem dX12_init_335 : decode cX12_init 335 = .ok (.bipush 8, 2) := by decide +kernel
theorem dX12_init_337 : decode cX12_init 337 = .ok (.newarray .int, 2) := by decide +kernel
theorem dX12_init_339 : decode cX12_init 339 = .ok (.putfield 140, 3) := by decide +kernel
theorem dX12_init_342 : decode cX12_init 342 = .ok (.aload_n 0, 1) := by decide +kernel
theorem dX12_init_343 : decode cX12_init 343 = .ok (.bipush 64, 2) := by decide +kernel
theorem dX12_init_345 : decode cX12_init 345 = .ok (.newarray .int, 2) := by decide +kernel
theorem dX12_init_347 : decode cX12_init 347 = .ok (.putfield 143, 3) := by decide +kernel
theorem dX12_init_350 : decode cX12_init 350 = .ok (.aload_n 0, 1) := by decide +kernel
theorem dX12_init_351 : decode cX12_init 351 = .ok (.bipush 64, 2) := by decide +kernel
theorem dX12_init_353 : decode cX12_init 353 = .ok (.newarray .int, 2) := by decide +kernel
theorem dX12_init_355 : decode cX12_init 355 = .ok (.putfield 146, 3) := by decide +kernel
theorem dX12_init_358 : decode cX12_init 358 = .ok (.aload_n 0, 1) := by decide +kernel
theorem dX12_init_359 : decode cX12_init 359 = .ok (.sipush 800, 3) := by decide +kernel
theorem dX12_init_362 : decode cX12_init 362 = .ok (.newarray .int, 2) := by decide +kernel
theorem dX12_init_364 : decode cX12_init 364 = .ok (.putfield 149, 3) := by decide +kernel
theorem dX12_init_367 : decode cX12_init 367 = .ok (.aload_n 0, 1) := by decide +kernel
theorem dX12_init_368 : decode cX12_init 368 = .ok (.bipush 8, 2) := by decide +kernel
theorem dX12_init_370 : decode cX12_init 370 = .ok (.newarray .int, 2) := by decide +kernel
theorem dX12_init_372 : decode cX12_init 372 = .ok (.putfield 152, 3) := by decide +kernel
theorem dX12_init_375 : decode cX12_init 375 = .ok (.aload_n 0, 1) := by decide +kernel
theorem dX12_init_376 : decode cX12_init 376 = .ok (.sipush 500, 3) := by decide +kernel
theorem dX12_init_379 : decode cX12_init 379 = .ok (.newarray .int, 2) := by decide +kernel
theorem dX12_init_381 : decode cX12_init 381 = .ok (.putfield 155, 3) := by decide +kernel
theorem dX12_init_384 : decode cX12_init 384 = .ok (.aload_n 0, 1) := by decide +kernel
theorem dX12_init_385 : decode cX12_init 385 = .ok (.sipush 500, 3) := by decide +kernel
theorem dX12_init_388 : decode cX12_init 388 = .ok (.newarray .int, 2) := by decide +kernel
theorem dX12_init_390 : decode cX12_init 390 = .ok (.putfield 158, 3) := by decide +kernel
theorem dX12_init_393 : decode cX12_init 393 = .ok (.aload_n 0, 1) := by decide +kernel
theorem dX12_init_394 : decode cX12_init 394 = .ok (.sipush 500, 3) := by decide +kernel
theorem dX12_init_397 : decode cX12_init 397 = .ok (.newarray .boolean, 2) := by decide +kernel
theorem dX12_init_399 : decode cX12_init 399 = .ok (.putfield 161, 3) := by decide +kernel
theorem dX12_init_402 : decode cX12_init 402 = .ok (.aload_n 0, 1) := by decide +kernel
theorem dX12_init_403 : decode cX12_init 403 = .ok (.sipush 500, 3) := by decide +kernel
theorem dX12_init_406 : decode cX12_init 406 = .ok (.newarray .int, 2) := by decide +kernel
theorem dX12_init_408 : decode cX12_init 408 = .ok (.putfield 164, 3) := by decide +kernel
theorem dX12_init_411 : decode cX12_init 411 = .ok (.aload_n 0, 1) := by decide +kernel
theorem dX12_init_412 : decode cX12_init 412 = .ok (.iconst 2, 1) := by decide +kernel
theorem dX12_init_413 : decode cX12_init 413 = .ok (.newarray .int, 2) := by decide +kernel
theorem dX12_init_415 : decode cX12_init 415 = .ok (.putfield 167, 3) := by decide +kernel
theorem dX12_init_418 : decode cX12_init 418 = .ok (.aload_n 0, 1) := by decide +kernel
theorem dX12_init_419 : decode cX12_init 419 = .ok (.iconst 2, 1) := by decide +kernel
theorem dX12_init_420 : decode cX12_init 420 = .ok (.newarray .int, 2) := by decide +kernel
theorem dX12_init_422 : decode cX12_init 422 = .ok (.putfield 170, 3) := by decide +kernel
theorem dX12_init_425 : decode cX12_init 425 = .ok (.aload_n 0, 1) := by decide +kernel
theorem dX12_init_426 : decode cX12_init 426 = .ok (.iconst 2, 1) := by decide +kernel
theorem dX12_init_427 : decode cX12_init 427 = .ok (.newarray .int, 2) := by decide +kernel
theorem dX12_init_429 : decode cX12_init 429 = .ok (.putfield 173, 3) := by decide +kernel
theorem dX12_init_432 : decode cX12_init 432 = .ok (.aload_n 0, 1) := by decide +kernel
theorem dX12_init_433 : decode cX12_init 433 = .ok (.iconst 2, 1) := by decide +kernel
theorem dX12_init_434 : decode cX12_init 434 = .ok (.newarray .boolean, 2) := by decide +kernel
theorem dX12_init_436 : decode cX12_init 436 = .ok (.putfield 176, 3) := by decide +kernel
theorem dX12_init_439 : decode cX12_init 439 = .ok (.aload_n 0, 1) := by decide +kernel
theorem dX12_init_440 : decode cX12_init 440 = .ok (.sipush 16384, 3) := by decide +kernel
theorem dX12_init_443 : decode cX12_init 443 = .ok (.newarray .int, 2) := by decide +kernel
theorem dX12_init_445 : decode cX12_init 445 = .ok (.putfield 179, 3) := by decide +kernel
theorem dX12_init_448 : decode cX12_init 448 = .ok (.aload_n 0, 1) := by decide +kernel
theorem dX12_init_449 : decode cX12_init 449 = .ok (.sipush 256, 3) := by decide +kernel
theorem dX12_init_452 : decode cX12_init 452 = .ok (.newarray .int, 2) := by decide +kernel
theorem dX12_init_454 : decode cX12_init 454 = .ok (.putfield 182, 3) := by decide +kernel
theorem dX12_init_457 : decode cX12_init 457 = .ok (.aload_n 0, 1) := by decide +kernel
theorem dX12_init_458 : decode cX12_init 458 = .ok (.bipush 16, 2) := by decide +kernel
theorem dX12_init_460 : decode cX12_init 460 = .ok (.newarray .int, 2) := by decide +kernel
theorem dX12_init_462 : decode cX12_init 462 = .ok (.putfield 185, 3) := by decide +kernel
theorem dX12_init_465 : decode cX12_init 465 = .ok (.aload_n 0, 1) := by decide +kernel
theorem dX12_init_466 : decode cX12_init 466 = .ok (.bipush 16, 2) := by decide +kernel
theorem dX12_init_468 : decode cX12_init 468 = .ok (.newarray .boolean, 2) := by decide +kernel
theorem dX12_init_470 : decode cX12_init 470 = .ok (.putfield 188, 3) := by decide +kernel
theorem dX12_init_473 : decode cX12_init 473 = .ok (.aload_n 0, 1) := by decide +kernel
theorem dX12_init_474 : decode cX12_init 474 = .ok (.bipush 16, 2) := by decide +kernel
theorem dX12_init_476 : decode cX12_init 476 = .ok (.newarray .int, 2) := by decide +kernel
theorem dX12_init_478 : decode cX12_init 478 = .ok (.putfield 191, 3) := by decide +kernel
theorem dX12_init_481 : decode cX12_init 481 = .ok (.aload_n 0, 1) := by decide +kernel
theorem dX12_init_482 : decode cX12_init 482 = .ok (.bipush 16, 2) := by decide +kernel
theorem dX12_init_484 : decode cX12_init 484 = .ok (.newarray .int, 2) := by decide +kernel
theorem dX12_init_486 : decode cX12_init 486 = .ok (.putfield 194, 3) := by decide +kernel
theorem dX12_init_489 : decode cX12_init 489 = .ok (.aload_n 0, 1) := by decide +kernel
theorem dX12_init_490 : decode cX12_init 490 = .ok (.bipush 16, 2) := by decide +kernel
theorem dX12_init_492 : decode cX12_init 492 = .ok (.newarray .int, 2) := by decide +kernel
theorem dX12_init_494 : decode cX12_init 494 = .ok (.putfield 197, 3) := by decide +kernel
theorem dX12_init_497 : decode cX12_init 497 = .ok (.aload_n 0, 1) := by decide +kernel
theorem dX12_init_498 : decode cX12_init 498 = .ok (.bipush 16, 2) := by decide +kernel
theorem dX12_init_500 : decode cX12_init 500 = .ok (.newarray .boolean, 2) := by decide +kernel
theorem dX12_init_502 : decode cX12_init 502 = .ok (.putfield 200, 3) := by decide +kernel
theorem dX12_init_505 : decode cX12_init 505 = .ok (.aload_n 0, 1) := by decide +kernel
theorem dX12_init_506 : decode cX12_init 506 = .ok (.sipush 1600, 3) := by decide +kernel
theorem dX12_init_509 : decode cX12_init 509 = .ok (.newarray .int, 2) := by decide +kernel
theorem dX12_init_511 : decode cX12_init 511 = .ok (.putfield 203, 3) := by decide +kernel
theorem dX12_init_514 : decode cX12_init 514 = .ok (.aload_n 0, 1) := by decide +kernel
theorem dX12_init_515 : decode cX12_init 515 = .ok (.bipush 16, 2) := by decide +kernel
theorem dX12_init_517 : decode cX12_init 517 = .ok (.newarray .int, 2) := by decide +kernel
theorem dX12_init_519 : decode cX12_init 519 = .ok (.putfield 206, 3) := by decide +kernel
theorem dX12_init_522 : decode cX12_init 522 = .ok (.aload_n 0, 1) := by decide +kernel
theorem dX12_init_523 : decode cX12_init 523 = .ok (.sipush 3200, 3) := by decide +kernel
theorem dX12_init_526 : decode cX12_init 526 = .ok (.newarray .int, 2) := by decide +kernel
theorem dX12_init_528 : decode cX12_init 528 = .ok (.putfield 209, 3) := by decide +kernel
theorem dX12_init_531 : decode cX12_init 531 = .ok (.aload_n 0, 1) := by decide +kernel
theorem dX12_init_532 : decode cX12_init 532 = .ok (.sipush 3200, 3) := by decide +kernel
theorem dX12_init_535 : decode cX12_init 535 = .ok (.newarray .boolean, 2) := by decide +kernel
theorem dX12_init_537 : decode cX12_init 537 = .ok (.putfield 212, 3) := by decide +kernel
theorem dX12_init_540 : decode cX12_init 540 = .ok (.aload_n 0, 1) := by decide +kernel
theorem dX12_init_541 : decode cX12_init 541 = .ok (.bipush 16, 2) := by decide +kernel
theorem dX12_init_543 : decode cX12_init 543 = .ok (.newarray .int, 2) := by decide +kernel
theorem dX12_init_545 : decode cX12_init 545 = .ok (.putfield 215, 3) := by decide +kernel
theorem dX12_init_548 : decode cX12_init 548 = .ok (.aload_n 0, 1) := by decide +kernel
theorem dX12_init_549 : decode cX12_init 549 = .ok (.sipush 1024, 3) := by decide +kernel
theorem dX12_init_552 : decode cX12_init 552 = .ok (.newarray .int, 2) := by decide +kernel
theorem dX12_init_554 : decode cX12_init 554 = .ok (.putfield 218, 3) := by decide +kernel
theorem dX12_init_557 : decode cX12_init 557 = .ok (.aload_n 0, 1) := by decide +kernel
theorem dX12_init_558 : decode cX12_init 558 = .ok (.bipush 16, 2) := by decide +kernel
theorem dX12_init_560 : decode cX12_init 560 = .ok (.newarray .int, 2) := by decide +kernel
theorem dX12_init_562 : decode cX12_init 562 = .ok (.putfield 221, 3) := by decide +kernel
theorem dX12_init_565 : decode cX12_init 565 = .ok (.aload_n 0, 1) := by decide +kernel
theorem dX12_init_566 : decode cX12_init 566 = .ok (.sipush 1024, 3) := by decide +kernel
theorem dX12_init_569 : decode cX12_init 569 = .ok (.newarray .int, 2) := by decide +kernel
theorem dX12_init_571 : decode cX12_init 571 = .ok (.putfield 224, 3) := by decide +kernel
theorem dX12_init_574 : decode cX12_init 574 = .ok (.aload_n 0, 1) := by decide +kernel
theorem dX12_init_575 : decode cX12_init 575 = .ok (.bipush 16, 2) := by decide +kernel
theorem dX12_init_577 : decode cX12_init 577 = .ok (.newarray .int, 2) := by decide +kernel
theorem dX12_init_579 : decode cX12_init 579 = .ok (.putfield 227, 3) := by decide +kernel
theorem dX12_init_582 : decode cX12_init 582 = .ok (.aload_n 0, 1) := by decide +kernel
theorem dX12_init_583 : decode cX12_init 583 = .ok (.bipush 16, 2) := by decide +kernel
theorem dX12_init_585 : decode cX12_init 585 = .ok (.newarray .int, 2) := by decide +kernel
theorem dX12_init_587 : decode cX12_init 587 = .ok (.putfield 230, 3) := by decide +kernel
theorem dX12_init_590 : decode cX12_init 590 = .ok (.aload_n 0, 1) := by decide +kernel
theorem dX12_init_591 : decode cX12_init 591 = .ok (.bipush 16, 2) := by decide +kernel
theorem dX12_init_593 : decode cX12_init 593 = .ok (.newarray .int, 2) := by decide +kernel
theorem dX12_init_595 : decode cX12_init 595 = .ok (.putfield 233, 3) := by decide +kernel
theorem dX12_init_598 : decode cX12_init 598 = .ok (.aload_n 0, 1) := by decide +kernel
theorem dX12_init_599 : decode cX12_init 599 = .ok (.sipush 512, 3) := by decide +kernel
theorem dX12_init_602 : decode cX12_init 602 = .ok (.newarray .int, 2) := by decide +kernel
theorem dX12_init_604 : decode cX12_init 604 = .ok (.putfield 236, 3) := by decide +kernel
theorem dX12_init_607 : decode cX12_init 607 = .ok (.aload_n 0, 1) := by decide +kernel
theorem dX12_init_608 : decode cX12_init 608 = .ok (.bipush 32, 2) := by decide +kernel
theorem dX12_init_610 : decode cX12_init 610 = .ok (.newarray .boolean, 2) := by decide +kernel
theorem dX12_init_612 : decode cX12_init 612 = .ok (.putfield 239, 3) := by decide +kernel
theorem dX12_init_615 : decode cX12_init 615 = .ok (.aload_n 0, 1) := by decide +kernel
theorem dX12_init_616 : decode cX12_init 616 = .ok (.bipush 32, 2) := by decide +kernel
theorem dX12_init_618 : decode cX12_init 618 = .ok (.newarray .int, 2) := by decide +kernel
theorem dX12_init_620 : decode cX12_init 620 = .ok (.putfield 242, 3) := by decide +kernel
theorem dX12_init_623 : decode cX12_init 623 = .ok (.aload_n 0, 1) := by decide +kernel
theorem dX12_init_624 : decode cX12_init 624 = .ok (.sipush 128, 3) := by decide +kernel
theorem dX12_init_627 : decode cX12_init 627 = .ok (.newarray .int, 2) := by decide +kernel
theorem dX12_init_629 : decode cX12_init 629 = .ok (.putfield 245, 3) := by decide +kernel
theorem dX12_init_632 : decode cX12_init 632 = .ok (.aload_n 0, 1) := by decide +kernel
theorem dX12_init_633 : decode cX12_init 633 = .ok (.sipush 128, 3) := by decide +kernel
theorem dX12_init_636 : decode cX12_init 636 = .ok (.newarray .int, 2) := by decide +kernel
theorem dX12_init_638 : decode cX12_init 638 = .ok (.putfield 248, 3) := by decide +kernel
theorem dX12_init_641 : decode cX12_init 641 = .ok (.aload_n 0, 1) := by decide +kernel
theorem dX12_init_642 : decode cX12_init 642 = .ok (.sipush 600, 3) := by decide +kernel
theorem dX12_init_645 : decode cX12_init 645 = .ok (.newarray .int, 2) := by decide +kernel
theorem dX12_init_647 : decode cX12_init 647 = .ok (.putfield 251, 3) := by decide +kernel
theorem dX12_init_650 : decode cX12_init 650 = .ok (.aload_n 0, 1) := by decide +kernel
theorem dX12_init_651 : decode cX12_init 651 = .ok (.sipush 2048, 3) := by decide +kernel
theorem dX12_init_654 : decode cX12_init 654 = .ok (.newarray .boolean, 2) := by decide +kernel
theorem dX12_init_656 : decode cX12_init 656 = .ok (.putfield 254, 3) := by decide +kernel
theorem dX12_init_659 : decode cX12_init 659 = .ok (.aload_n 0, 1) := by decide +kernel
theorem dX12_init_660 : decode cX12_init 660 = .ok (.sipush 4100, 3) := by decide +kernel
theorem dX12_init_663 : decode cX12_init 663 = .ok (.newarray .int, 2) := by decide +kernel
theorem dX12_init_665 : decode cX12_init 665 = .ok (.putfield 257, 3) := by decide +kernel
theorem dX12_init_668 : decode cX12_init 668 = .ok (.aload_n 0, 1) := by decide +kernel
theorem dX12_init_669 : decode cX12_init 669 = .ok (.sipush 200, 3) := by decide +kernel
theorem dX12_init_672 : decode cX12_init 672 = .ok (.newarray .int, 2) := by decide +kernel
theorem dX12_init_674 : decode cX12_init 674 = .ok (.putfield 260, 3) := by decide +kernel
theorem dX12_init_677 : decode cX12_init 677 = .ok (.iconst 0, 1) := by decide +kernel
theorem dX12_init_678 : decode cX12_init 678 = .ok (.istore_n 1, 1) := by decide +kernel
theorem dX12_init_679 : decode cX12_init 679 = .ok (.iload_n 1, 1) := by decide +kernel
theorem dX12_init_680 : decode cX12_init 680 = .ok (.sipush 16384, 3) := by decide +kernel
theorem dX12_init_683 : decode cX12_init 683 = .ok (.if_icmp .ge 16, 3) := by decide +kernel
theorem dX12_init_686 : decode cX12_init 686 = .ok (.aload_n 0, 1) := by decide +kernel
theorem dX12_init_687 : decode cX12_init 687 = .ok (.getfield 44, 3) := by decide +kernel
theorem dX12_init_690 : decode cX12_init 690 = .ok (.iload_n 1, 1) := by decide +kernel
theorem dX12_init_691 : decode cX12_init 691 = .ok (.iconst (-1), 1) := by decide +kernel
theorem dX12_init_692 : decode cX12_init 692 = .ok (.iastore, 1) := by decide +kernel
theorem dX12_init_693 : decode cX12_init 693 = .ok (.iinc 1 1, 3) := by decide +kernel
theorem dX12_init_696 : decode cX12_init 696 = .ok (.goto (-17), 3) := by decide +kernel
theorem dX12_init_699 : decode cX12_init 699 = .ok (.iconst 0, 1) := by decide +kernel
theorem dX12_init_700 : decode cX12_init 700 = .ok (.istore_n 1, 1) := by decide +kernel
theorem dX12_init_701 : decode cX12_init 701 = .ok (.iconst 1, 1) := by decide +kernel
theorem dX12_init_702 : decode cX12_init 702 = .ok (.istore_n 2, 1) := by decide +kernel
theorem dX12_init_703 : decode cX12_init 703 = .ok (.iload_n 2, 1) := by decide +kernel
theorem dX12_init_704 : decode cX12_init 704 = .ok (.bipush 41, 2) := by decide +kernel
theorem dX12_init_706 : decode cX12_init 706 = .ok (.if_icmp .gt 67, 3) := by decide +kernel
theorem dX12_init_709 : decode cX12_init 709 = .ok (.aload_n 0, 1) := by decide +kernel
theorem dX12_init_710 : decode cX12_init 710 = .ok (.getfield 62, 3) := by decide +kernel
theorem dX12_init_713 : decode cX12_init 713 = .ok (.iload_n 2, 1) := by decide +kernel
theorem dX12_init_714 : decode cX12_init 714 = .ok (.iload_n 1, 1) := by decide +kernel
theorem dX12_init_715 : decode cX12_init 715 = .ok (.iastore, 1) := by decide +kernel
theorem dX12_init_716 : decode cX12_init 716 = .ok (.lconst 0, 1) := by decide +kernel
theorem dX12_init_717 : decode cX12_init 717 = .ok (.lstore_n 3, 1) := by decide +kernel
theorem dX12_init_718 : decode cX12_init 718 = .ok (.ldc_w 263, 3) := by decide +kernel
theorem dX12_init_721 : decode cX12_init 721 = .ok (.iload_n 1, 1) := by decide +kernel
theorem dX12_init_722 : decode cX12_init 722 = .ok (.invokevirtual 265, 3) := by decide +kernel
theorem dX12_init_725 : decode cX12_init 725 = .ok (.bipush 32, 2) := by decide +kernel
theorem dX12_init_727 : decode cX12_init 727 = .ok (.if_icmp .eq 23, 3) := by decide +kernel
theorem dX12_init_730 : decode cX12_init 730 = .ok (.lload_n 3, 1) := by decide +kernel
theorem dX12_init_731 : decode cX12_init 731 = .ok (.bipush 7, 2) := by decide +kernel
theorem dX12_init_733 : decode cX12_init 733 = .ok (.lshl, 1) := by decide +kernel
theorem dX12_init_734 : decode cX12_init 734 = .ok (.ldc_w 263, 3) := by decide +kernel
theorem dX12_init_737 : decode cX12_init 737 = .ok (.iload_n 1, 1) := by decide +kernel
theorem dX12_init_738 : decode cX12_init 738 = .ok (.invokevirtual 265, 3) := by decide +kernel
theorem dX12_init_741 : decode cX12_init 741 = .ok (.i2l, 1) := by decide +kernel
theorem dX12_init_742 : decode cX12_init 742 = .ok (.lor, 1) := by decide +kernel
theorem dX12_init_743 : decode cX12_init 743 = .ok (.lstore_n 3, 1) := by decide +kernel
theorem dX12_init_744 : decode cX12_init 744 = .ok (.iinc 1 1, 3) := by decide +kernel
theorem dX12_init_747 : decode cX12_init 747 = .ok (.goto (-29), 3) := by decide +kernel
theorem dX12_init_750 : decode cX12_init 750 = .ok (.aload_n 0, 1) := by decide +kernel
theorem dX12_init_751 : decode cX12_init 751 = .ok (.getfield 65, 3) := by decide +kernel
theorem dX12_init_754 : decode cX12_init 754 = .ok (.iload_n 2, 1) := by decide +kernel
theorem dX12_init_755 : decode cX12_init 755 = .ok (.iload_n 1, 1) := by decide +kernel
theorem dX12_init_756 : decode cX12_init 756 = .ok (.iastore, 1) := by decide +kernel
theorem dX12_init_757 : decode cX12_init 757 = .ok (.aload_n 0, 1) := by decide +kernel
theorem dX12_init_758 : decode cX12_init 758 = .ok (.getfield 58, 3) := by decide +kernel
theorem dX12_init_761 : decode cX12_init 761 = .ok (.iload_n 2, 1) := by decide +kernel
theorem dX12_init_762 : decode cX12_init 762 = .ok (.lload_n 3, 1) := by decide +kernel
theorem dX12_init_763 : decode cX12_init 763 = .ok (.lastore, 1) := by decide +kernel
theorem dX12_init_764 : decode cX12_init 764 = .ok (.iinc 1 1, 3) := by decide +kernel
theorem dX12_init_767 : decode cX12_init 767 = .ok (.iinc 2 1, 3) := by decide +kernel
theorem dX12_init_770 : decode cX12_init 770 = .ok (.goto (-67), 3) := by decide +kernel
theorem dX12_init_773 : decode cX12_init 773 = .ok (.iconst 0, 1) := by decide +kernel
theorem dX12_init_774 : decode cX12_init 774 = .ok (.istore_n 2, 1) := by decide +kernel
theorem dX12_init_775 : decode cX12_init 775 = .ok (.iload_n 2, 1) := by decide +kernel
theorem dX12_init_776 : decode cX12_init 776 = .ok (.sipush 128, 3) := by decide +kernel
theorem dX12_init_779 : decode cX12_init 779 = .ok (.if_icmp .ge 16, 3) := by decide +kernel
theorem dX12_init_782 : decode cX12_init 782 = .ok (.aload_n 0, 1) := by decide +kernel
theorem dX12_init_783 : decode cX12_init 783 = .ok (.getfield 248, 3) := by decide +kernel
theorem dX12_init_786 : decode cX12_init 786 = .ok (.iload_n 2, 1) := by decide +kernel
theorem dX12_init_787 : decode cX12_init 787 = .ok (.iconst (-1), 1) := by decide +kernel
theorem dX12_init_788 : decode cX12_init 788 = .ok (.iastore, 1) := by decide +kernel
theorem dX12_init_789 : decode cX12_init 789 = .ok (.iinc 2 1, 3) := by decide +kernel
theorem dX12_init_792 : decode cX12_init 792 = .ok (.goto (-17), 3) := by decide +kernel
theorem dX12_init_795 : decode cX12_init 795 = .ok (.aload_n 0, 1) := by decide +kernel
theorem dX12_init_796 : decode cX12_init 796 = .ok (.aload_n 0, 1) := by decide +kernel
theorem dX12_init_797 : decode cX12_init 797 = .ok (.iconst 2, 1) := by decide +kernel
theorem dX12_init_798 : decode cX12_init 798 = .ok (.iconst 0, 1) := by decide +kernel
theorem dX12_init_799 : decode cX12_init 799 = .ok (.iconst 0, 1) := by decide +kernel
theorem dX12_init_800 : decode cX12_init 800 = .ok (.iconst 0, 1) := by decide +kernel
theorem dX12_init_801 : decode cX12_init 801 = .ok (.invokevirtual 271, 3) := by decide +kernel
theorem dX12_init_804 : decode cX12_init 804 = .ok (.putfield 275, 3) := by decide +kernel
theorem dX12_init_807 : decode cX12_init 807 = .ok (.aload_n 0, 1) := by decide +kernel
theorem dX12_init_808 : decode cX12_init 808 = .ok (.iconst 1, 1) := by decide +kernel
theorem dX12_init_809 : decode cX12_init 809 = .ok (.putfield 278, 3) := by decide +kernel
theorem dX12_init_812 : decode cX12_init 812 = .ok (.aload_n 0, 1) := by decide +kernel
theorem dX12_init_813 : decode cX12_init 813 = .ok (.aload_n 0, 1) := by decide +kernel
theorem dX12_init_814 : decode cX12_init 814 = .ok (.bipush 9, 2) := by decide +kernel
theorem dX12_init_816 : decode cX12_init 816 = .ok (.aload_n 0, 1) := by decide +kernel
theorem dX12_init_817 : decode cX12_init 817 = .ok (.getfield 275, 3) := by decide +kernel
theorem dX12_init_820 : decode cX12_init 820 = .ok (.aload_n 0, 1) := by decide +kernel
theorem dX12_init_821 : decode cX12_init 821 = .ok (.iconst 0, 1) := by decide +kernel
theorem dX12_init_822 : decode cX12_init 822 = .ok (.iconst 1, 1) := by decide +kernel
theorem dX12_init_823 : decode cX12_init 823 = .ok (.iconst 0, 1) := by decide +kernel
theorem dX12_init_824 : decode cX12_init 824 = .ok (.iconst 0, 1) := by decide +kernel
theorem dX12_init_825 : decode cX12_init 825 = .ok (.invokevirtual 271, 3) := by decide +kernel
theorem dX12_init_828 : decode cX12_init 828 = .ok (.iconst 0, 1) := by decide +kernel
theorem dX12_init_829 : decode cX12_init 829 = .ok (.invokevirtual 271, 3) := by decide +kernel
theorem dX12_init_832 : decode cX12_init 832 = .ok (.putfield 281, 3) := by decide +kernel
theorem dX12_init_835 : decode cX12_init 835 = .ok (.aload_n 0, 1) := by decide +kernel
theorem dX12_init_836 : decode cX12_init 836 = .ok (.aload_n 0, 1) := by decide +kernel
theorem dX12_init_837 : decode cX12_init 837 = .ok (.bipush 6, 2) := by decide +kernel
theorem dX12_init_839 : decode cX12_init 839 = .ok (.aload_n 0, 1) := by decide +kernel
theorem dX12_init_840 : decode cX12_init 840 = .ok (.getfield 281, 3) := by decide +kernel
theorem dX12_init_843 : decode cX12_init 843 = .ok (.iconst 0, 1) := by decide +kernel
theorem dX12_init_844 : decode cX12_init 844 = .ok (.iconst 0, 1) := by decide +kernel
theorem dX12_init_845 : decode cX12_init 845 = .ok (.invokevirtual 271, 3) := by decide +kernel
theorem dX12_init_848 : decode cX12_init 848 = .ok (.putfield 284, 3) := by decide +kernel
theorem dX12_init_851 : decode cX12_init 851 = .ok (.aload_n 0, 1) := by decide +kernel
theorem dX12_init_852 : decode cX12_init 852 = .ok (.getfield 27, 3) := by decide +kernel
theorem dX12_init_855 : decode cX12_init 855 = .ok (.aload_n 0, 1) := by decide +kernel
theorem dX12_init_856 : decode cX12_init 856 = .ok (.getfield 284, 3) := by decide +kernel
theorem dX12_init_859 : decode cX12_init 859 = .ok (.iconst 1, 1) := by decide +kernel
theorem dX12_init_860 : decode cX12_init 860 = .ok (.bastore, 1) := by decide +kernel
theorem dX12_init_861 : decode cX12_init 861 = .ok (.return_, 1) := by decide +kernel
set_option maxRecDepth 100000 in
theorem cc_init : Cond.code yX12_init cX12_init 5 none ∈ rf_tb := rf_at 1509 rfl (by decide +kernel)
theorem ri_a0 : Cond.arrayClass (rf_T 0) ∈ rf_tb := rf_at 64 (by decide +kernel) (by decide +kernel)
theorem ri_a1 : Cond.arrayClass (rf_T 1) ∈ rf_tb := rf_at 170 (by decide +kernel) (by decide +kernel)
theorem ri_a2 : Cond.arrayClass (rf_T 2) ∈ rf_tb := rf_at 1901 (by decide +kernel) (by decide +kernel)
theorem ri_a3 : Cond.arrayClass (rf_T 3) ∈ rf_tb := rf_at 65 (by decide +kernel) (by decide +kernel)
theorem ri_o1 : Cond.methodLink RX12 1 Lib.objectInit ∈ rf_tb := rf_at 1510 (by decide +kernel) (by decide +kernel)
theorem ri_o2 : Cond.instanceMethod Lib.objectInit ∈ rf_tb := rf_at 27 (by decide +kernel) (by decide +kernel)
theorem ri_o3 : Cond.code Lib.objectInit ⟨#[0xb1]⟩ 1 none ∈ rf_tb := rf_at 28 (by decide +kernel) (by decide +kernel)
def rf_0 : rf_S := (fun _ _ => 0, fun _ _ => 0)
abbrev ri_R (fr lo : Nat) : Room := { frames := fr, cells := 79, slots := 2124100, locals := lo }
def ri_Q (D : rf_D) (h0 : Nat) (ρ' : rf_S) : Array Value → State → Outcome → State → Prop := fun _ st o t => o = .returned none ∧ rf_P D h0 ρ' t.heap ∧ t.heap.size = h0 + (79 + 1) ∧ va_F (rf_A h0) st t
def ri_A (D : rf_D) (U : State) : Prop := ∀ t, t < 4 → U.vm.findClass ("[" ++ (rf_T t).toString) = some (D.2.2 t)
/-- the fields while the arrays are being made: the first n are there -/
def ri_V (h0 n : Nat) (ρ : rf_S) (k : Nat) : Value := match rf_fk k with
  | 0 => .int (ρ.1 0 k)
  | 1 => .long (ρ.2 0 k)
  | c + 2 => if c < n then .ref (h0 + (c + 1)) else .null
def ri_J (D : rf_D) (h0 n : Nat) (ρ : rf_S) (s : State) (H : Heap) (locs : List Loc) : Prop := t_OB h0 D.1 122 D.2.1 H (ri_V h0 n ρ) ∧ (∀ c, c < n → H[h0 + (c + 1)]? = some (rf_cell D.2.2 ρ (c + 1))) ∧ (∀ c j, ρ.1 (c + 1) j = 0 ∧ ρ.2 (c + 1) j = 0) ∧ H.size = h0 + (n + 1) ∧ va_S (rf_A h0) s.heap H locs
theorem ri_fk : ∀ k, k < 122 → rf_fk k < 81 := by decide +kernel
theorem ri_fkj : ∀ k, k < 122 → ∀ j, j < 122 → 2 ≤ rf_fk k → rf_fk j = rf_fk k → j = k := by decide +kernel
theorem ri_end {ρ : rf_S} {H : Heap} {locs : List Loc} (J : ri_J D h0 79 ρ s H locs) : rf_Gz (h0 + (79 + 1)) D h0 s ρ H locs := by
  obtain ⟨h1, h2, -, h4, h5⟩ := J
  refine ⟨⟨h1.to (fun k hk => ?_), h2⟩, h4, h5⟩
  have := ri_fk k hk
  unfold ri_V rf_V
  split
  · rename_i h; rw [h]
  · rename_i h; rw [h]
  · rename_i h; rw [if_pos (by omega), h]
section RIN
variable {R : Room} {H : Heap} {locs : List Loc} {cells slots : Nat} {Q : State → Prop} {cc : ByteArray} {pc nL : Nat} {ls : Array Slot} {rest : List Value} {ρ : rf_S} {ret : Option FieldType}
/-- the constructor writes a field of its own -/
theorem ri_put (C : rf_C D p s m args meth c cc nL ret) (hini : meth.name = "<init>") {V V' : Nat → Value} (hob : t_OB h0 D.1 122 D.2.1 H V) (hS0 : va_S (rf_A h0) s.heap H locs) (k : Nat) (hk : k < 122) {idx : Nat} (hi : rf_ix k = idx) {v : Value} (hf : (TX12 k).1 = "PartHouseModel") {ty : FieldType} (hd : parseFieldDescriptor (TX12 k).2.2.1 = some ty) (hn : narrow ty v = v) (hfit : fits ty v = true) (hV : ∀ j, j < 122 → updV V k v j = V' j) (hdg : decode cc pc = .ok (.putfield idx, 3))
    (kk : ∀ (H1 : Heap) (locs1 : List Loc), t_OB h0 D.1 122 D.2.1 H1 V' → H1.size = H.size → (∀ q, q ≠ h0 → H1[q]? = H[q]?) → va_S (rf_A h0) s.heap H1 locs1 → W p l e R s m args below meth c H1 locs1 cells slots Q (F0 m (pc + 3) ls rest)) : W p l e R s m args below meth c H locs cells slots Q (F0 m pc ls (v :: .ref h0 :: rest)) := by
  have hap := rf_apart C
  obtain ⟨hx, hb, -, hown, hts, hK, -, -⟩ := C
  obtain ⟨cell, q1, q2, q3, q4⟩ := hob
  obtain ⟨hS, hfc, kC, hkC, hkind⟩ := hK.1
  obtain ⟨cf, kf, fi, f, hfi, hsl⟩ := hS k hk
  subst hi
  have hl := hts _ (rf_link hk)
  have hlay := hts _ (rf_in _ (u_in_lay hk))
  have hst := (u_facts hfc hkC (u_lays hts rf_in hk) hfi).1
  have fin : ∀ (H' : Heap), H'[h0]? = some (cell.setSlot f.slot v) → H'.size = H.size → (∀ q, q ≠ h0 → H'[q]? = H[q]?) → W p l e R s m args below meth c H' (locs ++ [⟨h0, f.slot⟩]) cells slots Q (F0 m (pc + 3) ls rest) := by
    intro H' e1 e2 e3
    rw [hsl] at e1 ⊢
    exact kk H' _ (t_OB.to (V := updV V k v) ⟨_, e1, q2, q3, t_set q4 hap hk v⟩ hV) e2 e3 (hS0.put e2 e3 ⟨Nat.le_refl _, Nat.le_add_right _ _⟩)
  unfold u_lay at hlay
  by_cases hfin : (TX12 k).2.2.2 = true
  · rw [if_pos hfin] at hlay
    have hcf : m.cls = cf := by
      obtain ⟨_, _, c', _, _, _, -, -, hf', -, -, -, hown2, -⟩ := Cond.laysFinal_spec hlay
      have e1 : c' = cf := by have := hfi.symm.trans hf'; simp at this; exact this.1.symm
      rw [hf] at hown2
      rw [← e1]; exact Option.some.inj (hown.symm.trans hown2)
    have h6 := u_fits hfc hkC hkind (Or.inr hlay) hfi hd hn hfit
    rw [hf] at hfi
    exact W.putFinK hx hb hown hl hfi hst hcf hini (by rw [q2]; exact h6) q1 q3 (by rw [hsl]; exact k2_hasslot (q4 k hk)) rfl rfl hdg fin
  · rw [if_neg hfin] at hlay
    have h6 := u_store hfc hkC hkind hlay hfi hd hn hfit
    rw [hf] at hfi
    exact W.putK hx hb (f := f) ⟨hown, hl, ⟨_, _, _, hfi⟩, hst⟩ (by rw [q2]; exact h6) q1 q3 (by rw [hsl]; exact k2_hasslot (q4 k hk)) rfl rfl hdg fin
theorem ri_puti {k n idx : Nat} {x : Int32} (C : rf_C D p s m args meth c cc nL ret) (hini : meth.name = "<init>") (J : ri_J D h0 n ρ s H locs) (hf0 : rf_fk k = 0) (hf : (TX12 k).1 = "PartHouseModel") (hk : k < 122) (hi : rf_ix k = idx) (hd : parseFieldDescriptor (TX12 k).2.2.1 = some .int) (hdg : decode cc pc = .ok (.putfield idx, 3))
    (kk : ∀ (H1 : Heap) (locs1 : List Loc), ri_J D h0 n (rf_w ρ 0 k x) s H1 locs1 → W p l e R s m args below meth c H1 locs1 cells slots Q (F0 m (pc + 3) ls rest)) : W p l e R s m args below meth c H locs cells slots Q (F0 m pc ls (.int x :: .ref h0 :: rest)) := by
  obtain ⟨h1, h2, h3, h4, h5⟩ := J
  refine ri_put C hini h1 h5 k hk hi hf hd rfl rfl (V' := ri_V h0 n (rf_w ρ 0 k x)) (fun j _ => ?_) hdg (fun H1 locs1 g1 g2 g3 g4 => kk H1 locs1 ⟨g1, fun c hc => ?_, fun c j => ?_, g2.trans h4, g4⟩)
  · by_cases h : j = k
    · subst h
      simp [updV, ri_V, hf0, rf_w, up2_s]
    · simp only [updV, h, if_false]
      unfold ri_V
      split <;> simp [rf_w, up2_k h]
  · rw [g3 _ (show (h0 + (c + 1) : Nat) ≠ h0 by omega), h2 c hc, rf_cw]
  · refine ⟨?_, (h3 c j).2⟩
    show up2 ρ.1 0 k x (c + 1) j = 0
    rw [up2_a (by omega)]
    exact (h3 c j).1
theorem ri_new {k n idx t N : Nat} {v : Int32} (C : rf_C D p s m args meth c cc nL ret) (hini : meth.name = "<init>") (J : ri_J D h0 n ρ s H locs) (hA : ri_A D s) (hn : n < 79) (hfk : rf_fk k = n + 2) (hk : k < 122) (ht : rf_ty (n + 1) = t) (hN : rf_ln (n + 1) = N) (atype : ArrayType) (hat : newarray.typeOf atype = rf_T t) (harr : Cond.arrayClass (rf_T t) ∈ rf_tb) (hv : ¬ v < 0 ∧ v.toNatClampNeg = N ∧ N ≤ 690000) (ht4 : t < 4) (hroom : cells + 1 ≤ R.cells ∧ slots + N ≤ R.slots) (hdg : decode cc pc = .ok (.newarray atype, 2)) (hi : rf_ix k = idx) (hf : (TX12 k).1 = "PartHouseModel") (hd : parseFieldDescriptor (TX12 k).2.2.1 = some (.array (rf_T t))) (hdg2 : decode cc (pc + 2) = .ok (.putfield idx, 3))
    (kk : ∀ (H1 : Heap) (locs1 : List Loc), ri_J D h0 (n + 1) ρ s H1 locs1 → W p l e R s m args below meth c H1 locs1 (cells + 1) (slots + N) Q (F0 m (pc + 2 + 3) ls rest)) : W p l e R s m args below meth c H locs cells slots Q (F0 m pc ls (.int v :: .ref h0 :: rest)) := by
  obtain ⟨h1, h2, h3, h4, h5⟩ := J
  have hts := C.2.2.2.2.1
  have hbytes : N * componentBytes (newarray.typeOf atype) ≤ 536870912 := by
    have hb : componentBytes (newarray.typeOf atype) ≤ 8 := by rw [hat]; rcases (show t = 0 ∨ t = 1 ∨ t = 2 ∨ t = 3 by omega) with rfl | rfl | rfl | rfl <;> decide
    exact Nat.le_trans (Nat.mul_le_mul hv.2.2 hb) (by decide)
  refine va_newaK C.1 C.2.1 (by rw [hat]; exact hts _ harr) rfl hdg rfl hv.1 hv.2.1 hbytes hroom.1 hroom.2 h4 fun H1 cA e1 z1 o1 hAr hNm => ?_
  have hcA : cA = D.2.2 t := by
    rw [hat] at hNm
    exact Option.some.inj (hNm.symm.trans (hA t ht4))
  subst hcA
  rw [hat] at e1
  have hnew : H1[h0 + (n + 1)]? = some (rf_cell D.2.2 ρ (n + 1)) := by
    rw [e1]
    unfold rf_cell
    rw [ht, hN]
    rcases (show t = 0 ∨ t = 1 ∨ t = 2 ∨ t = 3 by omega) with rfl | rfl | rfl | rfl <;> simp [rf_T, defaultValue, (h3 n _).1, (h3 n _).2]
  have hob1 : t_OB h0 D.1 122 D.2.1 H1 (ri_V h0 n ρ) := h1.kept (o1 h0 (by omega))
  have hS1 : va_S (rf_A h0) s.heap H1 locs := ⟨by have := h5.1; omega, fun q g1 g2 => by rw [o1 q (by have := h5.1; omega)]; exact h5.2.1 q g1 g2, h5.2.2⟩
  refine ri_put C hini hob1 hS1 k hk hi hf hd rfl rfl (V' := ri_V h0 (n + 1) ρ) (fun j hj => ?_) hdg2 (fun H2 locs2 g1 g2 g3 g4 => kk H2 locs2 ⟨g1, fun c hc => ?_, h3, by rw [g2, z1]; omega, g4⟩)
  · by_cases h : j = k
    · subst h
      simp [updV, ri_V, hfk]
    · simp only [updV, h, if_false]
      unfold ri_V
      split
      · rfl
      · rfl
      · rename_i c hc
        by_cases hcn : c < n
        · rw [if_pos hcn, if_pos (by omega)]
        · rw [if_neg hcn, if_neg (fun q => h (ri_fkj k hk j hj (by omega) (by omega)))]
  · rw [g3 _ (show (h0 + (c + 1) : Nat) ≠ h0 by omega)]
    by_cases hcn : c = n
    · rw [hcn]; exact hnew
    · rw [o1 _ (show (h0 + (c + 1) : Nat) < h0 + (n + 1) by omega)]
      exact h2 c (by omega)
theorem ri_vret {ρ' : rf_S} (C : rf_C D p s m args meth c cc nL none) (G : rf_Gz (h0 + (79 + 1)) D h0 s ρ H locs) (h : some ρ = some ρ') (hdg : decode cc pc = .ok (.return_, 1)) : W p l e R s m args below meth c H locs cells slots (MQ below (ri_Q D h0 ρ') args s cells slots (rf_A h0)) (F0 m pc ls []) := by
  cases h
  exact W.vret C.1 C.2.1 C.2.2.2.2.2.2.1 (fun t ht _ => ⟨rfl, by rw [ht]; exact G.1, by rw [ht]; exact G.2.1, G.2.2.F ht⟩) G.2.2.2.2 hdg C.2.2.2.2.2.2.2
end RIN

noncomputable def lq_init_679 (x1 : Int32) (ρ : rf_S) : Option ((Int32 × rf_S) ⊕ (Int32 × rf_S)) := (if (16384:Int32) ≤ x1 then some (.inr (x1, ρ)) else ix x1 16384 (vl (rf_w ρ 11 x1.toNatClampNeg (-1:Int32)) (fun ρ_1 => vl (x1 + (1:Int32)) (fun x1_2 => some (.inl (x1_2, ρ_1))))))
noncomputable def lq_init_718i703 (x2 : Int32) (x1 : Int32) (x3 : Int64) (ρ : rf_S) : Option ((Int32 × Int64 × rf_S) ⊕ (Int32 × Int64 × rf_S)) := ix x1 188 (vl (rn_tab.getD x1.toNatClampNeg 0) (fun x_4 => (if x_4 = (32:Int32) then some (.inr (x1, x3, ρ)) else ix x1 188 (vl (rn_tab.getD x1.toNatClampNeg 0) (fun x_5 => vl ((x3 <<< ((7:Int32).toInt64 &&& 63)) ||| (x_5.toInt64)) (fun x3_6 => vl (x1 + (1:Int32)) (fun x1_7 => some (.inl (x1_7, x3_6, ρ)))))))))
noncomputable def eq_init_718i703 (x2 : Int32) (x1 : Int32) (x3 : Int64) (ρ : rf_S) : Option ((Int32 × Int32 × rf_S) ⊕ (Int32 × Int32 × rf_S)) := ix x2 42 (vl (rf_w ρ 15 x2.toNatClampNeg x1) (fun ρ_8 => ix x2 42 (vl (rf_wl ρ_8 13 x2.toNatClampNeg x3) (fun ρ_9 => vl (x1 + (1:Int32)) (fun x1_10 => vl (x2 + (1:Int32)) (fun x2_11 => some (.inl (x1_10, x2_11, ρ_9))))))))
noncomputable def bq_init_718i703 (x1 : Int32) (x2 : Int32) (x3 : Int64) (ρ : rf_S) : Option ((Int32 × Int32 × rf_S) ⊕ (Int32 × Int32 × rf_S)) := (lp (fun z : (Int32 × Int64 × rf_S) => lq_init_718i703 x2 z.1 z.2.1 z.2.2) (x1, x3, ρ)).bind (fun z => eq_init_718i703 x2 z.1 z.2.1 z.2.2)
set_option maxHeartbeats 4000000 in
theorem wq_init_718i703 (C : rf_C D p s m args meth c cX12_init 5 none) {x1 : Int32} {x2 : Int32} {x3 : Int64} {ρ ρ' : rf_S} {H : Heap} {locs : List Loc} {ls : Array Slot} (Z : rf_Zs E h0 s) {o : (Int32 × Int32 × rf_S) ⊕ (Int32 × Int32 × rf_S)} (h : bq_init_718i703 x1 x2 x3 ρ = some o) (hP : Sum.elim (fun z : (Int32 × Int32 × rf_S) => ∀ (H : Heap) (locs : List Loc) (ls : Array Slot), rf_Gz (h0 + 80) D h0 s z.2.2 H locs → lv_has ls 5 [(0, .ref h0), (1, .int z.1), (2, .int z.2.1)] → W p l e (ri_R 4 85) s m args below meth c H locs 79 2124100 (MQ below (ri_Q D h0 ρ') args s 79 2124100 (rf_A h0)) (F0 m 703 ls [])) (fun z : (Int32 × Int32 × rf_S) => ∀ (H : Heap) (locs : List Loc) (ls : Array Slot), rf_Gz (h0 + 80) D h0 s z.2.2 H locs → lv_has ls 5 [(0, .ref h0), (1, .int z.1), (2, .int z.2.1)] → W p l e (ri_R 4 85) s m args below meth c H locs 79 2124100 (MQ below (ri_Q D h0 ρ') args s 79 2124100 (rf_A h0)) (F0 m 773 ls [])) o) (G : rf_Gz (h0 + 80) D h0 s ρ H locs) (hl : lv_has ls 5 [(0, .ref h0), (1, .int x1), (2, .int x2), (3, .long x3)]) : W p l e (ri_R 4 85) s m args below meth c H locs 79 2124100 (MQ below (ri_Q D h0 ρ') args s 79 2124100 (rf_A h0)) (F0 m 718 ls []) := by
  unfold bq_init_718i703 at h
  obtain ⟨y, hy, h⟩ := bd_some h
  have hE : (fun z : (Int32 × Int64 × rf_S) => ∀ (H : Heap) (locs : List Loc) (ls : Array Slot), rf_Gz (h0 + 80) D h0 s z.2.2 H locs → lv_has ls 5 [(0, .ref h0), (1, .int z.1), (2, .int x2), (3, .long z.2.1)] → W p l e (ri_R 4 85) s m args below meth c H locs 79 2124100 (MQ below (ri_Q D h0 ρ') args s 79 2124100 (rf_A h0)) (F0 m 750 ls [])) y := by
    intro H locs ls G hl
    obtain ⟨x1, x3, ρ⟩ := y
    dsimp only at h G hl
    unfold eq_init_718i703 at h
    refine lv_aload_n C.1 C.2.1 dX12_init_750 rfl (lv_at hl 0 rfl) ?_
    refine gf_24 C G dX12_init_751 ?_
    refine lv_iload_n C.1 C.2.1 dX12_init_754 rfl (lv_at hl 2 rfl) ?_
    refine lv_iload_n C.1 C.2.1 dX12_init_755 rfl (lv_at hl 1 rfl) ?_
    obtain ⟨hi, h⟩ := ix_some h
    refine rf_iast C G 15 rfl (by decide) rfl rfl hi dX12_init_756 (fun H locs G => ?_)
    refine rf_nm G h (fun ρ_8 G h => ?_)
    refine lv_aload_n C.1 C.2.1 dX12_init_757 rfl (lv_at hl 0 rfl) ?_
    refine gf_22 C G dX12_init_758 ?_
    refine lv_iload_n C.1 C.2.1 dX12_init_761 rfl (lv_at hl 2 rfl) ?_
    refine lv_lload_n C.1 C.2.1 dX12_init_762 rfl (lv_at hl 3 rfl) ?_
    obtain ⟨hi, h⟩ := ix_some h
    refine rf_last C G 13 rfl (by decide) rfl rfl hi dX12_init_763 (fun H locs G => ?_)
    refine rf_nm G h (fun ρ_9 G h => ?_)
    refine vl_ex h (fun x1_10 ey h => ?_)
    refine lv_iinc (v := x1_10) (lv' := [(1, .int x1_10), (0, .ref h0), (2, .int x2), (3, .long x3)]) C.1 C.2.1 dX12_init_764 hl (k := 1) rfl (by rw [ey]; rfl) (by decide) rfl (fun ls hl => ?_)
    refine vl_ex h (fun x2_11 ey h => ?_)
    refine lv_iinc (v := x2_11) (lv' := [(2, .int x2_11), (1, .int x1_10), (0, .ref h0), (3, .long x3)]) C.1 C.2.1 dX12_init_767 hl (k := 2) rfl (by rw [ey]; rfl) (by decide) rfl (fun ls hl => ?_)
    refine lv_goto (tgt := 703) C.1 C.2.1 dX12_init_770 (by decide) ?_
    cases h
    exact hP _ _ _ G (lv_sub hl [2, 1, 0] rfl)
  refine lp_recE (fun z : (Int32 × Int64 × rf_S) => ∀ (H : Heap) (locs : List Loc) (ls : Array Slot), rf_Gz (h0 + 80) D h0 s z.2.2 H locs → lv_has ls 5 [(0, .ref h0), (1, .int z.1), (2, .int x2), (3, .long z.2.1)] → W p l e (ri_R 4 85) s m args below meth c H locs 79 2124100 (MQ below (ri_Q D h0 ρ') args s 79 2124100 (rf_A h0)) (F0 m 718 ls [])) (fun z : (Int32 × Int64 × rf_S) => ∀ (H : Heap) (locs : List Loc) (ls : Array Slot), rf_Gz (h0 + 80) D h0 s z.2.2 H locs → lv_has ls 5 [(0, .ref h0), (1, .int z.1), (2, .int x2), (3, .long z.2.1)] → W p l e (ri_R 4 85) s m args below meth c H locs 79 2124100 (MQ below (ri_Q D h0 ρ') args s 79 2124100 (rf_A h0)) (F0 m 750 ls [])) ?_ _ _ hy hE _ _ _ G hl
  clear hE hy G hl h hP
  intro z o h hP H locs ls G hl
  obtain ⟨x1, x3, ρ⟩ := z
  dsimp only at h G hl
  unfold lq_init_718i703 at h
  refine lv_ldcSW C.1 C.2.1 C.2.2.2.1 Z.2.2.2 dX12_init_718 ?_
  refine lv_iload_n C.1 C.2.1 dX12_init_721 rfl (lv_at hl 1 rfl) ?_
  obtain ⟨hi, h⟩ := ix_some h
  refine rf_callJ (rest := []) C G Z jl_X12_265 jim_J0_charAt_5068e cc_J0_charAt_5068e ji_0 jse_J0_charAt_5068e (n := 1) (by decide +kernel) [.int x1] _ (rf_charAt hi) (Nat.le_of_ble_eq_true rfl) (Nat.le_of_ble_eq_true rfl) rfl rfl hl.1 (Nat.le_of_ble_eq_true rfl) (Nat.le_refl _) (Nat.le_refl _) dX12_init_722 ?_
  refine vt_i h (fun x_4 h => ?_)
  refine W.eq (g2 := F0 m 725 ls [.int x_4]) rfl ?_
  refine lv_bipush (v := (32:Int32)) C.1 C.2.1 dX12_init_725 (by decide) ?_
  refine lv_icmp_eq (tgt := 750) C.1 C.2.1 dX12_init_727 (by decide) (fun hc => ?_) (fun hc => ?_)
  · rw [if_pos hc] at h
    cases h
    exact hP _ _ _ G (lv_sub hl [0, 1, 2, 3] rfl)
  · rw [if_neg hc] at h
    refine lv_lload_n C.1 C.2.1 dX12_init_730 rfl (lv_at hl 3 rfl) ?_
    refine lv_bipush (v := (7:Int32)) C.1 C.2.1 dX12_init_731 (by decide) ?_
    refine lv_lshl C.1 C.2.1 dX12_init_733 rfl ?_
    refine lv_ldcSW C.1 C.2.1 C.2.2.2.1 Z.2.2.2 dX12_init_734 ?_
    refine lv_iload_n C.1 C.2.1 dX12_init_737 rfl (lv_at hl 1 rfl) ?_
    obtain ⟨hi, h⟩ := ix_some h
    refine rf_callJ (rest := [.long (x3 <<< ((7:Int32).toInt64 &&& 63))]) C G Z jl_X12_265 jim_J0_charAt_5068e cc_J0_charAt_5068e ji_0 jse_J0_charAt_5068e (n := 1) (by decide +kernel) [.int x1] _ (rf_charAt hi) (Nat.le_of_ble_eq_true rfl) (Nat.le_of_ble_eq_true rfl) rfl rfl hl.1 (Nat.le_of_ble_eq_true rfl) (Nat.le_refl _) (Nat.le_refl _) dX12_init_738 ?_
    refine vt_i h (fun x_5 h => ?_)
    refine W.eq (g2 := F0 m 741 ls [.int x_5, .long (x3 <<< ((7:Int32).toInt64 &&& 63))]) rfl ?_
    refine lv_i2l C.1 C.2.1 dX12_init_741 rfl ?_
    refine lv_lor C.1 C.2.1 dX12_init_742 ?_
    refine vt_l h (fun x3_6 h => ?_)
    refine lv_lstore_n (lv' := [(3, .long x3_6), (0, .ref h0), (1, .int x1), (2, .int x2)]) C.1 C.2.1 dX12_init_743 rfl hl (by decide) rfl (fun ls hl => ?_)
    refine vl_ex h (fun x1_7 ey h => ?_)
    refine lv_iinc (v := x1_7) (lv' := [(1, .int x1_7), (3, .long x3_6), (0, .ref h0), (2, .int x2)]) C.1 C.2.1 dX12_init_744 hl (k := 2) rfl (by rw [ey]; rfl) (by decide) rfl (fun ls hl => ?_)
    refine lv_goto (tgt := 718) C.1 C.2.1 dX12_init_747 (by decide) ?_
    cases h
    exact hP _ _ _ G (lv_sub hl [2, 0, 3, 1] rfl)
noncomputable def lq_init_703 (x1 : Int32) (x2 : Int32) (ρ : rf_S) : Option ((Int32 × Int32 × rf_S) ⊕ (Int32 × Int32 × rf_S)) := (if (41:Int32) < x2 then some (.inr (x1, x2, ρ)) else ix x2 42 (vl (rf_w ρ 14 x2.toNatClampNeg x1) (fun ρ_3 => bq_init_718i703 x1 x2 (0:Int64) ρ_3)))
noncomputable def lq_init_775 (x2 : Int32) (ρ : rf_S) : Option ((Int32 × rf_S) ⊕ (Int32 × rf_S)) := (if (128:Int32) ≤ x2 then some (.inr (x2, ρ)) else ix x2 128 (vl (rf_w ρ 75 x2.toNatClampNeg (-1:Int32)) (fun ρ_12 => vl (x2 + (1:Int32)) (fun x2_13 => some (.inl (x2_13, ρ_12))))))
noncomputable def eq_init_775 (x2 : Int32) (ρ : rf_S) : Option (rf_S) := bd2 (fq_term (2:Int32) (0:Int32) (0:Int32) (0:Int32) ρ) (fun r_15 ρ_14 => vl (rf_w ρ_14 0 19 r_15) (fun ρ_16 => vl (rf_w ρ_16 0 13 (1:Int32)) (fun ρ_17 => bd2 (fq_term (0:Int32) (1:Int32) (0:Int32) (0:Int32) ρ_17) (fun r_19 ρ_18 => bd2 (fq_term (9:Int32) (ρ_17.1 0 19) r_19 (0:Int32) ρ_18) (fun r_21 ρ_20 => vl (rf_w ρ_20 0 20 r_21) (fun ρ_22 => bd2 (fq_term (6:Int32) (ρ_22.1 0 20) (0:Int32) (0:Int32) ρ_22) (fun r_24 ρ_23 => vl (rf_w ρ_23 0 21 r_24) (fun ρ_25 => ix (ρ_25.1 0 21) 112000 (vl (rf_w ρ_25 6 (ρ_25.1 0 21).toNatClampNeg (vp_nar .boolean (1:Int32))) (fun ρ_26 => some ρ_26))))))))))
noncomputable def bq_init_775 (x2 : Int32) (ρ : rf_S) : Option (rf_S) := (lp (fun z : (Int32 × rf_S) => lq_init_775  z.1 z.2) (x2, ρ)).bind (fun z => eq_init_775  z.1 z.2)
set_option maxHeartbeats 4000000 in
theorem wq_init_775 (C : rf_C D p s m args meth c cX12_init 5 none) {x2 : Int32} {ρ ρ' : rf_S} {H : Heap} {locs : List Loc} {ls : Array Slot} (Z : rf_Zs E h0 s) (h : bq_init_775 x2 ρ = some ρ') (G : rf_Gz (h0 + 80) D h0 s ρ H locs) (hl : lv_has ls 5 [(0, .ref h0), (2, .int x2)]) : W p l e (ri_R 4 85) s m args below meth c H locs 79 2124100 (MQ below (ri_Q D h0 ρ') args s 79 2124100 (rf_A h0)) (F0 m 775 ls []) := by
  unfold bq_init_775 at h
  obtain ⟨y, hy, h⟩ := bd_some h
  have hE : (fun z : (Int32 × rf_S) => ∀ (H : Heap) (locs : List Loc) (ls : Array Slot), rf_Gz (h0 + 80) D h0 s z.2 H locs → lv_has ls 5 [(0, .ref h0), (2, .int z.1)] → W p l e (ri_R 4 85) s m args below meth c H locs 79 2124100 (MQ below (ri_Q D h0 ρ') args s 79 2124100 (rf_A h0)) (F0 m 795 ls [])) y := by
    intro H locs ls G hl
    obtain ⟨x2, ρ⟩ := y
    dsimp only at h G hl
    unfold eq_init_775 at h
    refine lv_aload_n C.1 C.2.1 dX12_init_795 rfl (lv_at hl 0 rfl) ?_
    refine lv_aload_n C.1 C.2.1 dX12_init_796 rfl (lv_at hl 0 rfl) ?_
    refine lv_iconst (v := (2:Int32)) C.1 C.2.1 dX12_init_797 (by decide) ?_
    refine lv_iconst (v := (0:Int32)) C.1 C.2.1 dX12_init_798 (by decide) ?_
    refine lv_iconst (v := (0:Int32)) C.1 C.2.1 dX12_init_799 (by decide) ?_
    refine lv_iconst (v := (0:Int32)) C.1 C.2.1 dX12_init_800 (by decide) ?_
    obtain ⟨r_15, ρ_14, hq, h⟩ := bd2_some h
    refine rf_callV (rest := [.ref h0]) C G cw_term [.int (2:Int32), .int (0:Int32), .int (0:Int32), .int (0:Int32)] _ (kq_term l D h0 hq) (Nat.le_of_ble_eq_true rfl) (Nat.le_of_ble_eq_true rfl) rfl rfl hl.1 (Nat.le_of_ble_eq_true rfl) (Nat.le_refl _) (Nat.le_refl _) dX12_init_801 (fun H locs G => ?_)
    refine W.eq (g2 := F0 m 804 ls [.int r_15, .ref h0]) rfl ?_
    refine pf_19 C G dX12_init_804 (fun H locs G => ?_)
    refine rf_nm G h (fun ρ_16 G h => ?_)
    refine lv_aload_n C.1 C.2.1 dX12_init_807 rfl (lv_at hl 0 rfl) ?_
    refine lv_iconst (v := (1:Int32)) C.1 C.2.1 dX12_init_808 (by decide) ?_
    refine pf_13 C G dX12_init_809 (fun H locs G => ?_)
    refine rf_nm G h (fun ρ_17 G h => ?_)
    refine lv_aload_n C.1 C.2.1 dX12_init_812 rfl (lv_at hl 0 rfl) ?_
    refine lv_aload_n C.1 C.2.1 dX12_init_813 rfl (lv_at hl 0 rfl) ?_
    refine lv_bipush (v := (9:Int32)) C.1 C.2.1 dX12_init_814 (by decide) ?_
    refine lv_aload_n C.1 C.2.1 dX12_init_816 rfl (lv_at hl 0 rfl) ?_
    refine gf_19 C G dX12_init_817 ?_
    refine lv_aload_n C.1 C.2.1 dX12_init_820 rfl (lv_at hl 0 rfl) ?_
    refine lv_iconst (v := (0:Int32)) C.1 C.2.1 dX12_init_821 (by decide) ?_
    refine lv_iconst (v := (1:Int32)) C.1 C.2.1 dX12_init_822 (by decide) ?_
    refine lv_iconst (v := (0:Int32)) C.1 C.2.1 dX12_init_823 (by decide) ?_
    refine lv_iconst (v := (0:Int32)) C.1 C.2.1 dX12_init_824 (by decide) ?_
    obtain ⟨r_19, ρ_18, hq, h⟩ := bd2_some h
    refine rf_callV (rest := [.int (ρ_17.1 0 19), .int (9:Int32), .ref h0, .ref h0]) C G cw_term [.int (0:Int32), .int (1:Int32), .int (0:Int32), .int (0:Int32)] _ (kq_term l D h0 hq) (Nat.le_of_ble_eq_true rfl) (Nat.le_of_ble_eq_true rfl) rfl rfl hl.1 (Nat.le_of_ble_eq_true rfl) (Nat.le_refl _) (Nat.le_refl _) dX12_init_825 (fun H locs G => ?_)
    refine W.eq (g2 := F0 m 828 ls [.int r_19, .int (ρ_17.1 0 19), .int (9:Int32), .ref h0, .ref h0]) rfl ?_
    refine lv_iconst (v := (0:Int32)) C.1 C.2.1 dX12_init_828 (by decide) ?_
    obtain ⟨r_21, ρ_20, hq, h⟩ := bd2_some h
    refine rf_callV (rest := [.ref h0]) C G cw_term [.int (9:Int32), .int (ρ_17.1 0 19), .int r_19, .int (0:Int32)] _ (kq_term l D h0 hq) (Nat.le_of_ble_eq_true rfl) (Nat.le_of_ble_eq_true rfl) rfl rfl hl.1 (Nat.le_of_ble_eq_true rfl) (Nat.le_refl _) (Nat.le_refl _) dX12_init_829 (fun H locs G => ?_)
    refine W.eq (g2 := F0 m 832 ls [.int r_21, .ref h0]) rfl ?_
    refine pf_20 C G dX12_init_832 (fun H locs G => ?_)
    refine rf_nm G h (fun ρ_22 G h => ?_)
    refine lv_aload_n C.1 C.2.1 dX12_init_835 rfl (lv_at hl 0 rfl) ?_
    refine lv_aload_n C.1 C.2.1 dX12_init_836 rfl (lv_at hl 0 rfl) ?_
    refine lv_bipush (v := (6:Int32)) C.1 C.2.1 dX12_init_837 (by decide) ?_
    refine lv_aload_n C.1 C.2.1 dX12_init_839 rfl (lv_at hl 0 rfl) ?_
    refine gf_20 C G dX12_init_840 ?_
    refine lv_iconst (v := (0:Int32)) C.1 C.2.1 dX12_init_843 (by decide) ?_
    refine lv_iconst (v := (0:Int32)) C.1 C.2.1 dX12_init_844 (by decide) ?_
    obtain ⟨r_24, ρ_23, hq, h⟩ := bd2_some h
    refine rf_callV (rest := [.ref h0]) C G cw_term [.int (6:Int32), .int (ρ_22.1 0 20), .int (0:Int32), .int (0:Int32)] _ (kq_term l D h0 hq) (Nat.le_of_ble_eq_true rfl) (Nat.le_of_ble_eq_true rfl) rfl rfl hl.1 (Nat.le_of_ble_eq_true rfl) (Nat.le_refl _) (Nat.le_refl _) dX12_init_845 (fun H locs G => ?_)
    refine W.eq (g2 := F0 m 848 ls [.int r_24, .ref h0]) rfl ?_
    refine pf_21 C G dX12_init_848 (fun H locs G => ?_)
    refine rf_nm G h (fun ρ_25 G h => ?_)
    refine lv_aload_n C.1 C.2.1 dX12_init_851 rfl (lv_at hl 0 rfl) ?_
    refine gf_5 C G dX12_init_852 ?_
    refine lv_aload_n C.1 C.2.1 dX12_init_855 rfl (lv_at hl 0 rfl) ?_
    refine gf_21 C G dX12_init_856 ?_
    refine lv_iconst (v := (1:Int32)) C.1 C.2.1 dX12_init_859 (by decide) ?_
    obtain ⟨hi, h⟩ := ix_some h
    refine rf_zast C G 6 rfl (by decide) rfl rfl hi dX12_init_860 (fun H locs G => ?_)
    refine rf_nm G h (fun ρ_26 G h => ?_)
    exact ri_vret C G h dX12_init_861
  refine lp_recE (fun z : (Int32 × rf_S) => ∀ (H : Heap) (locs : List Loc) (ls : Array Slot), rf_Gz (h0 + 80) D h0 s z.2 H locs → lv_has ls 5 [(0, .ref h0), (2, .int z.1)] → W p l e (ri_R 4 85) s m args below meth c H locs 79 2124100 (MQ below (ri_Q D h0 ρ') args s 79 2124100 (rf_A h0)) (F0 m 775 ls [])) (fun z : (Int32 × rf_S) => ∀ (H : Heap) (locs : List Loc) (ls : Array Slot), rf_Gz (h0 + 80) D h0 s z.2 H locs → lv_has ls 5 [(0, .ref h0), (2, .int z.1)] → W p l e (ri_R 4 85) s m args below meth c H locs 79 2124100 (MQ below (ri_Q D h0 ρ') args s 79 2124100 (rf_A h0)) (F0 m 795 ls [])) ?_ _ _ hy hE _ _ _ G hl
  clear hE hy G hl h
  intro z o h hP H locs ls G hl
  obtain ⟨x2, ρ⟩ := z
  dsimp only at h G hl
  unfold lq_init_775 at h
  refine lv_iload_n C.1 C.2.1 dX12_init_775 rfl (lv_at hl 1 rfl) ?_
  refine lv_sipush (v := (128:Int32)) C.1 C.2.1 dX12_init_776 (by decide) ?_
  refine lv_icmp_ge (tgt := 795) C.1 C.2.1 dX12_init_779 (by decide) (fun hc => ?_) (fun hc => ?_)
  · rw [if_pos hc] at h
    cases h
    exact hP _ _ _ G (lv_sub hl [0, 1] rfl)
  · rw [if_neg hc] at h
    refine lv_aload_n C.1 C.2.1 dX12_init_782 rfl (lv_at hl 0 rfl) ?_
    refine gf_107 C G dX12_init_783 ?_
    refine lv_iload_n C.1 C.2.1 dX12_init_786 rfl (lv_at hl 1 rfl) ?_
    refine lv_iconst (v := (-1:Int32)) C.1 C.2.1 dX12_init_787 (by decide) ?_
    obtain ⟨hi, h⟩ := ix_some h
    refine rf_iast C G 75 rfl (by decide) rfl rfl hi dX12_init_788 (fun H locs G => ?_)
    refine rf_nm G h (fun ρ_12 G h => ?_)
    refine vl_ex h (fun x2_13 ey h => ?_)
    refine lv_iinc (v := x2_13) (lv' := [(2, .int x2_13), (0, .ref h0)]) C.1 C.2.1 dX12_init_789 hl (k := 1) rfl (by rw [ey]; rfl) (by decide) rfl (fun ls hl => ?_)
    refine lv_goto (tgt := 775) C.1 C.2.1 dX12_init_792 (by decide) ?_
    cases h
    exact hP _ _ _ G (lv_sub hl [1, 0] rfl)
noncomputable def eq_init_703 (x1 : Int32) (x2 : Int32) (ρ : rf_S) : Option (rf_S) := bq_init_775 (0:Int32) ρ
noncomputable def bq_init_703 (x1 : Int32) (x2 : Int32) (ρ : rf_S) : Option (rf_S) := (lp (fun z : (Int32 × Int32 × rf_S) => lq_init_703  z.1 z.2.1 z.2.2) (x1, x2, ρ)).bind (fun z => eq_init_703  z.1 z.2.1 z.2.2)
set_option maxHeartbeats 4000000 in
theorem wq_init_703 (C : rf_C D p s m args meth c cX12_init 5 none) {x1 : Int32} {x2 : Int32} {ρ ρ' : rf_S} {H : Heap} {locs : List Loc} {ls : Array Slot} (Z : rf_Zs E h0 s) (h : bq_init_703 x1 x2 ρ = some ρ') (G : rf_Gz (h0 + 80) D h0 s ρ H locs) (hl : lv_has ls 5 [(0, .ref h0), (1, .int x1), (2, .int x2)]) : W p l e (ri_R 4 85) s m args below meth c H locs 79 2124100 (MQ below (ri_Q D h0 ρ') args s 79 2124100 (rf_A h0)) (F0 m 703 ls []) := by
  unfold bq_init_703 at h
  obtain ⟨y, hy, h⟩ := bd_some h
  have hE : (fun z : (Int32 × Int32 × rf_S) => ∀ (H : Heap) (locs : List Loc) (ls : Array Slot), rf_Gz (h0 + 80) D h0 s z.2.2 H locs → lv_has ls 5 [(0, .ref h0), (1, .int z.1), (2, .int z.2.1)] → W p l e (ri_R 4 85) s m args below meth c H locs 79 2124100 (MQ below (ri_Q D h0 ρ') args s 79 2124100 (rf_A h0)) (F0 m 773 ls [])) y := by
    intro H locs ls G hl
    obtain ⟨x1, x2, ρ⟩ := y
    dsimp only at h G hl
    unfold eq_init_703 at h
    refine lv_iconst (v := (0:Int32)) C.1 C.2.1 dX12_init_773 (by decide) ?_
    refine lv_istore_n (lv' := [(2, .int (0:Int32)), (0, .ref h0), (1, .int x1)]) C.1 C.2.1 dX12_init_774 rfl hl (by decide) rfl (fun ls hl => ?_)
    exact wq_init_775 C Z h G (lv_sub hl [1, 0] rfl)
  refine lp_recE (fun z : (Int32 × Int32 × rf_S) => ∀ (H : Heap) (locs : List Loc) (ls : Array Slot), rf_Gz (h0 + 80) D h0 s z.2.2 H locs → lv_has ls 5 [(0, .ref h0), (1, .int z.1), (2, .int z.2.1)] → W p l e (ri_R 4 85) s m args below meth c H locs 79 2124100 (MQ below (ri_Q D h0 ρ') args s 79 2124100 (rf_A h0)) (F0 m 703 ls [])) (fun z : (Int32 × Int32 × rf_S) => ∀ (H : Heap) (locs : List Loc) (ls : Array Slot), rf_Gz (h0 + 80) D h0 s z.2.2 H locs → lv_has ls 5 [(0, .ref h0), (1, .int z.1), (2, .int z.2.1)] → W p l e (ri_R 4 85) s m args below meth c H locs 79 2124100 (MQ below (ri_Q D h0 ρ') args s 79 2124100 (rf_A h0)) (F0 m 773 ls [])) ?_ _ _ hy hE _ _ _ G hl
  clear hE hy G hl h
  intro z o h hP H locs ls G hl
  obtain ⟨x1, x2, ρ⟩ := z
  dsimp only at h G hl
  unfold lq_init_703 at h
  refine lv_iload_n C.1 C.2.1 dX12_init_703 rfl (lv_at hl 2 rfl) ?_
  refine lv_bipush (v := (41:Int32)) C.1 C.2.1 dX12_init_704 (by decide) ?_
  refine lv_icmp_gt (tgt := 773) C.1 C.2.1 dX12_init_706 (by decide) (fun hc => ?_) (fun hc => ?_)
  · rw [if_pos hc] at h
    cases h
    exact hP _ _ _ G (lv_sub hl [0, 1, 2] rfl)
  · rw [if_neg hc] at h
    refine lv_aload_n C.1 C.2.1 dX12_init_709 rfl (lv_at hl 0 rfl) ?_
    refine gf_23 C G dX12_init_710 ?_
    refine lv_iload_n C.1 C.2.1 dX12_init_713 rfl (lv_at hl 2 rfl) ?_
    refine lv_iload_n C.1 C.2.1 dX12_init_714 rfl (lv_at hl 1 rfl) ?_
    obtain ⟨hi, h⟩ := ix_some h
    refine rf_iast C G 14 rfl (by decide) rfl rfl hi dX12_init_715 (fun H locs G => ?_)
    refine rf_nm G h (fun ρ_3 G h => ?_)
    refine lv_lconst (v := (0:Int64)) C.1 C.2.1 dX12_init_716 (by decide) ?_
    refine lv_lstore_n (lv' := [(3, .long (0:Int64)), (0, .ref h0), (1, .int x1), (2, .int x2)]) C.1 C.2.1 dX12_init_717 rfl hl (by decide) rfl (fun ls hl => ?_)
    exact wq_init_718i703 C Z h hP G (lv_sub hl [1, 2, 3, 0] rfl)
noncomputable def eq_init_679 (x1 : Int32) (ρ : rf_S) : Option (rf_S) := bq_init_703 (0:Int32) (1:Int32) ρ
noncomputable def bq_init_679 (x1 : Int32) (ρ : rf_S) : Option (rf_S) := (lp (fun z : (Int32 × rf_S) => lq_init_679  z.1 z.2) (x1, ρ)).bind (fun z => eq_init_679  z.1 z.2)
set_option maxHeartbeats 4000000 in
theorem wq_init_679 (C : rf_C D p s m args meth c cX12_init 5 none) {x1 : Int32} {ρ ρ' : rf_S} {H : Heap} {locs : List Loc} {ls : Array Slot} (Z : rf_Zs E h0 s) (h : bq_init_679 x1 ρ = some ρ') (G : rf_Gz (h0 + 80) D h0 s ρ H locs) (hl : lv_has ls 5 [(0, .ref h0), (1, .int x1)]) : W p l e (ri_R 4 85) s m args below meth c H locs 79 2124100 (MQ below (ri_Q D h0 ρ') args s 79 2124100 (rf_A h0)) (F0 m 679 ls []) := by
  unfold bq_init_679 at h
  obtain ⟨y, hy, h⟩ := bd_some h
  have hE : (fun z : (Int32 × rf_S) => ∀ (H : Heap) (locs : List Loc) (ls : Array Slot), rf_Gz (h0 + 80) D h0 s z.2 H locs → lv_has ls 5 [(0, .ref h0), (1, .int z.1)] → W p l e (ri_R 4 85) s m args below meth c H locs 79 2124100 (MQ below (ri_Q D h0 ρ') args s 79 2124100 (rf_A h0)) (F0 m 699 ls [])) y := by
    intro H locs ls G hl
    obtain ⟨x1, ρ⟩ := y
    dsimp only at h G hl
    unfold eq_init_679 at h
    refine lv_iconst (v := (0:Int32)) C.1 C.2.1 dX12_init_699 (by decide) ?_
    refine lv_istore_n (lv' := [(1, .int (0:Int32)), (0, .ref h0)]) C.1 C.2.1 dX12_init_700 rfl hl (by decide) rfl (fun ls hl => ?_)
    refine lv_iconst (v := (1:Int32)) C.1 C.2.1 dX12_init_701 (by decide) ?_
    refine lv_istore_n (lv' := [(2, .int (1:Int32)), (1, .int (0:Int32)), (0, .ref h0)]) C.1 C.2.1 dX12_init_702 rfl hl (by decide) rfl (fun ls hl => ?_)
    exact wq_init_703 C Z h G (lv_sub hl [2, 1, 0] rfl)
  refine lp_recE (fun z : (Int32 × rf_S) => ∀ (H : Heap) (locs : List Loc) (ls : Array Slot), rf_Gz (h0 + 80) D h0 s z.2 H locs → lv_has ls 5 [(0, .ref h0), (1, .int z.1)] → W p l e (ri_R 4 85) s m args below meth c H locs 79 2124100 (MQ below (ri_Q D h0 ρ') args s 79 2124100 (rf_A h0)) (F0 m 679 ls [])) (fun z : (Int32 × rf_S) => ∀ (H : Heap) (locs : List Loc) (ls : Array Slot), rf_Gz (h0 + 80) D h0 s z.2 H locs → lv_has ls 5 [(0, .ref h0), (1, .int z.1)] → W p l e (ri_R 4 85) s m args below meth c H locs 79 2124100 (MQ below (ri_Q D h0 ρ') args s 79 2124100 (rf_A h0)) (F0 m 699 ls [])) ?_ _ _ hy hE _ _ _ G hl
  clear hE hy G hl h
  intro z o h hP H locs ls G hl
  obtain ⟨x1, ρ⟩ := z
  dsimp only at h G hl
  unfold lq_init_679 at h
  refine lv_iload_n C.1 C.2.1 dX12_init_679 rfl (lv_at hl 1 rfl) ?_
  refine lv_sipush (v := (16384:Int32)) C.1 C.2.1 dX12_init_680 (by decide) ?_
  refine lv_icmp_ge (tgt := 699) C.1 C.2.1 dX12_init_683 (by decide) (fun hc => ?_) (fun hc => ?_)
  · rw [if_pos hc] at h
    cases h
    exact hP _ _ _ G (lv_sub hl [0, 1] rfl)
  · rw [if_neg hc] at h
    refine lv_aload_n C.1 C.2.1 dX12_init_686 rfl (lv_at hl 0 rfl) ?_
    refine gf_11 C G dX12_init_687 ?_
    refine lv_iload_n C.1 C.2.1 dX12_init_690 rfl (lv_at hl 1 rfl) ?_
    refine lv_iconst (v := (-1:Int32)) C.1 C.2.1 dX12_init_691 (by decide) ?_
    obtain ⟨hi, h⟩ := ix_some h
    refine rf_iast C G 11 rfl (by decide) rfl rfl hi dX12_init_692 (fun H locs G => ?_)
    refine rf_nm G h (fun ρ_1 G h => ?_)
    refine vl_ex h (fun x1_2 ey h => ?_)
    refine lv_iinc (v := x1_2) (lv' := [(1, .int x1_2), (0, .ref h0)]) C.1 C.2.1 dX12_init_693 hl (k := 1) rfl (by rw [ey]; rfl) (by decide) rfl (fun ls hl => ?_)
    refine lv_goto (tgt := 679) C.1 C.2.1 dX12_init_696 (by decide) ?_
    cases h
    exact hP _ _ _ G (lv_sub hl [1, 0] rfl)
noncomputable def bq_init_677  (ρ : rf_S) : Option (rf_S) := bq_init_679 (0:Int32) ρ
set_option maxHeartbeats 4000000 in
theorem wq_init_677 (C : rf_C D p s m args meth c cX12_init 5 none) {ρ ρ' : rf_S} {H : Heap} {locs : List Loc} {ls : Array Slot} (Z : rf_Zs E h0 s) (h : bq_init_677 ρ = some ρ') (G : rf_Gz (h0 + 80) D h0 s ρ H locs) (hl : lv_has ls 5 [(0, .ref h0)]) : W p l e (ri_R 4 85) s m args below meth c H locs 79 2124100 (MQ below (ri_Q D h0 ρ') args s 79 2124100 (rf_A h0)) (F0 m 677 ls []) := by
  unfold bq_init_677 at h
  refine lv_iconst (v := (0:Int32)) C.1 C.2.1 dX12_init_677 (by decide) ?_
  refine lv_istore_n (lv' := [(1, .int (0:Int32)), (0, .ref h0)]) C.1 C.2.1 dX12_init_678 rfl hl (by decide) rfl (fun ls hl => ?_)
  exact wq_init_679 C Z h G (lv_sub hl [1, 0] rfl)
theorem kc_7 : Cond.constant RX12 7 (112000 : Int32) ∈ rf_tb := rf_at 1511 (by decide +kernel) (by decide +kernel)
theorem kc_37 : Cond.constant RX12 37 (336000 : Int32) ∈ rf_tb := rf_at 1512 (by decide +kernel) (by decide +kernel)
theorem kc_54 : Cond.constant RX12 54 (690000 : Int32) ∈ rf_tb := rf_at 1513 (by decide +kernel) (by decide +kernel)
theorem wi_677 (C : rf_C D p s m args meth c cX12_init 5 none) (hn9 : meth.name = "<init>") (Z : rf_Zs E h0 s) (hA : ri_A D s) {ρ' : rf_S} {H : Heap} {locs : List Loc} {ls : Array Slot} (h : bq_init_677 (rf_w (rf_w (rf_w rf_0 0 15 (-1:Int32)) 0 16 (-1:Int32)) 0 41 (-1:Int32)) = some ρ') (J : ri_J D h0 79 (rf_w (rf_w (rf_w rf_0 0 15 (-1:Int32)) 0 16 (-1:Int32)) 0 41 (-1:Int32)) s H locs) (hl : lv_has ls 5 [(0, .ref h0)]) : W p l e (ri_R 4 85) s m args below meth c H locs 79 2124100 (MQ below (ri_Q D h0 ρ') args s 79 2124100 (rf_A h0)) (F0 m 677 ls []) := by
  exact wq_init_677 C Z h (ri_end J) hl
set_option maxRecDepth 4000 in
set_option maxHeartbeats 4000000 in
theorem wi_590 (C : rf_C D p s m args meth c cX12_init 5 none) (hn9 : meth.name = "<init>") (Z : rf_Zs E h0 s) (hA : ri_A D s) {ρ' : rf_S} {H : Heap} {locs : List Loc} {ls : Array Slot} (h : bq_init_677 (rf_w (rf_w (rf_w rf_0 0 15 (-1:Int32)) 0 16 (-1:Int32)) 0 41 (-1:Int32)) = some ρ') (J : ri_J D h0 69 (rf_w (rf_w (rf_w rf_0 0 15 (-1:Int32)) 0 16 (-1:Int32)) 0 41 (-1:Int32)) s H locs) (hl : lv_has ls 5 [(0, .ref h0)]) : W p l e (ri_R 4 85) s m args below meth c H locs 69 2116304 (MQ below (ri_Q D h0 ρ') args s 79 2124100 (rf_A h0)) (F0 m 590 ls []) := by
  refine lv_aload_n C.1 C.2.1 dX12_init_590 rfl (lv_at hl 0 rfl) ?_
  refine lv_bipush (v := (16:Int32)) C.1 C.2.1 dX12_init_591 (by decide) ?_
  refine ri_new (k := 102) (n := 69) C hn9 J hA (by decide) rfl (by decide) rfl rfl .int rfl (ri_a0) (by decide) (by decide) (by decide) dX12_init_593 rfl rfl (by decide +kernel) dX12_init_595 (fun H locs J => ?_)
  refine lv_aload_n C.1 C.2.1 dX12_init_598 rfl (lv_at hl 0 rfl) ?_
  refine lv_sipush (v := (512:Int32)) C.1 C.2.1 dX12_init_599 (by decide) ?_
  refine ri_new (k := 103) (n := 70) C hn9 J hA (by decide) rfl (by decide) rfl rfl .int rfl (ri_a0) (by decide) (by decide) (by decide) dX12_init_602 rfl rfl (by decide +kernel) dX12_init_604 (fun H locs J => ?_)
  refine lv_aload_n C.1 C.2.1 dX12_init_607 rfl (lv_at hl 0 rfl) ?_
  refine lv_bipush (v := (32:Int32)) C.1 C.2.1 dX12_init_608 (by decide) ?_
  refine ri_new (k := 104) (n := 71) C hn9 J hA (by decide) rfl (by decide) rfl rfl .boolean rfl (ri_a2) (by decide) (by decide) (by decide) dX12_init_610 rfl rfl (by decide +kernel) dX12_init_612 (fun H locs J => ?_)
  refine lv_aload_n C.1 C.2.1 dX12_init_615 rfl (lv_at hl 0 rfl) ?_
  refine lv_bipush (v := (32:Int32)) C.1 C.2.1 dX12_init_616 (by decide) ?_
  refine ri_new (k := 105) (n := 72) C hn9 J hA (by decide) rfl (by decide) rfl rfl .int rfl (ri_a0) (by decide) (by decide) (by decide) dX12_init_618 rfl rfl (by decide +kernel) dX12_init_620 (fun H locs J => ?_)
  refine lv_aload_n C.1 C.2.1 dX12_init_623 rfl (lv_at hl 0 rfl) ?_
  refine lv_sipush (v := (128:Int32)) C.1 C.2.1 dX12_init_624 (by decide) ?_
  refine ri_new (k := 106) (n := 73) C hn9 J hA (by decide) rfl (by decide) rfl rfl .int rfl (ri_a0) (by decide) (by decide) (by decide) dX12_init_627 rfl rfl (by decide +kernel) dX12_init_629 (fun H locs J => ?_)
  refine lv_aload_n C.1 C.2.1 dX12_init_632 rfl (lv_at hl 0 rfl) ?_
  refine lv_sipush (v := (128:Int32)) C.1 C.2.1 dX12_init_633 (by decide) ?_
  refine ri_new (k := 107) (n := 74) C hn9 J hA (by decide) rfl (by decide) rfl rfl .int rfl (ri_a0) (by decide) (by decide) (by decide) dX12_init_636 rfl rfl (by decide +kernel) dX12_init_638 (fun H locs J => ?_)
  refine lv_aload_n C.1 C.2.1 dX12_init_641 rfl (lv_at hl 0 rfl) ?_
  refine lv_sipush (v := (600:Int32)) C.1 C.2.1 dX12_init_642 (by decide) ?_
  refine ri_new (k := 109) (n := 75) C hn9 J hA (by decide) rfl (by decide) rfl rfl .int rfl (ri_a0) (by decide) (by decide) (by decide) dX12_init_645 rfl rfl (by decide +kernel) dX12_init_647 (fun H locs J => ?_)
  refine lv_aload_n C.1 C.2.1 dX12_init_650 rfl (lv_at hl 0 rfl) ?_
  refine lv_sipush (v := (2048:Int32)) C.1 C.2.1 dX12_init_651 (by decide) ?_
  refine ri_new (k := 111) (n := 76) C hn9 J hA (by decide) rfl (by decide) rfl rfl .boolean rfl (ri_a2) (by decide) (by decide) (by decide) dX12_init_654 rfl rfl (by decide +kernel) dX12_init_656 (fun H locs J => ?_)
  refine lv_aload_n C.1 C.2.1 dX12_init_659 rfl (lv_at hl 0 rfl) ?_
  refine lv_sipush (v := (4100:Int32)) C.1 C.2.1 dX12_init_660 (by decide) ?_
  refine ri_new (k := 112) (n := 77) C hn9 J hA (by decide) rfl (by decide) rfl rfl .int rfl (ri_a0) (by decide) (by decide) (by decide) dX12_init_663 rfl rfl (by decide +kernel) dX12_init_665 (fun H locs J => ?_)
  refine lv_aload_n C.1 C.2.1 dX12_init_668 rfl (lv_at hl 0 rfl) ?_
  refine lv_sipush (v := (200:Int32)) C.1 C.2.1 dX12_init_669 (by decide) ?_
  refine ri_new (k := 117) (n := 78) C hn9 J hA (by decide) rfl (by decide) rfl rfl .int rfl (ri_a0) (by decide) (by decide) (by decide) dX12_init_672 rfl rfl (by decide +kernel) dX12_init_674 (fun H locs J => ?_)
  exact wi_677 C hn9 Z hA h J hl
set_option maxRecDepth 4000 in
set_option maxHeartbeats 4000000 in
theorem wi_489 (C : rf_C D p s m args meth c cX12_init 5 none) (hn9 : meth.name = "<init>") (Z : rf_Zs E h0 s) (hA : ri_A D s) {ρ' : rf_S} {H : Heap} {locs : List Loc} {ls : Array Slot} (h : bq_init_677 (rf_w (rf_w (rf_w rf_0 0 15 (-1:Int32)) 0 16 (-1:Int32)) 0 41 (-1:Int32)) = some ρ') (J : ri_J D h0 57 (rf_w (rf_w (rf_w rf_0 0 15 (-1:Int32)) 0 16 (-1:Int32)) 0 41 (-1:Int32)) s H locs) (hl : lv_has ls 5 [(0, .ref h0)]) : W p l e (ri_R 4 85) s m args below meth c H locs 57 2106144 (MQ below (ri_Q D h0 ρ') args s 79 2124100 (rf_A h0)) (F0 m 489 ls []) := by
  refine lv_aload_n C.1 C.2.1 dX12_init_489 rfl (lv_at hl 0 rfl) ?_
  refine lv_bipush (v := (16:Int32)) C.1 C.2.1 dX12_init_490 (by decide) ?_
  refine ri_new (k := 90) (n := 57) C hn9 J hA (by decide) rfl (by decide) rfl rfl .int rfl (ri_a0) (by decide) (by decide) (by decide) dX12_init_492 rfl rfl (by decide +kernel) dX12_init_494 (fun H locs J => ?_)
  refine lv_aload_n C.1 C.2.1 dX12_init_497 rfl (lv_at hl 0 rfl) ?_
  refine lv_bipush (v := (16:Int32)) C.1 C.2.1 dX12_init_498 (by decide) ?_
  refine ri_new (k := 91) (n := 58) C hn9 J hA (by decide) rfl (by decide) rfl rfl .boolean rfl (ri_a2) (by decide) (by decide) (by decide) dX12_init_500 rfl rfl (by decide +kernel) dX12_init_502 (fun H locs J => ?_)
  refine lv_aload_n C.1 C.2.1 dX12_init_505 rfl (lv_at hl 0 rfl) ?_
  refine lv_sipush (v := (1600:Int32)) C.1 C.2.1 dX12_init_506 (by decide) ?_
  refine ri_new (k := 92) (n := 59) C hn9 J hA (by decide) rfl (by decide) rfl rfl .int rfl (ri_a0) (by decide) (by decide) (by decide) dX12_init_509 rfl rfl (by decide +kernel) dX12_init_511 (fun H locs J => ?_)
  refine lv_aload_n C.1 C.2.1 dX12_init_514 rfl (lv_at hl 0 rfl) ?_
  refine lv_bipush (v := (16:Int32)) C.1 C.2.1 dX12_init_515 (by decide) ?_
  refine ri_new (k := 93) (n := 60) C hn9 J hA (by decide) rfl (by decide) rfl rfl .int rfl (ri_a0) (by decide) (by decide) (by decide) dX12_init_517 rfl rfl (by decide +kernel) dX12_init_519 (fun H locs J => ?_)
  refine lv_aload_n C.1 C.2.1 dX12_init_522 rfl (lv_at hl 0 rfl) ?_
  refine lv_sipush (v := (3200:Int32)) C.1 C.2.1 dX12_init_523 (by decide) ?_
  refine ri_new (k := 94) (n := 61) C hn9 J hA (by decide) rfl (by decide) rfl rfl .int rfl (ri_a0) (by decide) (by decide) (by decide) dX12_init_526 rfl rfl (by decide +kernel) dX12_init_528 (fun H locs J => ?_)
  refine lv_aload_n C.1 C.2.1 dX12_init_531 rfl (lv_at hl 0 rfl) ?_
  refine lv_sipush (v := (3200:Int32)) C.1 C.2.1 dX12_init_532 (by decide) ?_
  refine ri_new (k := 95) (n := 62) C hn9 J hA (by decide) rfl (by decide) rfl rfl .boolean rfl (ri_a2) (by decide) (by decide) (by decide) dX12_init_535 rfl rfl (by decide +kernel) dX12_init_537 (fun H locs J => ?_)
  refine lv_aload_n C.1 C.2.1 dX12_init_540 rfl (lv_at hl 0 rfl) ?_
  refine lv_bipush (v := (16:Int32)) C.1 C.2.1 dX12_init_541 (by decide) ?_
  refine ri_new (k := 96) (n := 63) C hn9 J hA (by decide) rfl (by decide) rfl rfl .int rfl (ri_a0) (by decide) (by decide) (by decide) dX12_init_543 rfl rfl (by decide +kernel) dX12_init_545 (fun H locs J => ?_)
  refine lv_aload_n C.1 C.2.1 dX12_init_548 rfl (lv_at hl 0 rfl) ?_
  refine lv_sipush (v := (1024:Int32)) C.1 C.2.1 dX12_init_549 (by decide) ?_
  refine ri_new (k := 97) (n := 64) C hn9 J hA (by decide) rfl (by decide) rfl rfl .int rfl (ri_a0) (by decide) (by decide) (by decide) dX12_init_552 rfl rfl (by decide +kernel) dX12_init_554 (fun H locs J => ?_)
  refine lv_aload_n C.1 C.2.1 dX12_init_557 rfl (lv_at hl 0 rfl) ?_
  refine lv_bipush (v := (16:Int32)) C.1 C.2.1 dX12_init_558 (by decide) ?_
  refine ri_new (k := 98) (n := 65) C hn9 J hA (by decide) rfl (by decide) rfl rfl .int rfl (ri_a0) (by decide) (by decide) (by decide) dX12_init_560 rfl rfl (by decide +kernel) dX12_init_562 (fun H locs J => ?_)
  refine lv_aload_n C.1 C.2.1 dX12_init_565 rfl (lv_at hl 0 rfl) ?_
  refine lv_sipush (v := (1024:Int32)) C.1 C.2.1 dX12_init_566 (by decide) ?_
  refine ri_new (k := 99) (n := 66) C hn9 J hA (by decide) rfl (by decide) rfl rfl .int rfl (ri_a0) (by decide) (by decide) (by decide) dX12_init_569 rfl rfl (by decide +kernel) dX12_init_571 (fun H locs J => ?_)
  refine lv_aload_n C.1 C.2.1 dX12_init_574 rfl (lv_at hl 0 rfl) ?_
  refine lv_bipush (v := (16:Int32)) C.1 C.2.1 dX12_init_575 (by decide) ?_
  refine ri_new (k := 100) (n := 67) C hn9 J hA (by decide) rfl (by decide) rfl rfl .int rfl (ri_a0) (by decide) (by decide) (by decide) dX12_init_577 rfl rfl (by decide +kernel) dX12_init_579 (fun H locs J => ?_)
  refine lv_aload_n C.1 C.2.1 dX12_init_582 rfl (lv_at hl 0 rfl) ?_
  refine lv_bipush (v := (16:Int32)) C.1 C.2.1 dX12_init_583 (by decide) ?_
  refine ri_new (k := 101) (n := 68) C hn9 J hA (by decide) rfl (by decide) rfl rfl .int rfl (ri_a0) (by decide) (by decide) (by decide) dX12_init_585 rfl rfl (by decide +kernel) dX12_init_587 (fun H locs J => ?_)
  exact wi_590 C hn9 Z hA h J hl
set_option maxRecDepth 4000 in
set_option maxHeartbeats 4000000 in
theorem wi_393 (C : rf_C D p s m args meth c cX12_init 5 none) (hn9 : meth.name = "<init>") (Z : rf_Zs E h0 s) (hA : ri_A D s) {ρ' : rf_S} {H : Heap} {locs : List Loc} {ls : Array Slot} (h : bq_init_677 (rf_w (rf_w (rf_w rf_0 0 15 (-1:Int32)) 0 16 (-1:Int32)) 0 41 (-1:Int32)) = some ρ') (J : ri_J D h0 45 (rf_w (rf_w (rf_w rf_0 0 15 (-1:Int32)) 0 16 (-1:Int32)) 0 41 (-1:Int32)) s H locs) (hl : lv_has ls 5 [(0, .ref h0)]) : W p l e (ri_R 4 85) s m args below meth c H locs 45 2088432 (MQ below (ri_Q D h0 ρ') args s 79 2124100 (rf_A h0)) (F0 m 393 ls []) := by
  refine lv_aload_n C.1 C.2.1 dX12_init_393 rfl (lv_at hl 0 rfl) ?_
  refine lv_sipush (v := (500:Int32)) C.1 C.2.1 dX12_init_394 (by decide) ?_
  refine ri_new (k := 76) (n := 45) C hn9 J hA (by decide) rfl (by decide) rfl rfl .boolean rfl (ri_a2) (by decide) (by decide) (by decide) dX12_init_397 rfl rfl (by decide +kernel) dX12_init_399 (fun H locs J => ?_)
  refine lv_aload_n C.1 C.2.1 dX12_init_402 rfl (lv_at hl 0 rfl) ?_
  refine lv_sipush (v := (500:Int32)) C.1 C.2.1 dX12_init_403 (by decide) ?_
  refine ri_new (k := 77) (n := 46) C hn9 J hA (by decide) rfl (by decide) rfl rfl .int rfl (ri_a0) (by decide) (by decide) (by decide) dX12_init_406 rfl rfl (by decide +kernel) dX12_init_408 (fun H locs J => ?_)
  refine lv_aload_n C.1 C.2.1 dX12_init_411 rfl (lv_at hl 0 rfl) ?_
  refine lv_iconst (v := (2:Int32)) C.1 C.2.1 dX12_init_412 (by decide) ?_
  refine ri_new (k := 80) (n := 47) C hn9 J hA (by decide) rfl (by decide) rfl rfl .int rfl (ri_a0) (by decide) (by decide) (by decide) dX12_init_413 rfl rfl (by decide +kernel) dX12_init_415 (fun H locs J => ?_)
  refine lv_aload_n C.1 C.2.1 dX12_init_418 rfl (lv_at hl 0 rfl) ?_
  refine lv_iconst (v := (2:Int32)) C.1 C.2.1 dX12_init_419 (by decide) ?_
  refine ri_new (k := 81) (n := 48) C hn9 J hA (by decide) rfl (by decide) rfl rfl .int rfl (ri_a0) (by decide) (by decide) (by decide) dX12_init_420 rfl rfl (by decide +kernel) dX12_init_422 (fun H locs J => ?_)
  refine lv_aload_n C.1 C.2.1 dX12_init_425 rfl (lv_at hl 0 rfl) ?_
  refine lv_iconst (v := (2:Int32)) C.1 C.2.1 dX12_init_426 (by decide) ?_
  refine ri_new (k := 82) (n := 49) C hn9 J hA (by decide) rfl (by decide) rfl rfl .int rfl (ri_a0) (by decide) (by decide) (by decide) dX12_init_427 rfl rfl (by decide +kernel) dX12_init_429 (fun H locs J => ?_)
  refine lv_aload_n C.1 C.2.1 dX12_init_432 rfl (lv_at hl 0 rfl) ?_
  refine lv_iconst (v := (2:Int32)) C.1 C.2.1 dX12_init_433 (by decide) ?_
  refine ri_new (k := 83) (n := 50) C hn9 J hA (by decide) rfl (by decide) rfl rfl .boolean rfl (ri_a2) (by decide) (by decide) (by decide) dX12_init_434 rfl rfl (by decide +kernel) dX12_init_436 (fun H locs J => ?_)
  refine lv_aload_n C.1 C.2.1 dX12_init_439 rfl (lv_at hl 0 rfl) ?_
  refine lv_sipush (v := (16384:Int32)) C.1 C.2.1 dX12_init_440 (by decide) ?_
  refine ri_new (k := 84) (n := 51) C hn9 J hA (by decide) rfl (by decide) rfl rfl .int rfl (ri_a0) (by decide) (by decide) (by decide) dX12_init_443 rfl rfl (by decide +kernel) dX12_init_445 (fun H locs J => ?_)
  refine lv_aload_n C.1 C.2.1 dX12_init_448 rfl (lv_at hl 0 rfl) ?_
  refine lv_sipush (v := (256:Int32)) C.1 C.2.1 dX12_init_449 (by decide) ?_
  refine ri_new (k := 85) (n := 52) C hn9 J hA (by decide) rfl (by decide) rfl rfl .int rfl (ri_a0) (by decide) (by decide) (by decide) dX12_init_452 rfl rfl (by decide +kernel) dX12_init_454 (fun H locs J => ?_)
  refine lv_aload_n C.1 C.2.1 dX12_init_457 rfl (lv_at hl 0 rfl) ?_
  refine lv_bipush (v := (16:Int32)) C.1 C.2.1 dX12_init_458 (by decide) ?_
  refine ri_new (k := 86) (n := 53) C hn9 J hA (by decide) rfl (by decide) rfl rfl .int rfl (ri_a0) (by decide) (by decide) (by decide) dX12_init_460 rfl rfl (by decide +kernel) dX12_init_462 (fun H locs J => ?_)
  refine lv_aload_n C.1 C.2.1 dX12_init_465 rfl (lv_at hl 0 rfl) ?_
  refine lv_bipush (v := (16:Int32)) C.1 C.2.1 dX12_init_466 (by decide) ?_
  refine ri_new (k := 87) (n := 54) C hn9 J hA (by decide) rfl (by decide) rfl rfl .boolean rfl (ri_a2) (by decide) (by decide) (by decide) dX12_init_468 rfl rfl (by decide +kernel) dX12_init_470 (fun H locs J => ?_)
  refine lv_aload_n C.1 C.2.1 dX12_init_473 rfl (lv_at hl 0 rfl) ?_
  refine lv_bipush (v := (16:Int32)) C.1 C.2.1 dX12_init_474 (by decide) ?_
  refine ri_new (k := 88) (n := 55) C hn9 J hA (by decide) rfl (by decide) rfl rfl .int rfl (ri_a0) (by decide) (by decide) (by decide) dX12_init_476 rfl rfl (by decide +kernel) dX12_init_478 (fun H locs J => ?_)
  refine lv_aload_n C.1 C.2.1 dX12_init_481 rfl (lv_at hl 0 rfl) ?_
  refine lv_bipush (v := (16:Int32)) C.1 C.2.1 dX12_init_482 (by decide) ?_
  refine ri_new (k := 89) (n := 56) C hn9 J hA (by decide) rfl (by decide) rfl rfl .int rfl (ri_a0) (by decide) (by decide) (by decide) dX12_init_484 rfl rfl (by decide +kernel) dX12_init_486 (fun H locs J => ?_)
  exact wi_489 C hn9 Z hA h J hl
set_option maxRecDepth 4000 in
set_option maxHeartbeats 4000000 in
theorem wi_294 (C : rf_C D p s m args meth c cX12_init 5 none) (hn9 : meth.name = "<init>") (Z : rf_Zs E h0 s) (hA : ri_A D s) {ρ' : rf_S} {H : Heap} {locs : List Loc} {ls : Array Slot} (h : bq_init_677 (rf_w (rf_w (rf_w rf_0 0 15 (-1:Int32)) 0 16 (-1:Int32)) 0 41 (-1:Int32)) = some ρ') (J : ri_J D h0 33 (rf_w (rf_w (rf_w rf_0 0 15 (-1:Int32)) 0 16 (-1:Int32)) 0 41 (-1:Int32)) s H locs) (hl : lv_has ls 5 [(0, .ref h0)]) : W p l e (ri_R 4 85) s m args below meth c H locs 33 2086336 (MQ below (ri_Q D h0 ρ') args s 79 2124100 (rf_A h0)) (F0 m 294 ls []) := by
  refine lv_aload_n C.1 C.2.1 dX12_init_294 rfl (lv_at hl 0 rfl) ?_
  refine lv_bipush (v := (16:Int32)) C.1 C.2.1 dX12_init_295 (by decide) ?_
  refine ri_new (k := 63) (n := 33) C hn9 J hA (by decide) rfl (by decide) rfl rfl .int rfl (ri_a0) (by decide) (by decide) (by decide) dX12_init_297 rfl rfl (by decide +kernel) dX12_init_299 (fun H locs J => ?_)
  refine lv_aload_n C.1 C.2.1 dX12_init_302 rfl (lv_at hl 0 rfl) ?_
  refine lv_bipush (v := (32:Int32)) C.1 C.2.1 dX12_init_303 (by decide) ?_
  refine ri_new (k := 65) (n := 34) C hn9 J hA (by decide) rfl (by decide) rfl rfl .int rfl (ri_a0) (by decide) (by decide) (by decide) dX12_init_305 rfl rfl (by decide +kernel) dX12_init_307 (fun H locs J => ?_)
  refine lv_aload_n C.1 C.2.1 dX12_init_310 rfl (lv_at hl 0 rfl) ?_
  refine lv_bipush (v := (32:Int32)) C.1 C.2.1 dX12_init_311 (by decide) ?_
  refine ri_new (k := 66) (n := 35) C hn9 J hA (by decide) rfl (by decide) rfl rfl .int rfl (ri_a0) (by decide) (by decide) (by decide) dX12_init_313 rfl rfl (by decide +kernel) dX12_init_315 (fun H locs J => ?_)
  refine lv_aload_n C.1 C.2.1 dX12_init_318 rfl (lv_at hl 0 rfl) ?_
  refine lv_bipush (v := (64:Int32)) C.1 C.2.1 dX12_init_319 (by decide) ?_
  refine ri_new (k := 67) (n := 36) C hn9 J hA (by decide) rfl (by decide) rfl rfl .boolean rfl (ri_a2) (by decide) (by decide) (by decide) dX12_init_321 rfl rfl (by decide +kernel) dX12_init_323 (fun H locs J => ?_)
  refine lv_aload_n C.1 C.2.1 dX12_init_326 rfl (lv_at hl 0 rfl) ?_
  refine lv_bipush (v := (8:Int32)) C.1 C.2.1 dX12_init_327 (by decide) ?_
  refine ri_new (k := 68) (n := 37) C hn9 J hA (by decide) rfl (by decide) rfl rfl .int rfl (ri_a0) (by decide) (by decide) (by decide) dX12_init_329 rfl rfl (by decide +kernel) dX12_init_331 (fun H locs J => ?_)
  refine lv_aload_n C.1 C.2.1 dX12_init_334 rfl (lv_at hl 0 rfl) ?_
  refine lv_bipush (v := (8:Int32)) C.1 C.2.1 dX12_init_335 (by decide) ?_
  refine ri_new (k := 69) (n := 38) C hn9 J hA (by decide) rfl (by decide) rfl rfl .int rfl (ri_a0) (by decide) (by decide) (by decide) dX12_init_337 rfl rfl (by decide +kernel) dX12_init_339 (fun H locs J => ?_)
  refine lv_aload_n C.1 C.2.1 dX12_init_342 rfl (lv_at hl 0 rfl) ?_
  refine lv_bipush (v := (64:Int32)) C.1 C.2.1 dX12_init_343 (by decide) ?_
  refine ri_new (k := 70) (n := 39) C hn9 J hA (by decide) rfl (by decide) rfl rfl .int rfl (ri_a0) (by decide) (by decide) (by decide) dX12_init_345 rfl rfl (by decide +kernel) dX12_init_347 (fun H locs J => ?_)
  refine lv_aload_n C.1 C.2.1 dX12_init_350 rfl (lv_at hl 0 rfl) ?_
  refine lv_bipush (v := (64:Int32)) C.1 C.2.1 dX12_init_351 (by decide) ?_
  refine ri_new (k := 71) (n := 40) C hn9 J hA (by decide) rfl (by decide) rfl rfl .int rfl (ri_a0) (by decide) (by decide) (by decide) dX12_init_353 rfl rfl (by decide +kernel) dX12_init_355 (fun H locs J => ?_)
  refine lv_aload_n C.1 C.2.1 dX12_init_358 rfl (lv_at hl 0 rfl) ?_
  refine lv_sipush (v := (800:Int32)) C.1 C.2.1 dX12_init_359 (by decide) ?_
  refine ri_new (k := 72) (n := 41) C hn9 J hA (by decide) rfl (by decide) rfl rfl .int rfl (ri_a0) (by decide) (by decide) (by decide) dX12_init_362 rfl rfl (by decide +kernel) dX12_init_364 (fun H locs J => ?_)
  refine lv_aload_n C.1 C.2.1 dX12_init_367 rfl (lv_at hl 0 rfl) ?_
  refine lv_bipush (v := (8:Int32)) C.1 C.2.1 dX12_init_368 (by decide) ?_
  refine ri_new (k := 73) (n := 42) C hn9 J hA (by decide) rfl (by decide) rfl rfl .int rfl (ri_a0) (by decide) (by decide) (by decide) dX12_init_370 rfl rfl (by decide +kernel) dX12_init_372 (fun H locs J => ?_)
  refine lv_aload_n C.1 C.2.1 dX12_init_375 rfl (lv_at hl 0 rfl) ?_
  refine lv_sipush (v := (500:Int32)) C.1 C.2.1 dX12_init_376 (by decide) ?_
  refine ri_new (k := 74) (n := 43) C hn9 J hA (by decide) rfl (by decide) rfl rfl .int rfl (ri_a0) (by decide) (by decide) (by decide) dX12_init_379 rfl rfl (by decide +kernel) dX12_init_381 (fun H locs J => ?_)
  refine lv_aload_n C.1 C.2.1 dX12_init_384 rfl (lv_at hl 0 rfl) ?_
  refine lv_sipush (v := (500:Int32)) C.1 C.2.1 dX12_init_385 (by decide) ?_
  refine ri_new (k := 75) (n := 44) C hn9 J hA (by decide) rfl (by decide) rfl rfl .int rfl (ri_a0) (by decide) (by decide) (by decide) dX12_init_388 rfl rfl (by decide +kernel) dX12_init_390 (fun H locs J => ?_)
  exact wi_393 C hn9 Z hA h J hl
set_option maxRecDepth 4000 in
set_option maxHeartbeats 4000000 in
theorem wi_198 (C : rf_C D p s m args meth c cX12_init 5 none) (hn9 : meth.name = "<init>") (Z : rf_Zs E h0 s) (hA : ri_A D s) {ρ' : rf_S} {H : Heap} {locs : List Loc} {ls : Array Slot} (h : bq_init_677 (rf_w (rf_w (rf_w rf_0 0 15 (-1:Int32)) 0 16 (-1:Int32)) 0 41 (-1:Int32)) = some ρ') (J : ri_J D h0 22 (rf_w (rf_w rf_0 0 15 (-1:Int32)) 0 16 (-1:Int32)) s H locs) (hl : lv_has ls 5 [(0, .ref h0)]) : W p l e (ri_R 4 85) s m args below meth c H locs 22 2065102 (MQ below (ri_Q D h0 ρ') args s 79 2124100 (rf_A h0)) (F0 m 198 ls []) := by
  refine lv_aload_n C.1 C.2.1 dX12_init_198 rfl (lv_at hl 0 rfl) ?_
  refine lv_sipush (v := (2048:Int32)) C.1 C.2.1 dX12_init_199 (by decide) ?_
  refine ri_new (k := 36) (n := 22) C hn9 J hA (by decide) rfl (by decide) rfl rfl .long rfl (ri_a3) (by decide) (by decide) (by decide) dX12_init_202 rfl rfl (by decide +kernel) dX12_init_204 (fun H locs J => ?_)
  refine lv_aload_n C.1 C.2.1 dX12_init_207 rfl (lv_at hl 0 rfl) ?_
  refine lv_sipush (v := (2048:Int32)) C.1 C.2.1 dX12_init_208 (by decide) ?_
  refine ri_new (k := 37) (n := 23) C hn9 J hA (by decide) rfl (by decide) rfl rfl .boolean rfl (ri_a2) (by decide) (by decide) (by decide) dX12_init_211 rfl rfl (by decide +kernel) dX12_init_213 (fun H locs J => ?_)
  refine lv_aload_n C.1 C.2.1 dX12_init_216 rfl (lv_at hl 0 rfl) ?_
  refine lv_iconst (v := (-1:Int32)) C.1 C.2.1 dX12_init_217 (by decide) ?_
  refine ri_puti (k := 41) (n := 24) C hn9 J rfl rfl (by decide) rfl (by decide +kernel) dX12_init_218 (fun H locs J => ?_)
  refine lv_aload_n C.1 C.2.1 dX12_init_221 rfl (lv_at hl 0 rfl) ?_
  refine lv_bipush (v := (64:Int32)) C.1 C.2.1 dX12_init_222 (by decide) ?_
  refine ri_new (k := 42) (n := 24) C hn9 J hA (by decide) rfl (by decide) rfl rfl .byte rfl (ri_a1) (by decide) (by decide) (by decide) dX12_init_224 rfl rfl (by decide +kernel) dX12_init_226 (fun H locs J => ?_)
  refine lv_aload_n C.1 C.2.1 dX12_init_229 rfl (lv_at hl 0 rfl) ?_
  refine lv_sipush (v := (17000:Int32)) C.1 C.2.1 dX12_init_230 (by decide) ?_
  refine ri_new (k := 49) (n := 25) C hn9 J hA (by decide) rfl (by decide) rfl rfl .int rfl (ri_a0) (by decide) (by decide) (by decide) dX12_init_233 rfl rfl (by decide +kernel) dX12_init_235 (fun H locs J => ?_)
  refine lv_aload_n C.1 C.2.1 dX12_init_238 rfl (lv_at hl 0 rfl) ?_
  refine lv_bipush (v := (10:Int32)) C.1 C.2.1 dX12_init_239 (by decide) ?_
  refine ri_new (k := 50) (n := 26) C hn9 J hA (by decide) rfl (by decide) rfl rfl .int rfl (ri_a0) (by decide) (by decide) (by decide) dX12_init_241 rfl rfl (by decide +kernel) dX12_init_243 (fun H locs J => ?_)
  refine lv_aload_n C.1 C.2.1 dX12_init_246 rfl (lv_at hl 0 rfl) ?_
  refine lv_bipush (v := (8:Int32)) C.1 C.2.1 dX12_init_247 (by decide) ?_
  refine ri_new (k := 56) (n := 27) C hn9 J hA (by decide) rfl (by decide) rfl rfl .int rfl (ri_a0) (by decide) (by decide) (by decide) dX12_init_249 rfl rfl (by decide +kernel) dX12_init_251 (fun H locs J => ?_)
  refine lv_aload_n C.1 C.2.1 dX12_init_254 rfl (lv_at hl 0 rfl) ?_
  refine lv_bipush (v := (8:Int32)) C.1 C.2.1 dX12_init_255 (by decide) ?_
  refine ri_new (k := 57) (n := 28) C hn9 J hA (by decide) rfl (by decide) rfl rfl .int rfl (ri_a0) (by decide) (by decide) (by decide) dX12_init_257 rfl rfl (by decide +kernel) dX12_init_259 (fun H locs J => ?_)
  refine lv_aload_n C.1 C.2.1 dX12_init_262 rfl (lv_at hl 0 rfl) ?_
  refine lv_bipush (v := (8:Int32)) C.1 C.2.1 dX12_init_263 (by decide) ?_
  refine ri_new (k := 58) (n := 29) C hn9 J hA (by decide) rfl (by decide) rfl rfl .int rfl (ri_a0) (by decide) (by decide) (by decide) dX12_init_265 rfl rfl (by decide +kernel) dX12_init_267 (fun H locs J => ?_)
  refine lv_aload_n C.1 C.2.1 dX12_init_270 rfl (lv_at hl 0 rfl) ?_
  refine lv_bipush (v := (8:Int32)) C.1 C.2.1 dX12_init_271 (by decide) ?_
  refine ri_new (k := 59) (n := 30) C hn9 J hA (by decide) rfl (by decide) rfl rfl .int rfl (ri_a0) (by decide) (by decide) (by decide) dX12_init_273 rfl rfl (by decide +kernel) dX12_init_275 (fun H locs J => ?_)
  refine lv_aload_n C.1 C.2.1 dX12_init_278 rfl (lv_at hl 0 rfl) ?_
  refine lv_bipush (v := (16:Int32)) C.1 C.2.1 dX12_init_279 (by decide) ?_
  refine ri_new (k := 61) (n := 31) C hn9 J hA (by decide) rfl (by decide) rfl rfl .int rfl (ri_a0) (by decide) (by decide) (by decide) dX12_init_281 rfl rfl (by decide +kernel) dX12_init_283 (fun H locs J => ?_)
  refine lv_aload_n C.1 C.2.1 dX12_init_286 rfl (lv_at hl 0 rfl) ?_
  refine lv_bipush (v := (16:Int32)) C.1 C.2.1 dX12_init_287 (by decide) ?_
  refine ri_new (k := 62) (n := 32) C hn9 J hA (by decide) rfl (by decide) rfl rfl .int rfl (ri_a0) (by decide) (by decide) (by decide) dX12_init_289 rfl rfl (by decide +kernel) dX12_init_291 (fun H locs J => ?_)
  exact wi_294 C hn9 Z hA h J hl
set_option maxRecDepth 4000 in
set_option maxHeartbeats 4000000 in
theorem wi_98 (C : rf_C D p s m args meth c cX12_init 5 none) (hn9 : meth.name = "<init>") (Z : rf_Zs E h0 s) (hA : ri_A D s) {ρ' : rf_S} {H : Heap} {locs : List Loc} {ls : Array Slot} (h : bq_init_677 (rf_w (rf_w (rf_w rf_0 0 15 (-1:Int32)) 0 16 (-1:Int32)) 0 41 (-1:Int32)) = some ρ') (J : ri_J D h0 11 (rf_w rf_0 0 15 (-1:Int32)) s H locs) (hl : lv_has ls 5 [(0, .ref h0)]) : W p l e (ri_R 4 85) s m args below meth c H locs 11 1360384 (MQ below (ri_Q D h0 ρ') args s 79 2124100 (rf_A h0)) (F0 m 98 ls []) := by
  refine lv_aload_n C.1 C.2.1 dX12_init_98 rfl (lv_at hl 0 rfl) ?_
  refine lv_iconst (v := (-1:Int32)) C.1 C.2.1 dX12_init_99 (by decide) ?_
  refine ri_puti (k := 16) (n := 11) C hn9 J rfl rfl (by decide) rfl (by decide +kernel) dX12_init_100 (fun H locs J => ?_)
  refine lv_aload_n C.1 C.2.1 dX12_init_103 rfl (lv_at hl 0 rfl) ?_
  refine lv_ldc (v := (690000:Int32)) C.1 C.2.1 C.2.2.2.1 (C.2.2.2.2.1 _ kc_54) dX12_init_104 ?_
  refine ri_new (k := 17) (n := 11) C hn9 J hA (by decide) rfl (by decide) rfl rfl .int rfl (ri_a0) (by decide) (by decide) (by decide) dX12_init_106 rfl rfl (by decide +kernel) dX12_init_108 (fun H locs J => ?_)
  refine lv_aload_n C.1 C.2.1 dX12_init_111 rfl (lv_at hl 0 rfl) ?_
  refine lv_bipush (v := (42:Int32)) C.1 C.2.1 dX12_init_112 (by decide) ?_
  refine ri_new (k := 22) (n := 12) C hn9 J hA (by decide) rfl (by decide) rfl rfl .long rfl (ri_a3) (by decide) (by decide) (by decide) dX12_init_114 rfl rfl (by decide +kernel) dX12_init_116 (fun H locs J => ?_)
  refine lv_aload_n C.1 C.2.1 dX12_init_119 rfl (lv_at hl 0 rfl) ?_
  refine lv_bipush (v := (42:Int32)) C.1 C.2.1 dX12_init_120 (by decide) ?_
  refine ri_new (k := 23) (n := 13) C hn9 J hA (by decide) rfl (by decide) rfl rfl .int rfl (ri_a0) (by decide) (by decide) (by decide) dX12_init_122 rfl rfl (by decide +kernel) dX12_init_124 (fun H locs J => ?_)
  refine lv_aload_n C.1 C.2.1 dX12_init_127 rfl (lv_at hl 0 rfl) ?_
  refine lv_bipush (v := (42:Int32)) C.1 C.2.1 dX12_init_128 (by decide) ?_
  refine ri_new (k := 24) (n := 14) C hn9 J hA (by decide) rfl (by decide) rfl rfl .int rfl (ri_a0) (by decide) (by decide) (by decide) dX12_init_130 rfl rfl (by decide +kernel) dX12_init_132 (fun H locs J => ?_)
  refine lv_aload_n C.1 C.2.1 dX12_init_135 rfl (lv_at hl 0 rfl) ?_
  refine lv_sipush (v := (6000:Int32)) C.1 C.2.1 dX12_init_136 (by decide) ?_
  refine ri_new (k := 25) (n := 15) C hn9 J hA (by decide) rfl (by decide) rfl rfl .byte rfl (ri_a1) (by decide) (by decide) (by decide) dX12_init_139 rfl rfl (by decide +kernel) dX12_init_141 (fun H locs J => ?_)
  refine lv_aload_n C.1 C.2.1 dX12_init_144 rfl (lv_at hl 0 rfl) ?_
  refine lv_sipush (v := (2048:Int32)) C.1 C.2.1 dX12_init_145 (by decide) ?_
  refine ri_new (k := 27) (n := 16) C hn9 J hA (by decide) rfl (by decide) rfl rfl .int rfl (ri_a0) (by decide) (by decide) (by decide) dX12_init_148 rfl rfl (by decide +kernel) dX12_init_150 (fun H locs J => ?_)
  refine lv_aload_n C.1 C.2.1 dX12_init_153 rfl (lv_at hl 0 rfl) ?_
  refine lv_sipush (v := (2048:Int32)) C.1 C.2.1 dX12_init_154 (by decide) ?_
  refine ri_new (k := 29) (n := 17) C hn9 J hA (by decide) rfl (by decide) rfl rfl .int rfl (ri_a0) (by decide) (by decide) (by decide) dX12_init_157 rfl rfl (by decide +kernel) dX12_init_159 (fun H locs J => ?_)
  refine lv_aload_n C.1 C.2.1 dX12_init_162 rfl (lv_at hl 0 rfl) ?_
  refine lv_sipush (v := (200:Int32)) C.1 C.2.1 dX12_init_163 (by decide) ?_
  refine ri_new (k := 31) (n := 18) C hn9 J hA (by decide) rfl (by decide) rfl rfl .long rfl (ri_a3) (by decide) (by decide) (by decide) dX12_init_166 rfl rfl (by decide +kernel) dX12_init_168 (fun H locs J => ?_)
  refine lv_aload_n C.1 C.2.1 dX12_init_171 rfl (lv_at hl 0 rfl) ?_
  refine lv_sipush (v := (200:Int32)) C.1 C.2.1 dX12_init_172 (by decide) ?_
  refine ri_new (k := 32) (n := 19) C hn9 J hA (by decide) rfl (by decide) rfl rfl .int rfl (ri_a0) (by decide) (by decide) (by decide) dX12_init_175 rfl rfl (by decide +kernel) dX12_init_177 (fun H locs J => ?_)
  refine lv_aload_n C.1 C.2.1 dX12_init_180 rfl (lv_at hl 0 rfl) ?_
  refine lv_sipush (v := (2048:Int32)) C.1 C.2.1 dX12_init_181 (by decide) ?_
  refine ri_new (k := 34) (n := 20) C hn9 J hA (by decide) rfl (by decide) rfl rfl .int rfl (ri_a0) (by decide) (by decide) (by decide) dX12_init_184 rfl rfl (by decide +kernel) dX12_init_186 (fun H locs J => ?_)
  refine lv_aload_n C.1 C.2.1 dX12_init_189 rfl (lv_at hl 0 rfl) ?_
  refine lv_sipush (v := (2048:Int32)) C.1 C.2.1 dX12_init_190 (by decide) ?_
  refine ri_new (k := 35) (n := 21) C hn9 J hA (by decide) rfl (by decide) rfl rfl .int rfl (ri_a0) (by decide) (by decide) (by decide) dX12_init_193 rfl rfl (by decide +kernel) dX12_init_195 (fun H locs J => ?_)
  exact wi_198 C hn9 Z hA h J hl
set_option maxRecDepth 4000 in
set_option maxHeartbeats 4000000 in
theorem wi_4 (C : rf_C D p s m args meth c cX12_init 5 none) (hn9 : meth.name = "<init>") (Z : rf_Zs E h0 s) (hA : ri_A D s) {ρ' : rf_S} {H : Heap} {locs : List Loc} {ls : Array Slot} (h : bq_init_677 (rf_w (rf_w (rf_w rf_0 0 15 (-1:Int32)) 0 16 (-1:Int32)) 0 41 (-1:Int32)) = some ρ') (J : ri_J D h0 0 rf_0 s H locs) (hl : lv_has ls 5 [(0, .ref h0)]) : W p l e (ri_R 4 85) s m args below meth c H locs 0 0 (MQ below (ri_Q D h0 ρ') args s 79 2124100 (rf_A h0)) (F0 m 4 ls []) := by
  refine lv_aload_n C.1 C.2.1 dX12_init_4 rfl (lv_at hl 0 rfl) ?_
  refine lv_ldc (v := (112000:Int32)) C.1 C.2.1 C.2.2.2.1 (C.2.2.2.2.1 _ kc_7) dX12_init_5 ?_
  refine ri_new (k := 0) (n := 0) C hn9 J hA (by decide) rfl (by decide) rfl rfl .byte rfl (ri_a1) (by decide) (by decide) (by decide) dX12_init_7 rfl rfl (by decide +kernel) dX12_init_9 (fun H locs J => ?_)
  refine lv_aload_n C.1 C.2.1 dX12_init_12 rfl (lv_at hl 0 rfl) ?_
  refine lv_ldc (v := (112000:Int32)) C.1 C.2.1 C.2.2.2.1 (C.2.2.2.2.1 _ kc_7) dX12_init_13 ?_
  refine ri_new (k := 1) (n := 1) C hn9 J hA (by decide) rfl (by decide) rfl rfl .int rfl (ri_a0) (by decide) (by decide) (by decide) dX12_init_15 rfl rfl (by decide +kernel) dX12_init_17 (fun H locs J => ?_)
  refine lv_aload_n C.1 C.2.1 dX12_init_20 rfl (lv_at hl 0 rfl) ?_
  refine lv_ldc (v := (112000:Int32)) C.1 C.2.1 C.2.2.2.1 (C.2.2.2.2.1 _ kc_7) dX12_init_21 ?_
  refine ri_new (k := 2) (n := 2) C hn9 J hA (by decide) rfl (by decide) rfl rfl .int rfl (ri_a0) (by decide) (by decide) (by decide) dX12_init_23 rfl rfl (by decide +kernel) dX12_init_25 (fun H locs J => ?_)
  refine lv_aload_n C.1 C.2.1 dX12_init_28 rfl (lv_at hl 0 rfl) ?_
  refine lv_ldc (v := (112000:Int32)) C.1 C.2.1 C.2.2.2.1 (C.2.2.2.2.1 _ kc_7) dX12_init_29 ?_
  refine ri_new (k := 3) (n := 3) C hn9 J hA (by decide) rfl (by decide) rfl rfl .int rfl (ri_a0) (by decide) (by decide) (by decide) dX12_init_31 rfl rfl (by decide +kernel) dX12_init_33 (fun H locs J => ?_)
  refine lv_aload_n C.1 C.2.1 dX12_init_36 rfl (lv_at hl 0 rfl) ?_
  refine lv_ldc (v := (112000:Int32)) C.1 C.2.1 C.2.2.2.1 (C.2.2.2.2.1 _ kc_7) dX12_init_37 ?_
  refine ri_new (k := 4) (n := 4) C hn9 J hA (by decide) rfl (by decide) rfl rfl .int rfl (ri_a0) (by decide) (by decide) (by decide) dX12_init_39 rfl rfl (by decide +kernel) dX12_init_41 (fun H locs J => ?_)
  refine lv_aload_n C.1 C.2.1 dX12_init_44 rfl (lv_at hl 0 rfl) ?_
  refine lv_ldc (v := (112000:Int32)) C.1 C.2.1 C.2.2.2.1 (C.2.2.2.2.1 _ kc_7) dX12_init_45 ?_
  refine ri_new (k := 5) (n := 5) C hn9 J hA (by decide) rfl (by decide) rfl rfl .boolean rfl (ri_a2) (by decide) (by decide) (by decide) dX12_init_47 rfl rfl (by decide +kernel) dX12_init_49 (fun H locs J => ?_)
  refine lv_aload_n C.1 C.2.1 dX12_init_52 rfl (lv_at hl 0 rfl) ?_
  refine lv_ldc (v := (112000:Int32)) C.1 C.2.1 C.2.2.2.1 (C.2.2.2.2.1 _ kc_7) dX12_init_53 ?_
  refine ri_new (k := 6) (n := 6) C hn9 J hA (by decide) rfl (by decide) rfl rfl .int rfl (ri_a0) (by decide) (by decide) (by decide) dX12_init_55 rfl rfl (by decide +kernel) dX12_init_57 (fun H locs J => ?_)
  refine lv_aload_n C.1 C.2.1 dX12_init_60 rfl (lv_at hl 0 rfl) ?_
  refine lv_ldc (v := (112000:Int32)) C.1 C.2.1 C.2.2.2.1 (C.2.2.2.2.1 _ kc_7) dX12_init_61 ?_
  refine ri_new (k := 7) (n := 7) C hn9 J hA (by decide) rfl (by decide) rfl rfl .int rfl (ri_a0) (by decide) (by decide) (by decide) dX12_init_63 rfl rfl (by decide +kernel) dX12_init_65 (fun H locs J => ?_)
  refine lv_aload_n C.1 C.2.1 dX12_init_68 rfl (lv_at hl 0 rfl) ?_
  refine lv_ldc (v := (336000:Int32)) C.1 C.2.1 C.2.2.2.1 (C.2.2.2.2.1 _ kc_37) dX12_init_69 ?_
  refine ri_new (k := 8) (n := 8) C hn9 J hA (by decide) rfl (by decide) rfl rfl .int rfl (ri_a0) (by decide) (by decide) (by decide) dX12_init_71 rfl rfl (by decide +kernel) dX12_init_73 (fun H locs J => ?_)
  refine lv_aload_n C.1 C.2.1 dX12_init_76 rfl (lv_at hl 0 rfl) ?_
  refine lv_ldc (v := (112000:Int32)) C.1 C.2.1 C.2.2.2.1 (C.2.2.2.2.1 _ kc_7) dX12_init_77 ?_
  refine ri_new (k := 9) (n := 9) C hn9 J hA (by decide) rfl (by decide) rfl rfl .int rfl (ri_a0) (by decide) (by decide) (by decide) dX12_init_79 rfl rfl (by decide +kernel) dX12_init_81 (fun H locs J => ?_)
  refine lv_aload_n C.1 C.2.1 dX12_init_84 rfl (lv_at hl 0 rfl) ?_
  refine lv_sipush (v := (16384:Int32)) C.1 C.2.1 dX12_init_85 (by decide) ?_
  refine ri_new (k := 11) (n := 10) C hn9 J hA (by decide) rfl (by decide) rfl rfl .int rfl (ri_a0) (by decide) (by decide) (by decide) dX12_init_88 rfl rfl (by decide +kernel) dX12_init_90 (fun H locs J => ?_)
  refine lv_aload_n C.1 C.2.1 dX12_init_93 rfl (lv_at hl 0 rfl) ?_
  refine lv_iconst (v := (-1:Int32)) C.1 C.2.1 dX12_init_94 (by decide) ?_
  refine ri_puti (k := 15) (n := 11) C hn9 J rfl rfl (by decide) rfl (by decide +kernel) dX12_init_95 (fun H locs J => ?_)
  exact wi_98 C hn9 Z hA h J hl
noncomputable def fq_init : Option rf_S := bq_init_677 (rf_w (rf_w (rf_w rf_0 0 15 (-1:Int32)) 0 16 (-1:Int32)) 0 41 (-1:Int32))
/-- the constructor of the reference, on a fresh object at the end of the heap -/
theorem kq_init (l : Launch) (D : rf_D) (E : Heap × Nat × Nat) (h0 : Nat) {ρ' : rf_S} (h : fq_init = some ρ') : Met l yX12_init (.code yX12_init cX12_init 5 none :: rf_tb) (ri_R 4 85) (va_Pc [.ref h0] (fun U => (t_OB h0 D.1 122 D.2.1 U.heap (ri_V h0 0 rf_0) ∧ U.heap.size = h0 + 1 ∧ ri_A D U ∧ rf_Zs E h0 U) ∧ rf_K D U)) (ri_Q D h0 ρ') 79 2124100 (rf_A h0) := by
  refine Met.ofW (cc := cX12_init) (maxL := 5) (ret := none) (by decide) rfl ?_
  intro p e s m args below meth c s₁ B hml hv
  obtain ⟨rfl, ⟨hP, hz, hA, hZ⟩, hK⟩ := hv
  have hts := atoms_spec (ws := Cond.code yX12_init cX12_init 5 none :: rf_tb) B.pre
  have hown : s.vm.findClass RX12 = some m.cls := findClass_of_methodNamed B.named
  have hl := lv_entry [.ref h0] (n := 5) (Nat.le_of_ble_eq_true rfl)
  rw [lg_entry_eq]
  have C : rf_C D p s m [.ref h0].toArray meth c cX12_init 5 none := ⟨B.exec, B.bytes, hml, hown, fun w hw => hts w (List.mem_cons_of_mem _ hw), hK, B.returns, B.notSynchronized⟩
  have hn9 : meth.name = "<init>" := (name_of_methodNamed B.named B.method).1
  refine lv_aload_n C.1 C.2.1 dX12_init_0 rfl (lv_at hl 0 rfl) ?_
  refine W.objInit (rest := []) C.1 C.2.1 C.2.2.2.1 (C.2.2.2.2.1 _ ri_o1) (C.2.2.2.2.1 _ ri_o2) (C.2.2.2.2.1 _ ri_o3) rfl (by rw [C.2.2.1]; exact hl.1) rfl dX12_init_1 (Nat.le_of_ble_eq_true rfl) (Nat.le_of_ble_eq_true rfl) ?_
  refine W.eq (g2 := F0 m 4 _ []) rfl ?_
  exact wi_4 C hn9 hZ hA h ⟨hP, fun c hc => absurd hc (by omega), fun c j => ⟨rfl, rfl⟩, hz, va_S.rf⟩ hl

end RQZ
