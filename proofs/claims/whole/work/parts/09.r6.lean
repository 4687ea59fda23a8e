section RQ5
variable {p : Program} {l : Launch} {e : Env} {s : State} {m : MethodId} {args : Array Value} {below : List Frame} {meth : Method} {c : Code} {D : rf_D} {h0 : Nat}
abbrev cX12_isBadWord : ByteArray := prog_14_method_53_code
def yX12_isBadWord : MethodName := ⟨RX12, "isBadWord", "(II)Z"⟩
theorem dX12_isBadWord_0 : decode cX12_isBadWord 0 = .ok (.iload_n 1, 1) := by decide +kernel
theorem dX12_isBadWord_1 : decode cX12_isBadWord 1 = .ok (.bipush 26, 2) := by decide +kernel
theorem dX12_isBadWord_3 : decode cX12_isBadWord 3 = .ok (.iushr, 1) := by decide +kernel
theorem dX12_isBadWord_4 : decode cX12_isBadWord 4 = .ok (.istore_n 3, 1) := by decide +kernel
theorem dX12_isBadWord_5 : decode cX12_isBadWord 5 = .ok (.iload_n 1, 1) := by decide +kernel
theorem dX12_isBadWord_6 : decode cX12_isBadWord 6 = .ok (.invokestatic 474, 3) := by decide +kernel
theorem dX12_isBadWord_9 : decode cX12_isBadWord 9 = .ok (.istore 4, 2) := by decide +kernel
theorem dX12_isBadWord_11 : decode cX12_isBadWord 11 = .ok (.iload_n 3, 1) := by decide +kernel
theorem dX12_isBadWord_12 : decode cX12_isBadWord 12 = .ok (.iconst 1, 1) := by decide +kernel
theorem dX12_isBadWord_13 : decode cX12_isBadWord 13 = .ok (.if_icmp .lt 15, 3) := by decide +kernel
theorem dX12_isBadWord_16 : decode cX12_isBadWord 16 = .ok (.iload_n 3, 1) := by decide +kernel
theorem dX12_isBadWord_17 : decode cX12_isBadWord 17 = .ok (.bipush 37, 2) := by decide +kernel
theorem dX12_isBadWord_19 : decode cX12_isBadWord 19 = .ok (.if_icmp .eq 9, 3) := by decide +kernel
theorem dX12_isBadWord_22 : decode cX12_isBadWord 22 = .ok (.iload_n 3, 1) := by decide +kernel
theorem dX12_isBadWord_23 : decode cX12_isBadWord 23 = .ok (.bipush 38, 2) := by decide +kernel
theorem dX12_isBadWord_25 : decode cX12_isBadWord 25 = .ok (.if_icmp .le 5, 3) := by decide +kernel
theorem dX12_isBadWord_28 : decode cX12_isBadWord 28 = .ok (.iconst 1, 1) := by decide +kernel
theorem dX12_isBadWord_29 : decode cX12_isBadWord 29 = .ok (.ireturn, 1) := by decide +kernel
theorem dX12_isBadWord_30 : decode cX12_isBadWord 30 = .ok (.iload_n 3, 1) := by decide +kernel
theorem dX12_isBadWord_31 : decode cX12_isBadWord 31 = .ok (.bipush 38, 2) := by decide +kernel
theorem dX12_isBadWord_33 : decode cX12_isBadWord 33 = .ok (.if_icmp .ne 34, 3) := by decide +kernel
theorem dX12_isBadWord_36 : decode cX12_isBadWord 36 = .ok (.iload 4, 2) := by decide +kernel
theorem dX12_isBadWord_38 : decode cX12_isBadWord 38 = .ok (.ifCond .lt 23, 3) := by decide +kernel
theorem dX12_isBadWord_41 : decode cX12_isBadWord 41 = .ok (.iload 4, 2) := by decide +kernel
theorem dX12_isBadWord_43 : decode cX12_isBadWord 43 = .ok (.iconst 1, 1) := by decide +kernel
theorem dX12_isBadWord_44 : decode cX12_isBadWord 44 = .ok (.if_icmp .eq 17, 3) := by decide +kernel
theorem dX12_isBadWord_47 : decode cX12_isBadWord 47 = .ok (.iload 4, 2) := by decide +kernel
theorem dX12_isBadWord_49 : decode cX12_isBadWord 49 = .ok (.bipush 8, 2) := by decide +kernel
theorem dX12_isBadWord_51 : decode cX12_isBadWord 51 = .ok (.if_icmp .eq 10, 3) := by decide +kernel
theorem dX12_isBadWord_54 : decode cX12_isBadWord 54 = .ok (.iload 4, 2) := by decide +kernel
theorem dX12_isBadWord_56 : decode cX12_isBadWord 56 = .ok (.bipush 34, 2) := by decide +kernel
theorem dX12_isBadWord_58 : decode cX12_isBadWord 58 = .ok (.if_icmp .le 7, 3) := by decide +kernel
theorem dX12_isBadWord_61 : decode cX12_isBadWord 61 = .ok (.iconst 1, 1) := by decide +kernel
theorem dX12_isBadWord_62 : decode cX12_isBadWord 62 = .ok (.goto 4, 3) := by decide +kernel
theorem dX12_isBadWord_65 : decode cX12_isBadWord 65 = .ok (.iconst 0, 1) := by decide +kernel
theorem dX12_isBadWord_66 : decode cX12_isBadWord 66 = .ok (.ireturn, 1) := by decide +kernel
theorem dX12_isBadWord_67 : decode cX12_isBadWord 67 = .ok (.iload_n 3, 1) := by decide +kernel
theorem dX12_isBadWord_68 : decode cX12_isBadWord 68 = .ok (.bipush 22, 2) := by decide +kernel
theorem dX12_isBadWord_70 : decode cX12_isBadWord 70 = .ok (.if_icmp .lt 9, 3) := by decide +kernel
theorem dX12_isBadWord_73 : decode cX12_isBadWord 73 = .ok (.iload_n 3, 1) := by decide +kernel
theorem dX12_isBadWord_74 : decode cX12_isBadWord 74 = .ok (.bipush 29, 2) := by decide +kernel
theorem dX12_isBadWord_76 : decode cX12_isBadWord 76 = .ok (.if_icmp .le 5, 3) := by decide +kernel
theorem dX12_isBadWord_79 : decode cX12_isBadWord 79 = .ok (.iconst 0, 1) := by decide +kernel
theorem dX12_isBadWord_80 : decode cX12_isBadWord 80 = .ok (.ireturn, 1) := by decide +kernel
theorem dX12_isBadWord_81 : decode cX12_isBadWord 81 = .ok (.iload_n 3, 1) := by decide +kernel
theorem dX12_isBadWord_82 : decode cX12_isBadWord 82 = .ok (.invokestatic 490, 3) := by decide +kernel
theorem dX12_isBadWord_85 : decode cX12_isBadWord 85 = .ok (.istore 5, 2) := by decide +kernel
theorem dX12_isBadWord_87 : decode cX12_isBadWord 87 = .ok (.iload_n 1, 1) := by decide +kernel
theorem dX12_isBadWord_88 : decode cX12_isBadWord 88 = .ok (.bipush 18, 2) := by decide +kernel
theorem dX12_isBadWord_90 : decode cX12_isBadWord 90 = .ok (.iushr, 1) := by decide +kernel
theorem dX12_isBadWord_91 : decode cX12_isBadWord 91 = .ok (.bipush 15, 2) := by decide +kernel
theorem dX12_isBadWord_93 : decode cX12_isBadWord 93 = .ok (.iand, 1) := by decide +kernel
theorem dX12_isBadWord_94 : decode cX12_isBadWord 94 = .ok (.ifCond .ne 24, 3) := by decide +kernel
theorem dX12_isBadWord_97 : decode cX12_isBadWord 97 = .ok (.iload 4, 2) := by decide +kernel
theorem dX12_isBadWord_99 : decode cX12_isBadWord 99 = .ok (.ifCond .lt 19, 3) := by decide +kernel
theorem dX12_isBadWord_102 : decode cX12_isBadWord 102 = .ok (.iload 4, 2) := by decide +kernel
theorem dX12_isBadWord_104 : decode cX12_isBadWord 104 = .ok (.iload 5, 2) := by decide +kernel
theorem dX12_isBadWord_106 : decode cX12_isBadWord 106 = .ok (.irem, 1) := by decide +kernel
theorem dX12_isBadWord_107 : decode cX12_isBadWord 107 = .ok (.ifCond .ne 11, 3) := by decide +kernel
theorem dX12_isBadWord_110 : decode cX12_isBadWord 110 = .ok (.iload 4, 2) := by decide +kernel
theorem dX12_isBadWord_112 : decode cX12_isBadWord 112 = .ok (.iconst 4, 1) := by decide +kernel
theorem dX12_isBadWord_113 : decode cX12_isBadWord 113 = .ok (.iload_n 2, 1) := by decide +kernel
theorem dX12_isBadWord_114 : decode cX12_isBadWord 114 = .ok (.imul, 1) := by decide +kernel
theorem dX12_isBadWord_115 : decode cX12_isBadWord 115 = .ok (.if_icmp .lt 5, 3) := by decide +kernel
theorem dX12_isBadWord_118 : decode cX12_isBadWord 118 = .ok (.iconst 1, 1) := by decide +kernel
theorem dX12_isBadWord_119 : decode cX12_isBadWord 119 = .ok (.ireturn, 1) := by decide +kernel
theorem dX12_isBadWord_120 : decode cX12_isBadWord 120 = .ok (.iload_n 3, 1) := by decide +kernel
theorem dX12_isBadWord_121 : decode cX12_isBadWord 121 = .ok (.bipush 26, 2) := by decide +kernel
theorem dX12_isBadWord_123 : decode cX12_isBadWord 123 = .ok (.if_icmp .le 29, 3) := by decide +kernel
theorem dX12_isBadWord_126 : decode cX12_isBadWord 126 = .ok (.iload 4, 2) := by decide +kernel
theorem dX12_isBadWord_128 : decode cX12_isBadWord 128 = .ok (.iconst 4, 1) := by decide +kernel
theorem dX12_isBadWord_129 : decode cX12_isBadWord 129 = .ok (.idiv, 1) := by decide +kernel
theorem dX12_isBadWord_130 : decode cX12_isBadWord 130 = .ok (.sipush 2048, 3) := by decide +kernel
theorem dX12_isBadWord_133 : decode cX12_isBadWord 133 = .ok (.if_icmp .ge 19, 3) := by decide +kernel
theorem dX12_isBadWord_136 : decode cX12_isBadWord 136 = .ok (.aload_n 0, 1) := by decide +kernel
theorem dX12_isBadWord_137 : decode cX12_isBadWord 137 = .ok (.getfield 254, 3) := by decide +kernel
theorem dX12_isBadWord_140 : decode cX12_isBadWord 140 = .ok (.iload 4, 2) := by decide +kernel
theorem dX12_isBadWord_142 : decode cX12_isBadWord 142 = .ok (.iconst 4, 1) := by decide +kernel
theorem dX12_isBadWord_143 : decode cX12_isBadWord 143 = .ok (.idiv, 1) := by decide +kernel
theorem dX12_isBadWord_144 : decode cX12_isBadWord 144 = .ok (.baload, 1) := by decide +kernel
theorem dX12_isBadWord_145 : decode cX12_isBadWord 145 = .ok (.ifCond .eq 7, 3) := by decide +kernel
theorem dX12_isBadWord_148 : decode cX12_isBadWord 148 = .ok (.iconst 1, 1) := by decide +kernel
theorem dX12_isBadWord_149 : decode cX12_isBadWord 149 = .ok (.goto 4, 3) := by decide +kernel
theorem dX12_isBadWord_152 : decode cX12_isBadWord 152 = .ok (.iconst 0, 1) := by decide +kernel
theorem dX12_isBadWord_153 : decode cX12_isBadWord 153 = .ok (.ireturn, 1) := by decide +kernel
theorem cc_isBadWord : Cond.code yX12_isBadWord cX12_isBadWord 6 (some .boolean) ∈ rf_tb := rf_at 2056 (by decide +kernel) (by decide +kernel)
theorem cw_isBadWord : rf_wV yX12_isBadWord cX12_isBadWord 6 (some .boolean) 497 2 := ⟨⟨rf_at 2053 (by decide +kernel) (by decide +kernel), rf_at 2055 (by decide +kernel) (by decide +kernel), rf_sel (q := (yX12_isBadWord, 122)) 100 (by decide +kernel) (by decide +kernel), cc_isBadWord⟩, rfl, by decide +kernel⟩
noncomputable def bq_isBadWord_0 (x1 : Int32) (x2 : Int32) (ρ : rf_S) : Option (Int32 × rf_S) := vl ((x1.toUInt32 >>> ((26:Int32).toUInt32 &&& Int32.toUInt32 31)).toInt32) (fun x3_1 => bd2 (fq_signed x1 ρ) (fun r_3 ρ_2 => (if x3_1 < (1:Int32) then some ((1:Int32), ρ_2) else (if x3_1 = (37:Int32) then some ((1:Int32), ρ_2) else (if x3_1 ≤ (38:Int32) then (if x3_1 = (38:Int32) then (if r_3 < 0 then some ((1:Int32), ρ_2) else (if r_3 = (1:Int32) then some ((1:Int32), ρ_2) else (if r_3 = (8:Int32) then some ((1:Int32), ρ_2) else (if r_3 ≤ (34:Int32) then some ((0:Int32), ρ_2) else some ((1:Int32), ρ_2))))) else (if x3_1 < (22:Int32) then some ((0:Int32), ρ_2) else (if x3_1 ≤ (29:Int32) then bd2 (fq_widthOf x3_1 ρ_2) (fun r_5 ρ_4 => (if (((x1.toUInt32 >>> ((18:Int32).toUInt32 &&& Int32.toUInt32 31)).toInt32) &&& (15:Int32)) = 0 then (if r_3 < 0 then some ((1:Int32), ρ_4) else nz r_5 ((if (r_3 - r_3 / r_5 * r_5) = 0 then (if r_3 < ((4:Int32) * x2) then (if x3_1 ≤ (26:Int32) then some ((0:Int32), ρ_4) else (if (2048:Int32) ≤ (r_3 / (4:Int32)) then some ((0:Int32), ρ_4) else ix (r_3 / (4:Int32)) 2048 ((if (ρ_4.1 77 (r_3 / (4:Int32)).toNatClampNeg) = 0 then some ((0:Int32), ρ_4) else some ((1:Int32), ρ_4))))) else some ((1:Int32), ρ_4)) else some ((1:Int32), ρ_4)))) else some ((1:Int32), ρ_4))) else some ((0:Int32), ρ_2)))) else some ((1:Int32), ρ_2))))))
set_option maxHeartbeats 4000000 in
theorem wq_isBadWord_0 (C : rf_C D p s m args meth c cX12_isBadWord 6 (some .boolean)) {r : Int32} {x1 : Int32} {x2 : Int32} {ρ ρ' : rf_S} {H : Heap} {locs : List Loc} {ls : Array Slot} (h : bq_isBadWord_0 x1 x2 ρ = some (r, ρ')) (G : rf_G D h0 s ρ H locs) (hl : lv_has ls 6 [(0, .ref h0), (1, .int x1), (2, .int x2)]) : W p l e ({ frames := 1, cells := 0, slots := 0, locals := 20 }) s m args below meth c H locs 0 0 (MQ below (rf_Q D h0 (some (.int r)) ρ') args s 0 0 (rf_A h0)) (F0 m 0 ls []) := by
  unfold bq_isBadWord_0 at h
  refine lv_iload_n C.1 C.2.1 dX12_isBadWord_0 rfl (lv_at hl 1 rfl) ?_
  refine lv_bipush (v := (26:Int32)) C.1 C.2.1 dX12_isBadWord_1 (by decide) ?_
  refine lv_iushr C.1 C.2.1 dX12_isBadWord_3 rfl ?_
  refine vt_i h (fun x3_1 h => ?_)
  refine lv_istore_n (lv' := [(3, .int x3_1), (0, .ref h0), (1, .int x1), (2, .int x2)]) C.1 C.2.1 dX12_isBadWord_4 rfl hl (by decide) rfl (fun ls hl => ?_)
  refine lv_iload_n C.1 C.2.1 dX12_isBadWord_5 rfl (lv_at hl 2 rfl) ?_
  obtain ⟨r_3, ρ_2, hq, h⟩ := bd2_some h
  refine rf_callS (rest := []) C G cw_signed [.int x1] _ (kq_signed l D h0 hq) (Nat.le_of_ble_eq_true rfl) (Nat.le_of_ble_eq_true rfl) rfl rfl hl.1 (Nat.le_of_ble_eq_true rfl) (Nat.zero_le _) (Nat.zero_le _) dX12_isBadWord_6 (fun H locs G => ?_)
  refine W.eq (g2 := F0 m 9 ls [.int r_3]) rfl ?_
  refine lv_istore (lv' := [(4, .int r_3), (3, .int x3_1), (0, .ref h0), (1, .int x1), (2, .int x2)]) C.1 C.2.1 dX12_isBadWord_9 hl (by decide) rfl (fun ls hl => ?_)
  refine lv_iload_n C.1 C.2.1 dX12_isBadWord_11 rfl (lv_at hl 1 rfl) ?_
  refine lv_iconst (v := (1:Int32)) C.1 C.2.1 dX12_isBadWord_12 (by decide) ?_
  refine lv_icmp_lt (tgt := 28) C.1 C.2.1 dX12_isBadWord_13 (by decide) (fun hc => ?_) (fun hc => ?_)
  · rw [if_pos hc] at h
    refine lv_iconst (v := (1:Int32)) C.1 C.2.1 dX12_isBadWord_28 (by decide) ?_
    exact rf_zret C G h rfl dX12_isBadWord_29
  · rw [if_neg hc] at h
    refine lv_iload_n C.1 C.2.1 dX12_isBadWord_16 rfl (lv_at hl 1 rfl) ?_
    refine lv_bipush (v := (37:Int32)) C.1 C.2.1 dX12_isBadWord_17 (by decide) ?_
    refine lv_icmp_eq (tgt := 28) C.1 C.2.1 dX12_isBadWord_19 (by decide) (fun hc => ?_) (fun hc => ?_)
    · rw [if_pos hc] at h
      refine lv_iconst (v := (1:Int32)) C.1 C.2.1 dX12_isBadWord_28 (by decide) ?_
      exact rf_zret C G h rfl dX12_isBadWord_29
    · rw [if_neg hc] at h
      refine lv_iload_n C.1 C.2.1 dX12_isBadWord_22 rfl (lv_at hl 1 rfl) ?_
      refine lv_bipush (v := (38:Int32)) C.1 C.2.1 dX12_isBadWord_23 (by decide) ?_
      refine lv_icmp_le (tgt := 30) C.1 C.2.1 dX12_isBadWord_25 (by decide) (fun hc => ?_) (fun hc => ?_)
      · rw [if_pos hc] at h
        refine lv_iload_n C.1 C.2.1 dX12_isBadWord_30 rfl (lv_at hl 1 rfl) ?_
        refine lv_bipush (v := (38:Int32)) C.1 C.2.1 dX12_isBadWord_31 (by decide) ?_
        refine lv_icmp_ne (tgt := 67) C.1 C.2.1 dX12_isBadWord_33 (by decide) (fun hc => ?_) (fun hc => ?_)
        · rw [if_neg hc] at h
          refine lv_iload_n C.1 C.2.1 dX12_isBadWord_67 rfl (lv_at hl 1 rfl) ?_
          refine lv_bipush (v := (22:Int32)) C.1 C.2.1 dX12_isBadWord_68 (by decide) ?_
          refine lv_icmp_lt (tgt := 79) C.1 C.2.1 dX12_isBadWord_70 (by decide) (fun hc => ?_) (fun hc => ?_)
          · rw [if_pos hc] at h
            refine lv_iconst (v := (0:Int32)) C.1 C.2.1 dX12_isBadWord_79 (by decide) ?_
            exact rf_zret C G h rfl dX12_isBadWord_80
          · rw [if_neg hc] at h
            refine lv_iload_n C.1 C.2.1 dX12_isBadWord_73 rfl (lv_at hl 1 rfl) ?_
            refine lv_bipush (v := (29:Int32)) C.1 C.2.1 dX12_isBadWord_74 (by decide) ?_
            refine lv_icmp_le (tgt := 81) C.1 C.2.1 dX12_isBadWord_76 (by decide) (fun hc => ?_) (fun hc => ?_)
            · rw [if_pos hc] at h
              refine lv_iload_n C.1 C.2.1 dX12_isBadWord_81 rfl (lv_at hl 1 rfl) ?_
              obtain ⟨r_5, ρ_4, hq, h⟩ := bd2_some h
              refine rf_callS (rest := []) C G cw_widthOf [.int x3_1] _ (kq_widthOf l D h0 hq) (Nat.le_of_ble_eq_true rfl) (Nat.le_of_ble_eq_true rfl) rfl rfl hl.1 (Nat.le_of_ble_eq_true rfl) (Nat.zero_le _) (Nat.zero_le _) dX12_isBadWord_82 (fun H locs G => ?_)
              refine W.eq (g2 := F0 m 85 ls [.int r_5]) rfl ?_
              refine lv_istore (lv' := [(5, .int r_5), (4, .int r_3), (3, .int x3_1), (0, .ref h0), (1, .int x1), (2, .int x2)]) C.1 C.2.1 dX12_isBadWord_85 hl (by decide) rfl (fun ls hl => ?_)
              refine lv_iload_n C.1 C.2.1 dX12_isBadWord_87 rfl (lv_at hl 4 rfl) ?_
              refine lv_bipush (v := (18:Int32)) C.1 C.2.1 dX12_isBadWord_88 (by decide) ?_
              refine lv_iushr C.1 C.2.1 dX12_isBadWord_90 rfl ?_
              refine lv_bipush (v := (15:Int32)) C.1 C.2.1 dX12_isBadWord_91 (by decide) ?_
              refine lv_iand C.1 C.2.1 dX12_isBadWord_93 ?_
              refine lv_if_ne (tgt := 118) C.1 C.2.1 dX12_isBadWord_94 (by decide) (fun hc => ?_) (fun hc => ?_)
              · rw [if_neg hc] at h
                refine lv_iconst (v := (1:Int32)) C.1 C.2.1 dX12_isBadWord_118 (by decide) ?_
                exact rf_zret C G h rfl dX12_isBadWord_119
              · rw [if_pos hc] at h
                refine lv_iload C.1 C.2.1 dX12_isBadWord_97 (lv_at hl 1 rfl) ?_
                refine lv_if_lt (tgt := 118) C.1 C.2.1 dX12_isBadWord_99 (by decide) (fun hc => ?_) (fun hc => ?_)
                · rw [if_pos hc] at h
                  refine lv_iconst (v := (1:Int32)) C.1 C.2.1 dX12_isBadWord_118 (by decide) ?_
                  exact rf_zret C G h rfl dX12_isBadWord_119
                · rw [if_neg hc] at h
                  refine lv_iload C.1 C.2.1 dX12_isBadWord_102 (lv_at hl 1 rfl) ?_
                  refine lv_iload C.1 C.2.1 dX12_isBadWord_104 (lv_at hl 0 rfl) ?_
                  obtain ⟨hne, h⟩ := nz_some h
                  refine lv_irem C.1 C.2.1 dX12_isBadWord_106 hne ?_
                  refine lv_if_ne (tgt := 118) C.1 C.2.1 dX12_isBadWord_107 (by decide) (fun hc => ?_) (fun hc => ?_)
                  · rw [if_neg hc] at h
                    refine lv_iconst (v := (1:Int32)) C.1 C.2.1 dX12_isBadWord_118 (by decide) ?_
                    exact rf_zret C G h rfl dX12_isBadWord_119
                  · rw [if_pos hc] at h
                    refine lv_iload C.1 C.2.1 dX12_isBadWord_110 (lv_at hl 1 rfl) ?_
                    refine lv_iconst (v := (4:Int32)) C.1 C.2.1 dX12_isBadWord_112 (by decide) ?_
                    refine lv_iload_n C.1 C.2.1 dX12_isBadWord_113 rfl (lv_at hl 5 rfl) ?_
                    refine lv_imul C.1 C.2.1 dX12_isBadWord_114 ?_
                    refine lv_icmp_lt (tgt := 120) C.1 C.2.1 dX12_isBadWord_115 (by decide) (fun hc => ?_) (fun hc => ?_)
                    · rw [if_pos hc] at h
                      refine lv_iload_n C.1 C.2.1 dX12_isBadWord_120 rfl (lv_at hl 2 rfl) ?_
                      refine lv_bipush (v := (26:Int32)) C.1 C.2.1 dX12_isBadWord_121 (by decide) ?_
                      refine lv_icmp_le (tgt := 152) C.1 C.2.1 dX12_isBadWord_123 (by decide) (fun hc => ?_) (fun hc => ?_)
                      · rw [if_pos hc] at h
                        refine lv_iconst (v := (0:Int32)) C.1 C.2.1 dX12_isBadWord_152 (by decide) ?_
                        exact rf_zret C G h rfl dX12_isBadWord_153
                      · rw [if_neg hc] at h
                        refine lv_iload C.1 C.2.1 dX12_isBadWord_126 (lv_at hl 1 rfl) ?_
                        refine lv_iconst (v := (4:Int32)) C.1 C.2.1 dX12_isBadWord_128 (by decide) ?_
                        refine lv_idiv C.1 C.2.1 dX12_isBadWord_129 (by decide) ?_
                        refine lv_sipush (v := (2048:Int32)) C.1 C.2.1 dX12_isBadWord_130 (by decide) ?_
                        refine lv_icmp_ge (tgt := 152) C.1 C.2.1 dX12_isBadWord_133 (by decide) (fun hc => ?_) (fun hc => ?_)
                        · rw [if_pos hc] at h
                          refine lv_iconst (v := (0:Int32)) C.1 C.2.1 dX12_isBadWord_152 (by decide) ?_
                          exact rf_zret C G h rfl dX12_isBadWord_153
                        · rw [if_neg hc] at h
                          refine lv_aload_n C.1 C.2.1 dX12_isBadWord_136 rfl (lv_at hl 3 rfl) ?_
                          refine gf_111 C G dX12_isBadWord_137 ?_
                          refine lv_iload C.1 C.2.1 dX12_isBadWord_140 (lv_at hl 1 rfl) ?_
                          refine lv_iconst (v := (4:Int32)) C.1 C.2.1 dX12_isBadWord_142 (by decide) ?_
                          refine lv_idiv C.1 C.2.1 dX12_isBadWord_143 (by decide) ?_
                          obtain ⟨hi, h⟩ := ix_some h
                          refine rf_zald C G 77 rfl (by decide) rfl rfl hi dX12_isBadWord_144 ?_
                          refine lv_if_eq (tgt := 152) C.1 C.2.1 dX12_isBadWord_145 (by decide) (fun hc => ?_) (fun hc => ?_)
                          · rw [if_pos hc] at h
                            refine lv_iconst (v := (0:Int32)) C.1 C.2.1 dX12_isBadWord_152 (by decide) ?_
                            exact rf_zret C G h rfl dX12_isBadWord_153
                          · rw [if_neg hc] at h
                            refine lv_iconst (v := (1:Int32)) C.1 C.2.1 dX12_isBadWord_148 (by decide) ?_
                            refine lv_goto (tgt := 153) C.1 C.2.1 dX12_isBadWord_149 (by decide) ?_
                            exact rf_zret C G h rfl dX12_isBadWord_153
                    · rw [if_neg hc] at h
                      refine lv_iconst (v := (1:Int32)) C.1 C.2.1 dX12_isBadWord_118 (by decide) ?_
                      exact rf_zret C G h rfl dX12_isBadWord_119
            · rw [if_neg hc] at h
              refine lv_iconst (v := (0:Int32)) C.1 C.2.1 dX12_isBadWord_79 (by decide) ?_
              exact rf_zret C G h rfl dX12_isBadWord_80
        · rw [if_pos hc] at h
          refine lv_iload C.1 C.2.1 dX12_isBadWord_36 (lv_at hl 0 rfl) ?_
          refine lv_if_lt (tgt := 61) C.1 C.2.1 dX12_isBadWord_38 (by decide) (fun hc => ?_) (fun hc => ?_)
          · rw [if_pos hc] at h
            refine lv_iconst (v := (1:Int32)) C.1 C.2.1 dX12_isBadWord_61 (by decide) ?_
            refine lv_goto (tgt := 66) C.1 C.2.1 dX12_isBadWord_62 (by decide) ?_
            exact rf_zret C G h rfl dX12_isBadWord_66
          · rw [if_neg hc] at h
            refine lv_iload C.1 C.2.1 dX12_isBadWord_41 (lv_at hl 0 rfl) ?_
            refine lv_iconst (v := (1:Int32)) C.1 C.2.1 dX12_isBadWord_43 (by decide) ?_
            refine lv_icmp_eq (tgt := 61) C.1 C.2.1 dX12_isBadWord_44 (by decide) (fun hc => ?_) (fun hc => ?_)
            · rw [if_pos hc] at h
              refine lv_iconst (v := (1:Int32)) C.1 C.2.1 dX12_isBadWord_61 (by decide) ?_
              refine lv_goto (tgt := 66) C.1 C.2.1 dX12_isBadWord_62 (by decide) ?_
              exact rf_zret C G h rfl dX12_isBadWord_66
            · rw [if_neg hc] at h
              refine lv_iload C.1 C.2.1 dX12_isBadWord_47 (lv_at hl 0 rfl) ?_
              refine lv_bipush (v := (8:Int32)) C.1 C.2.1 dX12_isBadWord_49 (by decide) ?_
              refine lv_icmp_eq (tgt := 61) C.1 C.2.1 dX12_isBadWord_51 (by decide) (fun hc => ?_) (fun hc => ?_)
              · rw [if_pos hc] at h
                refine lv_iconst (v := (1:Int32)) C.1 C.2.1 dX12_isBadWord_61 (by decide) ?_
                refine lv_goto (tgt := 66) C.1 C.2.1 dX12_isBadWord_62 (by decide) ?_
                exact rf_zret C G h rfl dX12_isBadWord_66
              · rw [if_neg hc] at h
                refine lv_iload C.1 C.2.1 dX12_isBadWord_54 (lv_at hl 0 rfl) ?_
                refine lv_bipush (v := (34:Int32)) C.1 C.2.1 dX12_isBadWord_56 (by decide) ?_
                refine lv_icmp_le (tgt := 65) C.1 C.2.1 dX12_isBadWord_58 (by decide) (fun hc => ?_) (fun hc => ?_)
                · rw [if_pos hc] at h
                  refine lv_iconst (v := (0:Int32)) C.1 C.2.1 dX12_isBadWord_65 (by decide) ?_
                  exact rf_zret C G h rfl dX12_isBadWord_66
                · rw [if_neg hc] at h
                  refine lv_iconst (v := (1:Int32)) C.1 C.2.1 dX12_isBadWord_61 (by decide) ?_
                  refine lv_goto (tgt := 66) C.1 C.2.1 dX12_isBadWord_62 (by decide) ?_
                  exact rf_zret C G h rfl dX12_isBadWord_66
      · rw [if_neg hc] at h
        refine lv_iconst (v := (1:Int32)) C.1 C.2.1 dX12_isBadWord_28 (by decide) ?_
        exact rf_zret C G h rfl dX12_isBadWord_29
noncomputable def fq_isBadWord (x1 : Int32) (x2 : Int32) (ρ : rf_S) : Option (Int32 × rf_S) := bq_isBadWord_0 x1 x2 ρ
theorem kq_isBadWord (l : Launch) (D : rf_D) (h0 : Nat) {r : Int32} {x1 : Int32} {x2 : Int32} {ρ ρ' : rf_S} (h : fq_isBadWord x1 x2 ρ = some (r, ρ')) : rf_Met l D h0 yX12_isBadWord cX12_isBadWord 6 (some .boolean) 1 20 [.ref h0, .int x1, .int x2] ρ (some (.int r)) ρ' :=
  rf_of rfl cc_isBadWord (Nat.le_of_ble_eq_true rfl) (fun p e s m args below meth c ls C G hl => wq_isBadWord_0 C h G hl)
abbrev cX12_safe : ByteArray := prog_14_method_54_code
def yX12_safe : MethodName := ⟨RX12, "safe", "(II)I"⟩
theorem dX12_safe_0 : decode cX12_safe 0 = .ok (.iload_n 1, 1) := by decide +kernel
theorem dX12_safe_1 : decode cX12_safe 1 = .ok (.ifCond .lt 18, 3) := by decide +kernel
theorem dX12_safe_4 : decode cX12_safe 4 = .ok (.iload_n 1, 1) := by decide +kernel
theorem dX12_safe_5 : decode cX12_safe 5 = .ok (.bipush 7, 2) := by decide +kernel
theorem dX12_safe_7 : decode cX12_safe 7 = .ok (.if_icmp .gt 12, 3) := by decide +kernel
theorem dX12_safe_10 : decode cX12_safe 10 = .ok (.aload_n 0, 1) := by decide +kernel
theorem dX12_safe_11 : decode cX12_safe 11 = .ok (.getfield 104, 3) := by decide +kernel
theorem dX12_safe_14 : decode cX12_safe 14 = .ok (.iload_n 1, 1) := by decide +kernel
theorem dX12_safe_15 : decode cX12_safe 15 = .ok (.iaload, 1) := by decide +kernel
theorem dX12_safe_16 : decode cX12_safe 16 = .ok (.ifCond .ne 5, 3) := by decide +kernel
theorem dX12_safe_19 : decode cX12_safe 19 = .ok (.iconst (-1), 1) := by decide +kernel
theorem dX12_safe_20 : decode cX12_safe 20 = .ok (.ireturn, 1) := by decide +kernel
theorem dX12_safe_21 : decode cX12_safe 21 = .ok (.aload_n 0, 1) := by decide +kernel
theorem dX12_safe_22 : decode cX12_safe 22 = .ok (.getfield 104, 3) := by decide +kernel
theorem dX12_safe_25 : decode cX12_safe 25 = .ok (.iload_n 1, 1) := by decide +kernel
theorem dX12_safe_26 : decode cX12_safe 26 = .ok (.iaload, 1) := by decide +kernel
theorem dX12_safe_27 : decode cX12_safe 27 = .ok (.istore_n 3, 1) := by decide +kernel
theorem dX12_safe_28 : decode cX12_safe 28 = .ok (.iload_n 2, 1) := by decide +kernel
theorem dX12_safe_29 : decode cX12_safe 29 = .ok (.bipush 16, 2) := by decide +kernel
theorem dX12_safe_31 : decode cX12_safe 31 = .ok (.if_icmp .lt 15, 3) := by decide +kernel
theorem dX12_safe_34 : decode cX12_safe 34 = .ok (.iload_n 2, 1) := by decide +kernel
theorem dX12_safe_35 : decode cX12_safe 35 = .ok (.sipush 2048, 3) := by decide +kernel
theorem dX12_safe_38 : decode cX12_safe 38 = .ok (.if_icmp .gt 8, 3) := by decide +kernel
theorem dX12_safe_41 : decode cX12_safe 41 = .ok (.iload_n 3, 1) := by decide +kernel
theorem dX12_safe_42 : decode cX12_safe 42 = .ok (.iload_n 2, 1) := by decide +kernel
theorem dX12_safe_43 : decode cX12_safe 43 = .ok (.if_icmp .le 6, 3) := by decide +kernel
theorem dX12_safe_46 : decode cX12_safe 46 = .ok (.bipush (-2), 2) := by decide +kernel
theorem dX12_safe_48 : decode cX12_safe 48 = .ok (.ireturn, 1) := by decide +kernel
theorem dX12_safe_49 : decode cX12_safe 49 = .ok (.iconst 0, 1) := by decide +kernel
theorem dX12_safe_50 : decode cX12_safe 50 = .ok (.istore 4, 2) := by decide +kernel
theorem dX12_safe_52 : decode cX12_safe 52 = .ok (.iload 4, 2) := by decide +kernel
theorem dX12_safe_54 : decode cX12_safe 54 = .ok (.sipush 2048, 3) := by decide +kernel
theorem dX12_safe_57 : decode cX12_safe 57 = .ok (.if_icmp .ge 17, 3) := by decide +kernel
theorem dX12_safe_60 : decode cX12_safe 60 = .ok (.aload_n 0, 1) := by decide +kernel
theorem dX12_safe_61 : decode cX12_safe 61 = .ok (.getfield 254, 3) := by decide +kernel
theorem dX12_safe_64 : decode cX12_safe 64 = .ok (.iload 4, 2) := by decide +kernel
theorem dX12_safe_66 : decode cX12_safe 66 = .ok (.iconst 0, 1) := by decide +kernel
theorem dX12_safe_67 : decode cX12_safe 67 = .ok (.bastore, 1) := by decide +kernel
theorem dX12_safe_68 : decode cX12_safe 68 = .ok (.iinc 4 1, 3) := by decide +kernel
theorem dX12_safe_71 : decode cX12_safe 71 = .ok (.goto (-19), 3) := by decide +kernel
theorem dX12_safe_74 : decode cX12_safe 74 = .ok (.aload_n 0, 1) := by decide +kernel
theorem dX12_safe_75 : decode cX12_safe 75 = .ok (.iconst 0, 1) := by decide +kernel
theorem dX12_safe_76 : decode cX12_safe 76 = .ok (.putfield 487, 3) := by decide +kernel
theorem dX12_safe_79 : decode cX12_safe 79 = .ok (.aload_n 0, 1) := by decide +kernel
theorem dX12_safe_80 : decode cX12_safe 80 = .ok (.ldc_w 493, 3) := by decide +kernel
theorem dX12_safe_83 : decode cX12_safe 83 = .ok (.putfield 484, 3) := by decide +kernel
theorem dX12_safe_86 : decode cX12_safe 86 = .ok (.aload_n 0, 1) := by decide +kernel
theorem dX12_safe_87 : decode cX12_safe 87 = .ok (.iconst 0, 1) := by decide +kernel
theorem dX12_safe_88 : decode cX12_safe 88 = .ok (.iload_n 3, 1) := by decide +kernel
theorem dX12_safe_89 : decode cX12_safe 89 = .ok (.invokevirtual 494, 3) := by decide +kernel
theorem dX12_safe_92 : decode cX12_safe 92 = .ok (.iconst 0, 1) := by decide +kernel
theorem dX12_safe_93 : decode cX12_safe 93 = .ok (.istore 4, 2) := by decide +kernel
theorem dX12_safe_95 : decode cX12_safe 95 = .ok (.iload 4, 2) := by decide +kernel
theorem dX12_safe_97 : decode cX12_safe 97 = .ok (.aload_n 0, 1) := by decide +kernel
theorem dX12_safe_98 : decode cX12_safe 98 = .ok (.getfield 487, 3) := by decide +kernel
theorem dX12_safe_101 : decode cX12_safe 101 = .ok (.if_icmp .ge 83, 3) := by decide +kernel
theorem dX12_safe_104 : decode cX12_safe 104 = .ok (.aload_n 0, 1) := by decide +kernel
theorem dX12_safe_105 : decode cX12_safe 105 = .ok (.getfield 257, 3) := by decide +kernel
theorem dX12_safe_108 : decode cX12_safe 108 = .ok (.iload 4, 2) := by decide +kernel
theorem dX12_safe_110 : decode cX12_safe 110 = .ok (.iaload, 1) := by decide +kernel
theorem dX12_safe_111 : decode cX12_safe 111 = .ok (.istore 5, 2) := by decide +kernel
theorem dX12_safe_113 : decode cX12_safe 113 = .ok (.aload_n 0, 1) := by decide +kernel
theorem dX12_safe_114 : decode cX12_safe 114 = .ok (.getfield 101, 3) := by decide +kernel
theorem dX12_safe_117 : decode cX12_safe 117 = .ok (.sipush 2048, 3) := by decide +kernel
theorem dX12_safe_120 : decode cX12_safe 120 = .ok (.iload_n 1, 1) := by decide +kernel
theorem dX12_safe_121 : decode cX12_safe 121 = .ok (.imul, 1) := by decide +kernel
theorem dX12_safe_122 : decode cX12_safe 122 = .ok (.iload 5, 2) := by decide +kernel
theorem dX12_safe_124 : decode cX12_safe 124 = .ok (.iadd, 1) := by decide +kernel
theorem dX12_safe_125 : decode cX12_safe 125 = .ok (.iaload, 1) := by decide +kernel
theorem dX12_safe_126 : decode cX12_safe 126 = .ok (.istore 6, 2) := by decide +kernel
theorem dX12_safe_128 : decode cX12_safe 128 = .ok (.iload 6, 2) := by decide +kernel
theorem dX12_safe_130 : decode cX12_safe 130 = .ok (.bipush 26, 2) := by decide +kernel
theorem dX12_safe_132 : decode cX12_safe 132 = .ok (.iushr, 1) := by decide +kernel
theorem dX12_safe_133 : decode cX12_safe 133 = .ok (.istore 7, 2) := by decide +kernel
theorem dX12_safe_135 : decode cX12_safe 135 = .ok (.iload 7, 2) := by decide +kernel
theorem dX12_safe_137 : decode cX12_safe 137 = .ok (.bipush 36, 2) := by decide +kernel
theorem dX12_safe_139 : decode cX12_safe 139 = .ok (.if_icmp .eq 12, 3) := by decide +kernel
theorem dX12_safe_142 : decode cX12_safe 142 = .ok (.aload_n 0, 1) := by decide +kernel
theorem dX12_safe_143 : decode cX12_safe 143 = .ok (.iload 5, 2) := by decide +kernel
theorem dX12_safe_145 : decode cX12_safe 145 = .ok (.iconst 1, 1) := by decide +kernel
theorem dX12_safe_146 : decode cX12_safe 146 = .ok (.iadd, 1) := by decide +kernel
theorem dX12_safe_147 : decode cX12_safe 147 = .ok (.iload_n 3, 1) := by decide +kernel
theorem dX12_safe_148 : decode cX12_safe 148 = .ok (.invokevirtual 494, 3) := by decide +kernel
theorem dX12_safe_151 : decode cX12_safe 151 = .ok (.iload 7, 2) := by decide +kernel
theorem dX12_safe_153 : decode cX12_safe 153 = .ok (.bipush 30, 2) := by decide +kernel
theorem dX12_safe_155 : decode cX12_safe 155 = .ok (.if_icmp .lt 23, 3) := by decide +kernel
theorem dX12_safe_158 : decode cX12_safe 158 = .ok (.iload 7, 2) := by decide +kernel
theorem dX12_safe_160 : decode cX12_safe 160 = .ok (.bipush 36, 2) := by decide +kernel
theorem dX12_safe_162 : decode cX12_safe 162 = .ok (.if_icmp .gt 16, 3) := by decide +kernel
theorem dX12_safe_165 : decode cX12_safe 165 = .ok (.aload_n 0, 1) := by decide +kernel
theorem dX12_safe_166 : decode cX12_safe 166 = .ok (.iload 5, 2) := by decide +kernel
theorem dX12_safe_168 : decode cX12_safe 168 = .ok (.iload 6, 2) := by decide +kernel
theorem dX12_safe_170 : decode cX12_safe 170 = .ok (.invokestatic 474, 3) := by decide +kernel
theorem dX12_safe_173 : decode cX12_safe 173 = .ok (.iadd, 1) := by decide +kernel
theorem dX12_safe_174 : decode cX12_safe 174 = .ok (.iload_n 3, 1) := by decide +kernel
theorem dX12_safe_175 : decode cX12_safe 175 = .ok (.invokevirtual 494, 3) := by decide +kernel
theorem dX12_safe_178 : decode cX12_safe 178 = .ok (.iinc 4 1, 3) := by decide +kernel
theorem dX12_safe_181 : decode cX12_safe 181 = .ok (.goto (-86), 3) := by decide +kernel
theorem dX12_safe_184 : decode cX12_safe 184 = .ok (.iconst 0, 1) := by decide +kernel
theorem dX12_safe_185 : decode cX12_safe 185 = .ok (.istore 4, 2) := by decide +kernel
theorem dX12_safe_187 : decode cX12_safe 187 = .ok (.iload 4, 2) := by decide +kernel
theorem dX12_safe_189 : decode cX12_safe 189 = .ok (.aload_n 0, 1) := by decide +kernel
theorem dX12_safe_190 : decode cX12_safe 190 = .ok (.getfield 487, 3) := by decide +kernel
theorem dX12_safe_193 : decode cX12_safe 193 = .ok (.if_icmp .ge 60, 3) := by decide +kernel
theorem dX12_safe_196 : decode cX12_safe 196 = .ok (.aload_n 0, 1) := by decide +kernel
theorem dX12_safe_197 : decode cX12_safe 197 = .ok (.getfield 257, 3) := by decide +kernel
theorem dX12_safe_200 : decode cX12_safe 200 = .ok (.iload 4, 2) := by decide +kernel
theorem dX12_safe_202 : decode cX12_safe 202 = .ok (.iaload, 1) := by decide +kernel
theorem dX12_safe_203 : decode cX12_safe 203 = .ok (.aload_n 0, 1) := by decide +kernel
theorem dX12_safe_204 : decode cX12_safe 204 = .ok (.getfield 484, 3) := by decide +kernel
theorem dX12_safe_207 : decode cX12_safe 207 = .ok (.if_icmp .ge 40, 3) := by decide +kernel
theorem dX12_safe_210 : decode cX12_safe 210 = .ok (.aload_n 0, 1) := by decide +kernel
theorem dX12_safe_211 : decode cX12_safe 211 = .ok (.aload_n 0, 1) := by decide +kernel
theorem dX12_safe_212 : decode cX12_safe 212 = .ok (.getfield 101, 3) := by decide +kernel
theorem dX12_safe_215 : decode cX12_safe 215 = .ok (.sipush 2048, 3) := by decide +kernel
theorem dX12_safe_218 : decode cX12_safe 218 = .ok (.iload_n 1, 1) := by decide +kernel
theorem dX12_safe_219 : decode cX12_safe 219 = .ok (.imul, 1) := by decide +kernel
theorem dX12_safe_220 : decode cX12_safe 220 = .ok (.aload_n 0, 1) := by decide +kernel
theorem dX12_safe_221 : decode cX12_safe 221 = .ok (.getfield 257, 3) := by decide +kernel
theorem dX12_safe_224 : decode cX12_safe 224 = .ok (.iload 4, 2) := by decide +kernel
theorem dX12_safe_226 : decode cX12_safe 226 = .ok (.iaload, 1) := by decide +kernel
theorem dX12_safe_227 : decode cX12_safe 227 = .ok (.iadd, 1) := by decide +kernel
theorem dX12_safe_228 : decode cX12_safe 228 = .ok (.iaload, 1) := by decide +kernel
theorem dX12_safe_229 : decode cX12_safe 229 = .ok (.iload_n 2, 1) := by decide +kernel
theorem dX12_safe_230 : decode cX12_safe 230 = .ok (.invokevirtual 497, 3) := by decide +kernel
theorem dX12_safe_233 : decode cX12_safe 233 = .ok (.ifCond .eq 14, 3) := by decide +kernel
theorem dX12_safe_236 : decode cX12_safe 236 = .ok (.aload_n 0, 1) := by decide +kernel
theorem dX12_safe_237 : decode cX12_safe 237 = .ok (.aload_n 0, 1) := by decide +kernel
theorem dX12_safe_238 : decode cX12_safe 238 = .ok (.getfield 257, 3) := by decide +kernel
theorem dX12_safe_241 : decode cX12_safe 241 = .ok (.iload 4, 2) := by decide +kernel
theorem dX12_safe_243 : decode cX12_safe 243 = .ok (.iaload, 1) := by decide +kernel
theorem dX12_safe_244 : decode cX12_safe 244 = .ok (.putfield 484, 3) := by decide +kernel
theorem dX12_safe_247 : decode cX12_safe 247 = .ok (.iinc 4 1, 3) := by decide +kernel
theorem dX12_safe_250 : decode cX12_safe 250 = .ok (.goto (-63), 3) := by decide +kernel
theorem dX12_safe_253 : decode cX12_safe 253 = .ok (.aload_n 0, 1) := by decide +kernel
theorem dX12_safe_254 : decode cX12_safe 254 = .ok (.getfield 484, 3) := by decide +kernel
theorem dX12_safe_257 : decode cX12_safe 257 = .ok (.ldc_w 493, 3) := by decide +kernel
theorem dX12_safe_260 : decode cX12_safe 260 = .ok (.if_icmp .ne 7, 3) := by decide +kernel
theorem dX12_safe_263 : decode cX12_safe 263 = .ok (.iconst 1, 1) := by decide +kernel
theorem dX12_safe_264 : decode cX12_safe 264 = .ok (.goto 10, 3) := by decide +kernel
theorem dX12_safe_267 : decode cX12_safe 267 = .ok (.bipush (-100), 2) := by decide +kernel
theorem dX12_safe_269 : decode cX12_safe 269 = .ok (.aload_n 0, 1) := by decide +kernel
theorem dX12_safe_270 : decode cX12_safe 270 = .ok (.getfield 484, 3) := by decide +kernel
theorem dX12_safe_273 : decode cX12_safe 273 = .ok (.isub, 1) := by decide +kernel
theorem dX12_safe_274 : decode cX12_safe 274 = .ok (.ireturn, 1) := by decide +kernel
theorem cc_safe : Cond.code yX12_safe cX12_safe 8 (some .int) ∈ rf_tb := rf_at 2047 (by decide +kernel) (by decide +kernel)
theorem kc_493 : Cond.constant RX12 493 (1000000 : Int32) ∈ rf_tb := rf_at 2048 (by decide +kernel) (by decide +kernel)
noncomputable def lq_safe_52 (x1 : Int32) (x2 : Int32) (x3 : Int32) (x4 : Int32) (ρ : rf_S) : Option ((Int32 × rf_S) ⊕ (Int32 × rf_S)) := (if (2048:Int32) ≤ x4 then some (.inr (x4, ρ)) else ix x4 2048 (vl (rf_w ρ 77 x4.toNatClampNeg (vp_nar .boolean (0:Int32))) (fun ρ_2 => vl (x4 + (1:Int32)) (fun x4_3 => some (.inl (x4_3, ρ_2))))))
noncomputable def bq_safe_178i95 (x1 : Int32) (x2 : Int32) (x3 : Int32) (x4 : Int32) (ρ : rf_S) : Option ((Int32 × rf_S) ⊕ (Int32 × rf_S)) := vl (x4 + (1:Int32)) (fun x4_10 => some (.inl (x4_10, ρ)))
set_option maxHeartbeats 4000000 in
theorem wq_safe_178i95 (C : rf_C D p s m args meth c cX12_safe 8 (some .int)) {r : Int32} {x1 : Int32} {x2 : Int32} {x3 : Int32} {x4 : Int32} {ρ ρ' : rf_S} {H : Heap} {locs : List Loc} {ls : Array Slot} {o : (Int32 × rf_S) ⊕ (Int32 × rf_S)} (h : bq_safe_178i95 x1 x2 x3 x4 ρ = some o) (hP : Sum.elim (fun z : (Int32 × rf_S) => ∀ (H : Heap) (locs : List Loc) (ls : Array Slot), rf_G D h0 s z.2 H locs → lv_has ls 8 [(0, .ref h0), (1, .int x1), (2, .int x2), (3, .int x3), (4, .int z.1)] → W p l e ({ frames := 2, cells := 0, slots := 0, locals := 45 }) s m args below meth c H locs 0 0 (MQ below (rf_Q D h0 (some (.int r)) ρ') args s 0 0 (rf_A h0)) (F0 m 95 ls [])) (fun z : (Int32 × rf_S) => ∀ (H : Heap) (locs : List Loc) (ls : Array Slot), rf_G D h0 s z.2 H locs → lv_has ls 8 [(0, .ref h0), (1, .int x1), (2, .int x2), (3, .int x3), (4, .int z.1)] → W p l e ({ frames := 2, cells := 0, slots := 0, locals := 45 }) s m args below meth c H locs 0 0 (MQ below (rf_Q D h0 (some (.int r)) ρ') args s 0 0 (rf_A h0)) (F0 m 184 ls [])) o) (G : rf_G D h0 s ρ H locs) (hl : lv_has ls 8 [(0, .ref h0), (1, .int x1), (2, .int x2), (3, .int x3), (4, .int x4)]) : W p l e ({ frames := 2, cells := 0, slots := 0, locals := 45 }) s m args below meth c H locs 0 0 (MQ below (rf_Q D h0 (some (.int r)) ρ') args s 0 0 (rf_A h0)) (F0 m 178 ls []) := by
  unfold bq_safe_178i95 at h
  refine vl_ex h (fun x4_10 ey h => ?_)
  refine lv_iinc (v := x4_10) (lv' := [(4, .int x4_10), (0, .ref h0), (1, .int x1), (2, .int x2), (3, .int x3)]) C.1 C.2.1 dX12_safe_178 hl (k := 4) rfl (by rw [ey]; rfl) (by decide) rfl (fun ls hl => ?_)
  refine lv_goto (tgt := 95) C.1 C.2.1 dX12_safe_181 (by decide) ?_
  cases h
  exact hP _ _ _ G (lv_sub hl [1, 2, 3, 4, 0] rfl)
noncomputable def bq_safe_151i95 (x1 : Int32) (x2 : Int32) (x3 : Int32) (x4 : Int32) (x5 : Int32) (x6 : Int32) (x7 : Int32) (ρ : rf_S) : Option ((Int32 × rf_S) ⊕ (Int32 × rf_S)) := (if x7 < (30:Int32) then bq_safe_178i95 x1 x2 x3 x4 ρ else (if (36:Int32) < x7 then bq_safe_178i95 x1 x2 x3 x4 ρ else bd2 (fq_signed x6 ρ) (fun r_12 ρ_11 => bd1 (fq_reach (x5 + r_12) x3 ρ_11) (fun ρ_13 => bq_safe_178i95 x1 x2 x3 x4 ρ_13))))
set_option maxHeartbeats 4000000 in
theorem wq_safe_151i95 (C : rf_C D p s m args meth c cX12_safe 8 (some .int)) {r : Int32} {x1 : Int32} {x2 : Int32} {x3 : Int32} {x4 : Int32} {x5 : Int32} {x6 : Int32} {x7 : Int32} {ρ ρ' : rf_S} {H : Heap} {locs : List Loc} {ls : Array Slot} {o : (Int32 × rf_S) ⊕ (Int32 × rf_S)} (h : bq_safe_151i95 x1 x2 x3 x4 x5 x6 x7 ρ = some o) (hP : Sum.elim (fun z : (Int32 × rf_S) => ∀ (H : Heap) (locs : List Loc) (ls : Array Slot), rf_G D h0 s z.2 H locs → lv_has ls 8 [(0, .ref h0), (1, .int x1), (2, .int x2), (3, .int x3), (4, .int z.1)] → W p l e ({ frames := 2, cells := 0, slots := 0, locals := 45 }) s m args below meth c H locs 0 0 (MQ below (rf_Q D h0 (some (.int r)) ρ') args s 0 0 (rf_A h0)) (F0 m 95 ls [])) (fun z : (Int32 × rf_S) => ∀ (H : Heap) (locs : List Loc) (ls : Array Slot), rf_G D h0 s z.2 H locs → lv_has ls 8 [(0, .ref h0), (1, .int x1), (2, .int x2), (3, .int x3), (4, .int z.1)] → W p l e ({ frames := 2, cells := 0, slots := 0, locals := 45 }) s m args below meth c H locs 0 0 (MQ below (rf_Q D h0 (some (.int r)) ρ') args s 0 0 (rf_A h0)) (F0 m 184 ls [])) o) (G : rf_G D h0 s ρ H locs) (hl : lv_has ls 8 [(0, .ref h0), (1, .int x1), (2, .int x2), (3, .int x3), (4, .int x4), (5, .int x5), (6, .int x6), (7, .int x7)]) : W p l e ({ frames := 2, cells := 0, slots := 0, locals := 45 }) s m args below meth c H locs 0 0 (MQ below (rf_Q D h0 (some (.int r)) ρ') args s 0 0 (rf_A h0)) (F0 m 151 ls []) := by
  unfold bq_safe_151i95 at h
  refine lv_iload C.1 C.2.1 dX12_safe_151 (lv_at hl 7 rfl) ?_
  refine lv_bipush (v := (30:Int32)) C.1 C.2.1 dX12_safe_153 (by decide) ?_
  refine lv_icmp_lt (tgt := 178) C.1 C.2.1 dX12_safe_155 (by decide) (fun hc => ?_) (fun hc => ?_)
  · rw [if_pos hc] at h
    exact wq_safe_178i95 C h hP G (lv_sub hl [0, 1, 2, 3, 4] rfl)
  · rw [if_neg hc] at h
    refine lv_iload C.1 C.2.1 dX12_safe_158 (lv_at hl 7 rfl) ?_
    refine lv_bipush (v := (36:Int32)) C.1 C.2.1 dX12_safe_160 (by decide) ?_
    refine lv_icmp_gt (tgt := 178) C.1 C.2.1 dX12_safe_162 (by decide) (fun hc => ?_) (fun hc => ?_)
    · rw [if_pos hc] at h
      exact wq_safe_178i95 C h hP G (lv_sub hl [0, 1, 2, 3, 4] rfl)
    · rw [if_neg hc] at h
      refine lv_aload_n C.1 C.2.1 dX12_safe_165 rfl (lv_at hl 0 rfl) ?_
      refine lv_iload C.1 C.2.1 dX12_safe_166 (lv_at hl 5 rfl) ?_
      refine lv_iload C.1 C.2.1 dX12_safe_168 (lv_at hl 6 rfl) ?_
      obtain ⟨r_12, ρ_11, hq, h⟩ := bd2_some h
      refine rf_callS (rest := [.int x5, .ref h0]) C G cw_signed [.int x6] _ (kq_signed l D h0 hq) (Nat.le_of_ble_eq_true rfl) (Nat.le_of_ble_eq_true rfl) rfl rfl hl.1 (Nat.le_of_ble_eq_true rfl) (Nat.zero_le _) (Nat.zero_le _) dX12_safe_170 (fun H locs G => ?_)
      refine W.eq (g2 := F0 m 173 ls [.int r_12, .int x5, .ref h0]) rfl ?_
      refine lv_iadd C.1 C.2.1 dX12_safe_173 ?_
      refine lv_iload_n C.1 C.2.1 dX12_safe_174 rfl (lv_at hl 3 rfl) ?_
      obtain ⟨ρ_13, hq, h⟩ := bd1_some h
      refine rf_callV (rest := []) C G cw_reach [.int (x5 + r_12), .int x3] _ (kq_reach l D h0 hq) (Nat.le_of_ble_eq_true rfl) (Nat.le_of_ble_eq_true rfl) rfl rfl hl.1 (Nat.le_of_ble_eq_true rfl) (Nat.zero_le _) (Nat.zero_le _) dX12_safe_175 (fun H locs G => ?_)
      refine W.eq (g2 := F0 m 178 ls []) rfl ?_
      exact wq_safe_178i95 C h hP G (lv_sub hl [0, 1, 2, 3, 4] rfl)
noncomputable def lq_safe_95 (x1 : Int32) (x2 : Int32) (x3 : Int32) (x4 : Int32) (ρ : rf_S) : Option ((Int32 × rf_S) ⊕ (Int32 × rf_S)) := (if (ρ.1 0 113) ≤ x4 then some (.inr (x4, ρ)) else ix x4 4100 (vl (ρ.1 78 x4.toNatClampNeg) (fun x5_7 => ix (((2048:Int32) * x1) + x5_7) 17000 (vl (ρ.1 26 (((2048:Int32) * x1) + x5_7).toNatClampNeg) (fun x6_8 => vl ((x6_8.toUInt32 >>> ((26:Int32).toUInt32 &&& Int32.toUInt32 31)).toInt32) (fun x7_9 => (if x7_9 = (36:Int32) then bq_safe_151i95 x1 x2 x3 x4 x5_7 x6_8 x7_9 ρ else bd1 (fq_reach (x5_7 + (1:Int32)) x3 ρ) (fun ρ_14 => bq_safe_151i95 x1 x2 x3 x4 x5_7 x6_8 x7_9 ρ_14))))))))
noncomputable def bq_safe_247i187 (x1 : Int32) (x2 : Int32) (x4 : Int32) (ρ : rf_S) : Option ((Int32 × rf_S) ⊕ (Int32 × rf_S)) := vl (x4 + (1:Int32)) (fun x4_15 => some (.inl (x4_15, ρ)))
set_option maxHeartbeats 4000000 in
theorem wq_safe_247i187 (C : rf_C D p s m args meth c cX12_safe 8 (some .int)) {r : Int32} {x1 : Int32} {x2 : Int32} {x4 : Int32} {ρ ρ' : rf_S} {H : Heap} {locs : List Loc} {ls : Array Slot} {o : (Int32 × rf_S) ⊕ (Int32 × rf_S)} (h : bq_safe_247i187 x1 x2 x4 ρ = some o) (hP : Sum.elim (fun z : (Int32 × rf_S) => ∀ (H : Heap) (locs : List Loc) (ls : Array Slot), rf_G D h0 s z.2 H locs → lv_has ls 8 [(0, .ref h0), (1, .int x1), (2, .int x2), (4, .int z.1)] → W p l e ({ frames := 2, cells := 0, slots := 0, locals := 45 }) s m args below meth c H locs 0 0 (MQ below (rf_Q D h0 (some (.int r)) ρ') args s 0 0 (rf_A h0)) (F0 m 187 ls [])) (fun z : (Int32 × rf_S) => ∀ (H : Heap) (locs : List Loc) (ls : Array Slot), rf_G D h0 s z.2 H locs → lv_has ls 8 [(0, .ref h0), (1, .int x1), (2, .int x2), (4, .int z.1)] → W p l e ({ frames := 2, cells := 0, slots := 0, locals := 45 }) s m args below meth c H locs 0 0 (MQ below (rf_Q D h0 (some (.int r)) ρ') args s 0 0 (rf_A h0)) (F0 m 253 ls [])) o) (G : rf_G D h0 s ρ H locs) (hl : lv_has ls 8 [(0, .ref h0), (1, .int x1), (2, .int x2), (4, .int x4)]) : W p l e ({ frames := 2, cells := 0, slots := 0, locals := 45 }) s m args below meth c H locs 0 0 (MQ below (rf_Q D h0 (some (.int r)) ρ') args s 0 0 (rf_A h0)) (F0 m 247 ls []) := by
  unfold bq_safe_247i187 at h
  refine vl_ex h (fun x4_15 ey h => ?_)
  refine lv_iinc (v := x4_15) (lv' := [(4, .int x4_15), (0, .ref h0), (1, .int x1), (2, .int x2)]) C.1 C.2.1 dX12_safe_247 hl (k := 3) rfl (by rw [ey]; rfl) (by decide) rfl (fun ls hl => ?_)
  refine lv_goto (tgt := 187) C.1 C.2.1 dX12_safe_250 (by decide) ?_
  cases h
  exact hP _ _ _ G (lv_sub hl [1, 2, 3, 0] rfl)
noncomputable def lq_safe_187 (x1 : Int32) (x2 : Int32) (x4 : Int32) (ρ : rf_S) : Option ((Int32 × rf_S) ⊕ (Int32 × rf_S)) := (if (ρ.1 0 113) ≤ x4 then some (.inr (x4, ρ)) else ix x4 4100 ((if (ρ.1 0 114) ≤ (ρ.1 78 x4.toNatClampNeg) then bq_safe_247i187 x1 x2 x4 ρ else ix x4 4100 (ix (((2048:Int32) * x1) + (ρ.1 78 x4.toNatClampNeg)) 17000 (bd2 (fq_isBadWord (ρ.1 26 (((2048:Int32) * x1) + (ρ.1 78 x4.toNatClampNeg)).toNatClampNeg) x2 ρ) (fun r_17 ρ_16 => (if r_17 = 0 then bq_safe_247i187 x1 x2 x4 ρ_16 else ix x4 4100 (vl (rf_w ρ_16 0 114 (ρ_16.1 78 x4.toNatClampNeg)) (fun ρ_18 => bq_safe_247i187 x1 x2 x4 ρ_18)))))))))
noncomputable def eq_safe_187 (x1 : Int32) (x2 : Int32) (x4 : Int32) (ρ : rf_S) : Option (Int32 × rf_S) := (if (ρ.1 0 114) = (1000000:Int32) then some ((1:Int32), ρ) else some (((-100:Int32) - (ρ.1 0 114)), ρ))
noncomputable def bq_safe_187 (x1 : Int32) (x2 : Int32) (x4 : Int32) (ρ : rf_S) : Option (Int32 × rf_S) := (lp (fun z : (Int32 × rf_S) => lq_safe_187 x1 x2 z.1 z.2) (x4, ρ)).bind (fun z => eq_safe_187 x1 x2 z.1 z.2)
set_option maxHeartbeats 4000000 in
theorem wq_safe_187 (C : rf_C D p s m args meth c cX12_safe 8 (some .int)) {r : Int32} {x1 : Int32} {x2 : Int32} {x4 : Int32} {ρ ρ' : rf_S} {H : Heap} {locs : List Loc} {ls : Array Slot} (h : bq_safe_187 x1 x2 x4 ρ = some (r, ρ')) (G : rf_G D h0 s ρ H locs) (hl : lv_has ls 8 [(0, .ref h0), (1, .int x1), (2, .int x2), (4, .int x4)]) : W p l e ({ frames := 2, cells := 0, slots := 0, locals := 45 }) s m args below meth c H locs 0 0 (MQ below (rf_Q D h0 (some (.int r)) ρ') args s 0 0 (rf_A h0)) (F0 m 187 ls []) := by
  unfold bq_safe_187 at h
  obtain ⟨y, hy, h⟩ := bd_some h
  have hE : (fun z : (Int32 × rf_S) => ∀ (H : Heap) (locs : List Loc) (ls : Array Slot), rf_G D h0 s z.2 H locs → lv_has ls 8 [(0, .ref h0), (1, .int x1), (2, .int x2), (4, .int z.1)] → W p l e ({ frames := 2, cells := 0, slots := 0, locals := 45 }) s m args below meth c H locs 0 0 (MQ below (rf_Q D h0 (some (.int r)) ρ') args s 0 0 (rf_A h0)) (F0 m 253 ls [])) y := by
    intro H locs ls G hl
    obtain ⟨x4, ρ⟩ := y
    dsimp only at h G hl
    unfold eq_safe_187 at h
    refine lv_aload_n C.1 C.2.1 dX12_safe_253 rfl (lv_at hl 0 rfl) ?_
    refine gf_114 C G dX12_safe_254 ?_
    refine lv_ldcw (v := (1000000:Int32)) C.1 C.2.1 C.2.2.2.1 (C.2.2.2.2.1 _ kc_493) dX12_safe_257 ?_
    refine lv_icmp_ne (tgt := 267) C.1 C.2.1 dX12_safe_260 (by decide) (fun hc => ?_) (fun hc => ?_)
    · rw [if_neg hc] at h
      refine lv_bipush (v := (-100:Int32)) C.1 C.2.1 dX12_safe_267 (by decide) ?_
      refine lv_aload_n C.1 C.2.1 dX12_safe_269 rfl (lv_at hl 0 rfl) ?_
      refine gf_114 C G dX12_safe_270 ?_
      refine lv_isub C.1 C.2.1 dX12_safe_273 ?_
      exact rf_iret C G h dX12_safe_274
    · rw [if_pos hc] at h
      refine lv_iconst (v := (1:Int32)) C.1 C.2.1 dX12_safe_263 (by decide) ?_
      refine lv_goto (tgt := 274) C.1 C.2.1 dX12_safe_264 (by decide) ?_
      exact rf_iret C G h dX12_safe_274
  refine lp_recE (fun z : (Int32 × rf_S) => ∀ (H : Heap) (locs : List Loc) (ls : Array Slot), rf_G D h0 s z.2 H locs → lv_has ls 8 [(0, .ref h0), (1, .int x1), (2, .int x2), (4, .int z.1)] → W p l e ({ frames := 2, cells := 0, slots := 0, locals := 45 }) s m args below meth c H locs 0 0 (MQ below (rf_Q D h0 (some (.int r)) ρ') args s 0 0 (rf_A h0)) (F0 m 187 ls [])) (fun z : (Int32 × rf_S) => ∀ (H : Heap) (locs : List Loc) (ls : Array Slot), rf_G D h0 s z.2 H locs → lv_has ls 8 [(0, .ref h0), (1, .int x1), (2, .int x2), (4, .int z.1)] → W p l e ({ frames := 2, cells := 0, slots := 0, locals := 45 }) s m args below meth c H locs 0 0 (MQ below (rf_Q D h0 (some (.int r)) ρ') args s 0 0 (rf_A h0)) (F0 m 253 ls [])) ?_ _ _ hy hE _ _ _ G hl
  clear hE hy G hl h
  intro z o h hP H locs ls G hl
  obtain ⟨x4, ρ⟩ := z
  dsimp only at h G hl
  unfold lq_safe_187 at h
  refine lv_iload C.1 C.2.1 dX12_safe_187 (lv_at hl 3 rfl) ?_
  refine lv_aload_n C.1 C.2.1 dX12_safe_189 rfl (lv_at hl 0 rfl) ?_
  refine gf_113 C G dX12_safe_190 ?_
  refine lv_icmp_ge (tgt := 253) C.1 C.2.1 dX12_safe_193 (by decide) (fun hc => ?_) (fun hc => ?_)
  · rw [if_pos hc] at h
    cases h
    exact hP _ _ _ G (lv_sub hl [0, 1, 2, 3] rfl)
  · rw [if_neg hc] at h
    refine lv_aload_n C.1 C.2.1 dX12_safe_196 rfl (lv_at hl 0 rfl) ?_
    refine gf_112 C G dX12_safe_197 ?_
    refine lv_iload C.1 C.2.1 dX12_safe_200 (lv_at hl 3 rfl) ?_
    obtain ⟨hi, h⟩ := ix_some h
    refine rf_iald C G 78 rfl (by decide) rfl rfl hi dX12_safe_202 ?_
    refine lv_aload_n C.1 C.2.1 dX12_safe_203 rfl (lv_at hl 0 rfl) ?_
    refine gf_114 C G dX12_safe_204 ?_
    refine lv_icmp_ge (tgt := 247) C.1 C.2.1 dX12_safe_207 (by decide) (fun hc => ?_) (fun hc => ?_)
    · rw [if_pos hc] at h
      exact wq_safe_247i187 C h hP G (lv_sub hl [0, 1, 2, 3] rfl)
    · rw [if_neg hc] at h
      refine lv_aload_n C.1 C.2.1 dX12_safe_210 rfl (lv_at hl 0 rfl) ?_
      refine lv_aload_n C.1 C.2.1 dX12_safe_211 rfl (lv_at hl 0 rfl) ?_
      refine gf_49 C G dX12_safe_212 ?_
      refine lv_sipush (v := (2048:Int32)) C.1 C.2.1 dX12_safe_215 (by decide) ?_
      refine lv_iload_n C.1 C.2.1 dX12_safe_218 rfl (lv_at hl 1 rfl) ?_
      refine lv_imul C.1 C.2.1 dX12_safe_219 ?_
      refine lv_aload_n C.1 C.2.1 dX12_safe_220 rfl (lv_at hl 0 rfl) ?_
      refine gf_112 C G dX12_safe_221 ?_
      refine lv_iload C.1 C.2.1 dX12_safe_224 (lv_at hl 3 rfl) ?_
      obtain ⟨hi, h⟩ := ix_some h
      refine rf_iald C G 78 rfl (by decide) rfl rfl hi dX12_safe_226 ?_
      refine lv_iadd C.1 C.2.1 dX12_safe_227 ?_
      obtain ⟨hi, h⟩ := ix_some h
      refine rf_iald C G 26 rfl (by decide) rfl rfl hi dX12_safe_228 ?_
      refine lv_iload_n C.1 C.2.1 dX12_safe_229 rfl (lv_at hl 2 rfl) ?_
      obtain ⟨r_17, ρ_16, hq, h⟩ := bd2_some h
      refine rf_callV (rest := []) C G cw_isBadWord [.int (ρ.1 26 (((2048:Int32) * x1) + (ρ.1 78 x4.toNatClampNeg)).toNatClampNeg), .int x2] _ (kq_isBadWord l D h0 hq) (Nat.le_of_ble_eq_true rfl) (Nat.le_of_ble_eq_true rfl) rfl rfl hl.1 (Nat.le_of_ble_eq_true rfl) (Nat.zero_le _) (Nat.zero_le _) dX12_safe_230 (fun H locs G => ?_)
      refine W.eq (g2 := F0 m 233 ls [.int r_17]) rfl ?_
      refine lv_if_eq (tgt := 247) C.1 C.2.1 dX12_safe_233 (by decide) (fun hc => ?_) (fun hc => ?_)
      · rw [if_pos hc] at h
        exact wq_safe_247i187 C h hP G (lv_sub hl [0, 1, 2, 3] rfl)
      · rw [if_neg hc] at h
        refine lv_aload_n C.1 C.2.1 dX12_safe_236 rfl (lv_at hl 0 rfl) ?_
        refine lv_aload_n C.1 C.2.1 dX12_safe_237 rfl (lv_at hl 0 rfl) ?_
        refine gf_112 C G dX12_safe_238 ?_
        refine lv_iload C.1 C.2.1 dX12_safe_241 (lv_at hl 3 rfl) ?_
        obtain ⟨hi, h⟩ := ix_some h
        refine rf_iald C G 78 rfl (by decide) rfl rfl hi dX12_safe_243 ?_
        refine pf_114 C G dX12_safe_244 (fun H locs G => ?_)
        refine rf_nm G h (fun ρ_18 G h => ?_)
        exact wq_safe_247i187 C h hP G (lv_sub hl [0, 1, 2, 3] rfl)
noncomputable def eq_safe_95 (x1 : Int32) (x2 : Int32) (x3 : Int32) (x4 : Int32) (ρ : rf_S) : Option (Int32 × rf_S) := bq_safe_187 x1 x2 (0:Int32) ρ
noncomputable def bq_safe_95 (x1 : Int32) (x2 : Int32) (x3 : Int32) (x4 : Int32) (ρ : rf_S) : Option (Int32 × rf_S) := (lp (fun z : (Int32 × rf_S) => lq_safe_95 x1 x2 x3 z.1 z.2) (x4, ρ)).bind (fun z => eq_safe_95 x1 x2 x3 z.1 z.2)
set_option maxHeartbeats 4000000 in
theorem wq_safe_95 (C : rf_C D p s m args meth c cX12_safe 8 (some .int)) {r : Int32} {x1 : Int32} {x2 : Int32} {x3 : Int32} {x4 : Int32} {ρ ρ' : rf_S} {H : Heap} {locs : List Loc} {ls : Array Slot} (h : bq_safe_95 x1 x2 x3 x4 ρ = some (r, ρ')) (G : rf_G D h0 s ρ H locs) (hl : lv_has ls 8 [(0, .ref h0), (1, .int x1), (2, .int x2), (3, .int x3), (4, .int x4)]) : W p l e ({ frames := 2, cells := 0, slots := 0, locals := 45 }) s m args below meth c H locs 0 0 (MQ below (rf_Q D h0 (some (.int r)) ρ') args s 0 0 (rf_A h0)) (F0 m 95 ls []) := by
  unfold bq_safe_95 at h
  obtain ⟨y, hy, h⟩ := bd_some h
  have hE : (fun z : (Int32 × rf_S) => ∀ (H : Heap) (locs : List Loc) (ls : Array Slot), rf_G D h0 s z.2 H locs → lv_has ls 8 [(0, .ref h0), (1, .int x1), (2, .int x2), (3, .int x3), (4, .int z.1)] → W p l e ({ frames := 2, cells := 0, slots := 0, locals := 45 }) s m args below meth c H locs 0 0 (MQ below (rf_Q D h0 (some (.int r)) ρ') args s 0 0 (rf_A h0)) (F0 m 184 ls [])) y := by
    intro H locs ls G hl
    obtain ⟨x4, ρ⟩ := y
    dsimp only at h G hl
    unfold eq_safe_95 at h
    refine lv_iconst (v := (0:Int32)) C.1 C.2.1 dX12_safe_184 (by decide) ?_
    refine lv_istore (lv' := [(4, .int (0:Int32)), (0, .ref h0), (1, .int x1), (2, .int x2), (3, .int x3)]) C.1 C.2.1 dX12_safe_185 hl (by decide) rfl (fun ls hl => ?_)
    exact wq_safe_187 C h G (lv_sub hl [1, 2, 3, 0] rfl)
  refine lp_recE (fun z : (Int32 × rf_S) => ∀ (H : Heap) (locs : List Loc) (ls : Array Slot), rf_G D h0 s z.2 H locs → lv_has ls 8 [(0, .ref h0), (1, .int x1), (2, .int x2), (3, .int x3), (4, .int z.1)] → W p l e ({ frames := 2, cells := 0, slots := 0, locals := 45 }) s m args below meth c H locs 0 0 (MQ below (rf_Q D h0 (some (.int r)) ρ') args s 0 0 (rf_A h0)) (F0 m 95 ls [])) (fun z : (Int32 × rf_S) => ∀ (H : Heap) (locs : List Loc) (ls : Array Slot), rf_G D h0 s z.2 H locs → lv_has ls 8 [(0, .ref h0), (1, .int x1), (2, .int x2), (3, .int x3), (4, .int z.1)] → W p l e ({ frames := 2, cells := 0, slots := 0, locals := 45 }) s m args below meth c H locs 0 0 (MQ below (rf_Q D h0 (some (.int r)) ρ') args s 0 0 (rf_A h0)) (F0 m 184 ls [])) ?_ _ _ hy hE _ _ _ G hl
  clear hE hy G hl h
  intro z o h hP H locs ls G hl
  obtain ⟨x4, ρ⟩ := z
  dsimp only at h G hl
  unfold lq_safe_95 at h
  refine lv_iload C.1 C.2.1 dX12_safe_95 (lv_at hl 4 rfl) ?_
  refine lv_aload_n C.1 C.2.1 dX12_safe_97 rfl (lv_at hl 0 rfl) ?_
  refine gf_113 C G dX12_safe_98 ?_
  refine lv_icmp_ge (tgt := 184) C.1 C.2.1 dX12_safe_101 (by decide) (fun hc => ?_) (fun hc => ?_)
  · rw [if_pos hc] at h
    cases h
    exact hP _ _ _ G (lv_sub hl [0, 1, 2, 3, 4] rfl)
  · rw [if_neg hc] at h
    refine lv_aload_n C.1 C.2.1 dX12_safe_104 rfl (lv_at hl 0 rfl) ?_
    refine gf_112 C G dX12_safe_105 ?_
    refine lv_iload C.1 C.2.1 dX12_safe_108 (lv_at hl 4 rfl) ?_
    obtain ⟨hi, h⟩ := ix_some h
    refine rf_iald C G 78 rfl (by decide) rfl rfl hi dX12_safe_110 ?_
    refine vt_i h (fun x5_7 h => ?_)
    refine lv_istore (lv' := [(5, .int x5_7), (0, .ref h0), (1, .int x1), (2, .int x2), (3, .int x3), (4, .int x4)]) C.1 C.2.1 dX12_safe_111 hl (by decide) rfl (fun ls hl => ?_)
    refine lv_aload_n C.1 C.2.1 dX12_safe_113 rfl (lv_at hl 1 rfl) ?_
    refine gf_49 C G dX12_safe_114 ?_
    refine lv_sipush (v := (2048:Int32)) C.1 C.2.1 dX12_safe_117 (by decide) ?_
    refine lv_iload_n C.1 C.2.1 dX12_safe_120 rfl (lv_at hl 2 rfl) ?_
    refine lv_imul C.1 C.2.1 dX12_safe_121 ?_
    refine lv_iload C.1 C.2.1 dX12_safe_122 (lv_at hl 0 rfl) ?_
    refine lv_iadd C.1 C.2.1 dX12_safe_124 ?_
    obtain ⟨hi, h⟩ := ix_some h
    refine rf_iald C G 26 rfl (by decide) rfl rfl hi dX12_safe_125 ?_
    refine vt_i h (fun x6_8 h => ?_)
    refine lv_istore (lv' := [(6, .int x6_8), (5, .int x5_7), (0, .ref h0), (1, .int x1), (2, .int x2), (3, .int x3), (4, .int x4)]) C.1 C.2.1 dX12_safe_126 hl (by decide) rfl (fun ls hl => ?_)
    refine lv_iload C.1 C.2.1 dX12_safe_128 (lv_at hl 0 rfl) ?_
    refine lv_bipush (v := (26:Int32)) C.1 C.2.1 dX12_safe_130 (by decide) ?_
    refine lv_iushr C.1 C.2.1 dX12_safe_132 rfl ?_
    refine vt_i h (fun x7_9 h => ?_)
    refine lv_istore (lv' := [(7, .int x7_9), (6, .int x6_8), (5, .int x5_7), (0, .ref h0), (1, .int x1), (2, .int x2), (3, .int x3), (4, .int x4)]) C.1 C.2.1 dX12_safe_133 hl (by decide) rfl (fun ls hl => ?_)
    refine lv_iload C.1 C.2.1 dX12_safe_135 (lv_at hl 0 rfl) ?_
    refine lv_bipush (v := (36:Int32)) C.1 C.2.1 dX12_safe_137 (by decide) ?_
    refine lv_icmp_eq (tgt := 151) C.1 C.2.1 dX12_safe_139 (by decide) (fun hc => ?_) (fun hc => ?_)
    · rw [if_pos hc] at h
      exact wq_safe_151i95 C h hP G (lv_sub hl [3, 4, 5, 6, 7, 2, 1, 0] rfl)
    · rw [if_neg hc] at h
      refine lv_aload_n C.1 C.2.1 dX12_safe_142 rfl (lv_at hl 3 rfl) ?_
      refine lv_iload C.1 C.2.1 dX12_safe_143 (lv_at hl 2 rfl) ?_
      refine lv_iconst (v := (1:Int32)) C.1 C.2.1 dX12_safe_145 (by decide) ?_
      refine lv_iadd C.1 C.2.1 dX12_safe_146 ?_
      refine lv_iload_n C.1 C.2.1 dX12_safe_147 rfl (lv_at hl 6 rfl) ?_
      obtain ⟨ρ_14, hq, h⟩ := bd1_some h
      refine rf_callV (rest := []) C G cw_reach [.int (x5_7 + (1:Int32)), .int x3] _ (kq_reach l D h0 hq) (Nat.le_of_ble_eq_true rfl) (Nat.le_of_ble_eq_true rfl) rfl rfl hl.1 (Nat.le_of_ble_eq_true rfl) (Nat.zero_le _) (Nat.zero_le _) dX12_safe_148 (fun H locs G => ?_)
      refine W.eq (g2 := F0 m 151 ls []) rfl ?_
      exact wq_safe_151i95 C h hP G (lv_sub hl [3, 4, 5, 6, 7, 2, 1, 0] rfl)
noncomputable def eq_safe_52 (x1 : Int32) (x2 : Int32) (x3 : Int32) (x4 : Int32) (ρ : rf_S) : Option (Int32 × rf_S) := vl (rf_w ρ 0 113 (0:Int32)) (fun ρ_4 => vl (rf_w ρ_4 0 114 (1000000:Int32)) (fun ρ_5 => bd1 (fq_reach (0:Int32) x3 ρ_5) (fun ρ_6 => bq_safe_95 x1 x2 x3 (0:Int32) ρ_6)))
noncomputable def bq_safe_52 (x1 : Int32) (x2 : Int32) (x3 : Int32) (x4 : Int32) (ρ : rf_S) : Option (Int32 × rf_S) := (lp (fun z : (Int32 × rf_S) => lq_safe_52 x1 x2 x3 z.1 z.2) (x4, ρ)).bind (fun z => eq_safe_52 x1 x2 x3 z.1 z.2)
set_option maxHeartbeats 4000000 in
theorem wq_safe_52 (C : rf_C D p s m args meth c cX12_safe 8 (some .int)) {r : Int32} {x1 : Int32} {x2 : Int32} {x3 : Int32} {x4 : Int32} {ρ ρ' : rf_S} {H : Heap} {locs : List Loc} {ls : Array Slot} (h : bq_safe_52 x1 x2 x3 x4 ρ = some (r, ρ')) (G : rf_G D h0 s ρ H locs) (hl : lv_has ls 8 [(0, .ref h0), (1, .int x1), (2, .int x2), (3, .int x3), (4, .int x4)]) : W p l e ({ frames := 2, cells := 0, slots := 0, locals := 45 }) s m args below meth c H locs 0 0 (MQ below (rf_Q D h0 (some (.int r)) ρ') args s 0 0 (rf_A h0)) (F0 m 52 ls []) := by
  unfold bq_safe_52 at h
  obtain ⟨y, hy, h⟩ := bd_some h
  have hE : (fun z : (Int32 × rf_S) => ∀ (H : Heap) (locs : List Loc) (ls : Array Slot), rf_G D h0 s z.2 H locs → lv_has ls 8 [(0, .ref h0), (1, .int x1), (2, .int x2), (3, .int x3), (4, .int z.1)] → W p l e ({ frames := 2, cells := 0, slots := 0, locals := 45 }) s m args below meth c H locs 0 0 (MQ below (rf_Q D h0 (some (.int r)) ρ') args s 0 0 (rf_A h0)) (F0 m 74 ls [])) y := by
    intro H locs ls G hl
    obtain ⟨x4, ρ⟩ := y
    dsimp only at h G hl
    unfold eq_safe_52 at h
    refine lv_aload_n C.1 C.2.1 dX12_safe_74 rfl (lv_at hl 0 rfl) ?_
    refine lv_iconst (v := (0:Int32)) C.1 C.2.1 dX12_safe_75 (by decide) ?_
    refine pf_113 C G dX12_safe_76 (fun H locs G => ?_)
    refine rf_nm G h (fun ρ_4 G h => ?_)
    refine lv_aload_n C.1 C.2.1 dX12_safe_79 rfl (lv_at hl 0 rfl) ?_
    refine lv_ldcw (v := (1000000:Int32)) C.1 C.2.1 C.2.2.2.1 (C.2.2.2.2.1 _ kc_493) dX12_safe_80 ?_
    refine pf_114 C G dX12_safe_83 (fun H locs G => ?_)
    refine rf_nm G h (fun ρ_5 G h => ?_)
    refine lv_aload_n C.1 C.2.1 dX12_safe_86 rfl (lv_at hl 0 rfl) ?_
    refine lv_iconst (v := (0:Int32)) C.1 C.2.1 dX12_safe_87 (by decide) ?_
    refine lv_iload_n C.1 C.2.1 dX12_safe_88 rfl (lv_at hl 3 rfl) ?_
    obtain ⟨ρ_6, hq, h⟩ := bd1_some h
    refine rf_callV (rest := []) C G cw_reach [.int (0:Int32), .int x3] _ (kq_reach l D h0 hq) (Nat.le_of_ble_eq_true rfl) (Nat.le_of_ble_eq_true rfl) rfl rfl hl.1 (Nat.le_of_ble_eq_true rfl) (Nat.zero_le _) (Nat.zero_le _) dX12_safe_89 (fun H locs G => ?_)
    refine W.eq (g2 := F0 m 92 ls []) rfl ?_
    refine lv_iconst (v := (0:Int32)) C.1 C.2.1 dX12_safe_92 (by decide) ?_
    refine lv_istore (lv' := [(4, .int (0:Int32)), (0, .ref h0), (1, .int x1), (2, .int x2), (3, .int x3)]) C.1 C.2.1 dX12_safe_93 hl (by decide) rfl (fun ls hl => ?_)
    exact wq_safe_95 C h G (lv_sub hl [1, 2, 3, 4, 0] rfl)
  refine lp_recE (fun z : (Int32 × rf_S) => ∀ (H : Heap) (locs : List Loc) (ls : Array Slot), rf_G D h0 s z.2 H locs → lv_has ls 8 [(0, .ref h0), (1, .int x1), (2, .int x2), (3, .int x3), (4, .int z.1)] → W p l e ({ frames := 2, cells := 0, slots := 0, locals := 45 }) s m args below meth c H locs 0 0 (MQ below (rf_Q D h0 (some (.int r)) ρ') args s 0 0 (rf_A h0)) (F0 m 52 ls [])) (fun z : (Int32 × rf_S) => ∀ (H : Heap) (locs : List Loc) (ls : Array Slot), rf_G D h0 s z.2 H locs → lv_has ls 8 [(0, .ref h0), (1, .int x1), (2, .int x2), (3, .int x3), (4, .int z.1)] → W p l e ({ frames := 2, cells := 0, slots := 0, locals := 45 }) s m args below meth c H locs 0 0 (MQ below (rf_Q D h0 (some (.int r)) ρ') args s 0 0 (rf_A h0)) (F0 m 74 ls [])) ?_ _ _ hy hE _ _ _ G hl
  clear hE hy G hl h
  intro z o h hP H locs ls G hl
  obtain ⟨x4, ρ⟩ := z
  dsimp only at h G hl
  unfold lq_safe_52 at h
  refine lv_iload C.1 C.2.1 dX12_safe_52 (lv_at hl 4 rfl) ?_
  refine lv_sipush (v := (2048:Int32)) C.1 C.2.1 dX12_safe_54 (by decide) ?_
  refine lv_icmp_ge (tgt := 74) C.1 C.2.1 dX12_safe_57 (by decide) (fun hc => ?_) (fun hc => ?_)
  · rw [if_pos hc] at h
    cases h
    exact hP _ _ _ G (lv_sub hl [0, 1, 2, 3, 4] rfl)
  · rw [if_neg hc] at h
    refine lv_aload_n C.1 C.2.1 dX12_safe_60 rfl (lv_at hl 0 rfl) ?_
    refine gf_111 C G dX12_safe_61 ?_
    refine lv_iload C.1 C.2.1 dX12_safe_64 (lv_at hl 4 rfl) ?_
    refine lv_iconst (v := (0:Int32)) C.1 C.2.1 dX12_safe_66 (by decide) ?_
    obtain ⟨hi, h⟩ := ix_some h
    refine rf_zast C G 77 rfl (by decide) rfl rfl hi dX12_safe_67 (fun H locs G => ?_)
    refine rf_nm G h (fun ρ_2 G h => ?_)
    refine vl_ex h (fun x4_3 ey h => ?_)
    refine lv_iinc (v := x4_3) (lv' := [(4, .int x4_3), (0, .ref h0), (1, .int x1), (2, .int x2), (3, .int x3)]) C.1 C.2.1 dX12_safe_68 hl (k := 4) rfl (by rw [ey]; rfl) (by decide) rfl (fun ls hl => ?_)
    refine lv_goto (tgt := 52) C.1 C.2.1 dX12_safe_71 (by decide) ?_
    cases h
    exact hP _ _ _ G (lv_sub hl [1, 2, 3, 4, 0] rfl)
noncomputable def bq_safe_0 (x1 : Int32) (x2 : Int32) (ρ : rf_S) : Option (Int32 × rf_S) := (if x1 < 0 then some ((-1:Int32), ρ) else (if (7:Int32) < x1 then some ((-1:Int32), ρ) else ix x1 10 ((if (ρ.1 27 x1.toNatClampNeg) = 0 then some ((-1:Int32), ρ) else ix x1 10 (vl (ρ.1 27 x1.toNatClampNeg) (fun x3_1 => (if x2 < (16:Int32) then some ((-2:Int32), ρ) else (if (2048:Int32) < x2 then some ((-2:Int32), ρ) else (if x3_1 ≤ x2 then bq_safe_52 x1 x2 x3_1 (0:Int32) ρ else some ((-2:Int32), ρ))))))))))
set_option maxHeartbeats 4000000 in
theorem wq_safe_0 (C : rf_C D p s m args meth c cX12_safe 8 (some .int)) {r : Int32} {x1 : Int32} {x2 : Int32} {ρ ρ' : rf_S} {H : Heap} {locs : List Loc} {ls : Array Slot} (h : bq_safe_0 x1 x2 ρ = some (r, ρ')) (G : rf_G D h0 s ρ H locs) (hl : lv_has ls 8 [(0, .ref h0), (1, .int x1), (2, .int x2)]) : W p l e ({ frames := 2, cells := 0, slots := 0, locals := 45 }) s m args below meth c H locs 0 0 (MQ below (rf_Q D h0 (some (.int r)) ρ') args s 0 0 (rf_A h0)) (F0 m 0 ls []) := by
  unfold bq_safe_0 at h
  refine lv_iload_n C.1 C.2.1 dX12_safe_0 rfl (lv_at hl 1 rfl) ?_
  refine lv_if_lt (tgt := 19) C.1 C.2.1 dX12_safe_1 (by decide) (fun hc => ?_) (fun hc => ?_)
  · rw [if_pos hc] at h
    refine lv_iconst (v := (-1:Int32)) C.1 C.2.1 dX12_safe_19 (by decide) ?_
    exact rf_iret C G h dX12_safe_20
  · rw [if_neg hc] at h
    refine lv_iload_n C.1 C.2.1 dX12_safe_4 rfl (lv_at hl 1 rfl) ?_
    refine lv_bipush (v := (7:Int32)) C.1 C.2.1 dX12_safe_5 (by decide) ?_
    refine lv_icmp_gt (tgt := 19) C.1 C.2.1 dX12_safe_7 (by decide) (fun hc => ?_) (fun hc => ?_)
    · rw [if_pos hc] at h
      refine lv_iconst (v := (-1:Int32)) C.1 C.2.1 dX12_safe_19 (by decide) ?_
      exact rf_iret C G h dX12_safe_20
    · rw [if_neg hc] at h
      refine lv_aload_n C.1 C.2.1 dX12_safe_10 rfl (lv_at hl 0 rfl) ?_
      refine gf_50 C G dX12_safe_11 ?_
      refine lv_iload_n C.1 C.2.1 dX12_safe_14 rfl (lv_at hl 1 rfl) ?_
      obtain ⟨hi, h⟩ := ix_some h
      refine rf_iald C G 27 rfl (by decide) rfl rfl hi dX12_safe_15 ?_
      refine lv_if_ne (tgt := 21) C.1 C.2.1 dX12_safe_16 (by decide) (fun hc => ?_) (fun hc => ?_)
      · rw [if_neg hc] at h
        refine lv_aload_n C.1 C.2.1 dX12_safe_21 rfl (lv_at hl 0 rfl) ?_
        refine gf_50 C G dX12_safe_22 ?_
        refine lv_iload_n C.1 C.2.1 dX12_safe_25 rfl (lv_at hl 1 rfl) ?_
        obtain ⟨hi, h⟩ := ix_some h
        refine rf_iald C G 27 rfl (by decide) rfl rfl hi dX12_safe_26 ?_
        refine vt_i h (fun x3_1 h => ?_)
        refine lv_istore_n (lv' := [(3, .int x3_1), (0, .ref h0), (1, .int x1), (2, .int x2)]) C.1 C.2.1 dX12_safe_27 rfl hl (by decide) rfl (fun ls hl => ?_)
        refine lv_iload_n C.1 C.2.1 dX12_safe_28 rfl (lv_at hl 3 rfl) ?_
        refine lv_bipush (v := (16:Int32)) C.1 C.2.1 dX12_safe_29 (by decide) ?_
        refine lv_icmp_lt (tgt := 46) C.1 C.2.1 dX12_safe_31 (by decide) (fun hc => ?_) (fun hc => ?_)
        · rw [if_pos hc] at h
          refine lv_bipush (v := (-2:Int32)) C.1 C.2.1 dX12_safe_46 (by decide) ?_
          exact rf_iret C G h dX12_safe_48
        · rw [if_neg hc] at h
          refine lv_iload_n C.1 C.2.1 dX12_safe_34 rfl (lv_at hl 3 rfl) ?_
          refine lv_sipush (v := (2048:Int32)) C.1 C.2.1 dX12_safe_35 (by decide) ?_
          refine lv_icmp_gt (tgt := 46) C.1 C.2.1 dX12_safe_38 (by decide) (fun hc => ?_) (fun hc => ?_)
          · rw [if_pos hc] at h
            refine lv_bipush (v := (-2:Int32)) C.1 C.2.1 dX12_safe_46 (by decide) ?_
            exact rf_iret C G h dX12_safe_48
          · rw [if_neg hc] at h
            refine lv_iload_n C.1 C.2.1 dX12_safe_41 rfl (lv_at hl 0 rfl) ?_
            refine lv_iload_n C.1 C.2.1 dX12_safe_42 rfl (lv_at hl 3 rfl) ?_
            refine lv_icmp_le (tgt := 49) C.1 C.2.1 dX12_safe_43 (by decide) (fun hc => ?_) (fun hc => ?_)
            · rw [if_pos hc] at h
              refine lv_iconst (v := (0:Int32)) C.1 C.2.1 dX12_safe_49 (by decide) ?_
              refine lv_istore (lv' := [(4, .int (0:Int32)), (3, .int x3_1), (0, .ref h0), (1, .int x1), (2, .int x2)]) C.1 C.2.1 dX12_safe_50 hl (by decide) rfl (fun ls hl => ?_)
              exact wq_safe_52 C h G (lv_sub hl [2, 3, 4, 1, 0] rfl)
            · rw [if_neg hc] at h
              refine lv_bipush (v := (-2:Int32)) C.1 C.2.1 dX12_safe_46 (by decide) ?_
              exact rf_iret C G h dX12_safe_48
      · rw [if_pos hc] at h
        refine lv_iconst (v := (-1:Int32)) C.1 C.2.1 dX12_safe_19 (by decide) ?_
        exact rf_iret C G h dX12_safe_20
noncomputable def fq_safe (x1 : Int32) (x2 : Int32) (ρ : rf_S) : Option (Int32 × rf_S) := bq_safe_0 x1 x2 ρ
theorem kq_safe (l : Launch) (D : rf_D) (h0 : Nat) {r : Int32} {x1 : Int32} {x2 : Int32} {ρ ρ' : rf_S} (h : fq_safe x1 x2 ρ = some (r, ρ')) : rf_Met l D h0 yX12_safe cX12_safe 8 (some .int) 2 45 [.ref h0, .int x1, .int x2] ρ (some (.int r)) ρ' :=
  rf_of rfl cc_safe (Nat.le_of_ble_eq_true rfl) (fun p e s m args below meth c ls C G hl => wq_safe_0 C h G hl)
abbrev cX12_config : ByteArray := prog_14_method_55_code
def yX12_config : MethodName := ⟨RX12, "config", "(II)I"⟩
theorem dX12_config_0 : decode cX12_config 0 = .ok (.aload_n 0, 1) := by decide +kernel
theorem dX12_config_1 : decode cX12_config 1 = .ok (.getfield 500, 3) := by decide +kernel
theorem dX12_config_4 : decode cX12_config 4 = .ok (.ifCond .ne 51, 3) := by decide +kernel
theorem dX12_config_7 : decode cX12_config 7 = .ok (.aload_n 0, 1) := by decide +kernel
theorem dX12_config_8 : decode cX12_config 8 = .ok (.getfield 504, 3) := by decide +kernel
theorem dX12_config_11 : decode cX12_config 11 = .ok (.aload_n 0, 1) := by decide +kernel
theorem dX12_config_12 : decode cX12_config 12 = .ok (.getfield 104, 3) := by decide +kernel
theorem dX12_config_15 : decode cX12_config 15 = .ok (.bipush 9, 2) := by decide +kernel
theorem dX12_config_17 : decode cX12_config 17 = .ok (.iaload, 1) := by decide +kernel
theorem dX12_config_18 : decode cX12_config 18 = .ok (.if_icmp .ge 37, 3) := by decide +kernel
theorem dX12_config_21 : decode cX12_config 21 = .ok (.aload_n 0, 1) := by decide +kernel
theorem dX12_config_22 : decode cX12_config 22 = .ok (.getfield 101, 3) := by decide +kernel
theorem dX12_config_25 : decode cX12_config 25 = .ok (.sipush 16640, 3) := by decide +kernel
theorem dX12_config_28 : decode cX12_config 28 = .ok (.aload_n 0, 1) := by decide +kernel
theorem dX12_config_29 : decode cX12_config 29 = .ok (.getfield 504, 3) := by decide +kernel
theorem dX12_config_32 : decode cX12_config 32 = .ok (.iadd, 1) := by decide +kernel
theorem dX12_config_33 : decode cX12_config 33 = .ok (.iaload, 1) := by decide +kernel
theorem dX12_config_34 : decode cX12_config 34 = .ok (.iload_n 1, 1) := by decide +kernel
theorem dX12_config_35 : decode cX12_config 35 = .ok (.if_icmp .lt 20, 3) := by decide +kernel
theorem dX12_config_38 : decode cX12_config 38 = .ok (.aload_n 0, 1) := by decide +kernel
theorem dX12_config_39 : decode cX12_config 39 = .ok (.getfield 101, 3) := by decide +kernel
theorem dX12_config_42 : decode cX12_config 42 = .ok (.sipush 16640, 3) := by decide +kernel
theorem dX12_config_45 : decode cX12_config 45 = .ok (.aload_n 0, 1) := by decide +kernel
theorem dX12_config_46 : decode cX12_config 46 = .ok (.getfield 504, 3) := by decide +kernel
theorem dX12_config_49 : decode cX12_config 49 = .ok (.iadd, 1) := by decide +kernel
theorem dX12_config_50 : decode cX12_config 50 = .ok (.iaload, 1) := by decide +kernel
theorem dX12_config_51 : decode cX12_config 51 = .ok (.iload_n 2, 1) := by decide +kernel
theorem dX12_config_52 : decode cX12_config 52 = .ok (.if_icmp .le 10, 3) := by decide +kernel
theorem dX12_config_55 : decode cX12_config 55 = .ok (.aload_n 0, 1) := by decide +kernel
theorem dX12_config_56 : decode cX12_config 56 = .ok (.iconst 1, 1) := by decide +kernel
theorem dX12_config_57 : decode cX12_config 57 = .ok (.putfield 500, 3) := by decide +kernel
theorem dX12_config_60 : decode cX12_config 60 = .ok (.iload_n 1, 1) := by decide +kernel
theorem dX12_config_61 : decode cX12_config 61 = .ok (.ireturn, 1) := by decide +kernel
theorem dX12_config_62 : decode cX12_config 62 = .ok (.aload_n 0, 1) := by decide +kernel
theorem dX12_config_63 : decode cX12_config 63 = .ok (.dup, 1) := by decide +kernel
theorem dX12_config_64 : decode cX12_config 64 = .ok (.getfield 504, 3) := by decide +kernel
theorem dX12_config_67 : decode cX12_config 67 = .ok (.iconst 1, 1) := by decide +kernel
theorem dX12_config_68 : decode cX12_config 68 = .ok (.iadd, 1) := by decide +kernel
theorem dX12_config_69 : decode cX12_config 69 = .ok (.putfield 504, 3) := by decide +kernel
theorem dX12_config_72 : decode cX12_config 72 = .ok (.aload_n 0, 1) := by decide +kernel
theorem dX12_config_73 : decode cX12_config 73 = .ok (.getfield 101, 3) := by decide +kernel
theorem dX12_config_76 : decode cX12_config 76 = .ok (.sipush 16640, 3) := by decide +kernel
theorem dX12_config_79 : decode cX12_config 79 = .ok (.aload_n 0, 1) := by decide +kernel
theorem dX12_config_80 : decode cX12_config 80 = .ok (.getfield 504, 3) := by decide +kernel
theorem dX12_config_83 : decode cX12_config 83 = .ok (.iadd, 1) := by decide +kernel
theorem dX12_config_84 : decode cX12_config 84 = .ok (.iconst 1, 1) := by decide +kernel
theorem dX12_config_85 : decode cX12_config 85 = .ok (.isub, 1) := by decide +kernel
theorem dX12_config_86 : decode cX12_config 86 = .ok (.iaload, 1) := by decide +kernel
theorem dX12_config_87 : decode cX12_config 87 = .ok (.ireturn, 1) := by decide +kernel
theorem cc_config : Cond.code yX12_config cX12_config 3 (some .int) ∈ rf_tb := rf_at 2071 (by decide +kernel) (by decide +kernel)
theorem cw_config : rf_wV yX12_config cX12_config 3 (some .int) 507 2 := ⟨⟨rf_at 2068 (by decide +kernel) (by decide +kernel), rf_at 2070 (by decide +kernel) (by decide +kernel), rf_sel (q := (yX12_config, 122)) 102 (by decide +kernel) (by decide +kernel), cc_config⟩, rfl, by decide +kernel⟩
noncomputable def bq_config_55 (x1 : Int32) (ρ : rf_S) : Option (Int32 × rf_S) := vl (rf_w ρ 0 116 (1:Int32)) (fun ρ_1 => some (x1, ρ_1))
set_option maxHeartbeats 4000000 in
theorem wq_config_55 (C : rf_C D p s m args meth c cX12_config 3 (some .int)) {r : Int32} {x1 : Int32} {ρ ρ' : rf_S} {H : Heap} {locs : List Loc} {ls : Array Slot} (h : bq_config_55 x1 ρ = some (r, ρ')) (G : rf_G D h0 s ρ H locs) (hl : lv_has ls 3 [(0, .ref h0), (1, .int x1)]) : W p l e ({ frames := 0, cells := 0, slots := 0, locals := 0 }) s m args below meth c H locs 0 0 (MQ below (rf_Q D h0 (some (.int r)) ρ') args s 0 0 (rf_A h0)) (F0 m 55 ls []) := by
  unfold bq_config_55 at h
  refine lv_aload_n C.1 C.2.1 dX12_config_55 rfl (lv_at hl 0 rfl) ?_
  refine lv_iconst (v := (1:Int32)) C.1 C.2.1 dX12_config_56 (by decide) ?_
  refine pf_116 C G rfl rfl dX12_config_57 (fun H locs G => ?_)
  refine rf_nm G h (fun ρ_1 G h => ?_)
  refine lv_iload_n C.1 C.2.1 dX12_config_60 rfl (lv_at hl 1 rfl) ?_
  exact rf_iret C G h dX12_config_61
noncomputable def bq_config_0 (x1 : Int32) (x2 : Int32) (ρ : rf_S) : Option (Int32 × rf_S) := (if (ρ.1 0 116) = 0 then ix (9:Int32) 10 ((if (ρ.1 27 (9:Int32).toNatClampNeg) ≤ (ρ.1 0 115) then bq_config_55 x1 ρ else ix ((16640:Int32) + (ρ.1 0 115)) 17000 ((if (ρ.1 26 ((16640:Int32) + (ρ.1 0 115)).toNatClampNeg) < x1 then bq_config_55 x1 ρ else ix ((16640:Int32) + (ρ.1 0 115)) 17000 ((if (ρ.1 26 ((16640:Int32) + (ρ.1 0 115)).toNatClampNeg) ≤ x2 then vl (rf_w ρ 0 115 ((ρ.1 0 115) + (1:Int32))) (fun ρ_2 => ix (((16640:Int32) + (ρ_2.1 0 115)) - (1:Int32)) 17000 (some ((ρ_2.1 26 (((16640:Int32) + (ρ_2.1 0 115)) - (1:Int32)).toNatClampNeg), ρ_2))) else bq_config_55 x1 ρ)))))) else bq_config_55 x1 ρ)
set_option maxHeartbeats 4000000 in
theorem wq_config_0 (C : rf_C D p s m args meth c cX12_config 3 (some .int)) {r : Int32} {x1 : Int32} {x2 : Int32} {ρ ρ' : rf_S} {H : Heap} {locs : List Loc} {ls : Array Slot} (h : bq_config_0 x1 x2 ρ = some (r, ρ')) (G : rf_G D h0 s ρ H locs) (hl : lv_has ls 3 [(0, .ref h0), (1, .int x1), (2, .int x2)]) : W p l e ({ frames := 0, cells := 0, slots := 0, locals := 0 }) s m args below meth c H locs 0 0 (MQ below (rf_Q D h0 (some (.int r)) ρ') args s 0 0 (rf_A h0)) (F0 m 0 ls []) := by
  unfold bq_config_0 at h
  refine lv_aload_n C.1 C.2.1 dX12_config_0 rfl (lv_at hl 0 rfl) ?_
  refine gf_116 C G dX12_config_1 ?_
  refine lv_if_ne (tgt := 55) C.1 C.2.1 dX12_config_4 (by decide) (fun hc => ?_) (fun hc => ?_)
  · rw [if_neg hc] at h
    exact wq_config_55 C h G (lv_sub hl [0, 1] rfl)
  · rw [if_pos hc] at h
    refine lv_aload_n C.1 C.2.1 dX12_config_7 rfl (lv_at hl 0 rfl) ?_
    refine gf_115 C G dX12_config_8 ?_
    refine lv_aload_n C.1 C.2.1 dX12_config_11 rfl (lv_at hl 0 rfl) ?_
    refine gf_50 C G dX12_config_12 ?_
    refine lv_bipush (v := (9:Int32)) C.1 C.2.1 dX12_config_15 (by decide) ?_
    obtain ⟨hi, h⟩ := ix_some h
    refine rf_iald C G 27 rfl (by decide) rfl rfl hi dX12_config_17 ?_
    refine lv_icmp_ge (tgt := 55) C.1 C.2.1 dX12_config_18 (by decide) (fun hc => ?_) (fun hc => ?_)
    · rw [if_pos hc] at h
      exact wq_config_55 C h G (lv_sub hl [0, 1] rfl)
    · rw [if_neg hc] at h
      refine lv_aload_n C.1 C.2.1 dX12_config_21 rfl (lv_at hl 0 rfl) ?_
      refine gf_49 C G dX12_config_22 ?_
      refine lv_sipush (v := (16640:Int32)) C.1 C.2.1 dX12_config_25 (by decide) ?_
      refine lv_aload_n C.1 C.2.1 dX12_config_28 rfl (lv_at hl 0 rfl) ?_
      refine gf_115 C G dX12_config_29 ?_
      refine lv_iadd C.1 C.2.1 dX12_config_32 ?_
      obtain ⟨hi, h⟩ := ix_some h
      refine rf_iald C G 26 rfl (by decide) rfl rfl hi dX12_config_33 ?_
      refine lv_iload_n C.1 C.2.1 dX12_config_34 rfl (lv_at hl 1 rfl) ?_
      refine lv_icmp_lt (tgt := 55) C.1 C.2.1 dX12_config_35 (by decide) (fun hc => ?_) (fun hc => ?_)
      · rw [if_pos hc] at h
        exact wq_config_55 C h G (lv_sub hl [0, 1] rfl)
      · rw [if_neg hc] at h
        refine lv_aload_n C.1 C.2.1 dX12_config_38 rfl (lv_at hl 0 rfl) ?_
        refine gf_49 C G dX12_config_39 ?_
        refine lv_sipush (v := (16640:Int32)) C.1 C.2.1 dX12_config_42 (by decide) ?_
        refine lv_aload_n C.1 C.2.1 dX12_config_45 rfl (lv_at hl 0 rfl) ?_
        refine gf_115 C G dX12_config_46 ?_
        refine lv_iadd C.1 C.2.1 dX12_config_49 ?_
        obtain ⟨hi, h⟩ := ix_some h
        refine rf_iald C G 26 rfl (by decide) rfl rfl hi dX12_config_50 ?_
        refine lv_iload_n C.1 C.2.1 dX12_config_51 rfl (lv_at hl 2 rfl) ?_
        refine lv_icmp_le (tgt := 62) C.1 C.2.1 dX12_config_52 (by decide) (fun hc => ?_) (fun hc => ?_)
        · rw [if_pos hc] at h
          refine lv_aload_n C.1 C.2.1 dX12_config_62 rfl (lv_at hl 0 rfl) ?_
          refine lv_dup C.1 C.2.1 dX12_config_63 rfl ?_
          refine gf_115 C G dX12_config_64 ?_
          refine lv_iconst (v := (1:Int32)) C.1 C.2.1 dX12_config_67 (by decide) ?_
          refine lv_iadd C.1 C.2.1 dX12_config_68 ?_
          refine pf_115 C G dX12_config_69 (fun H locs G => ?_)
          refine rf_nm G h (fun ρ_2 G h => ?_)
          refine lv_aload_n C.1 C.2.1 dX12_config_72 rfl (lv_at hl 0 rfl) ?_
          refine gf_49 C G dX12_config_73 ?_
          refine lv_sipush (v := (16640:Int32)) C.1 C.2.1 dX12_config_76 (by decide) ?_
          refine lv_aload_n C.1 C.2.1 dX12_config_79 rfl (lv_at hl 0 rfl) ?_
          refine gf_115 C G dX12_config_80 ?_
          refine lv_iadd C.1 C.2.1 dX12_config_83 ?_
          refine lv_iconst (v := (1:Int32)) C.1 C.2.1 dX12_config_84 (by decide) ?_
          refine lv_isub C.1 C.2.1 dX12_config_85 ?_
          obtain ⟨hi, h⟩ := ix_some h
          refine rf_iald C G 26 rfl (by decide) rfl rfl hi dX12_config_86 ?_
          exact rf_iret C G h dX12_config_87
        · rw [if_neg hc] at h
          exact wq_config_55 C h G (lv_sub hl [0, 1] rfl)
noncomputable def fq_config (x1 : Int32) (x2 : Int32) (ρ : rf_S) : Option (Int32 × rf_S) := bq_config_0 x1 x2 ρ
theorem kq_config (l : Launch) (D : rf_D) (h0 : Nat) {r : Int32} {x1 : Int32} {x2 : Int32} {ρ ρ' : rf_S} (h : fq_config x1 x2 ρ = some (r, ρ')) : rf_Met l D h0 yX12_config cX12_config 3 (some .int) 0 0 [.ref h0, .int x1, .int x2] ρ (some (.int r)) ρ' :=
  rf_of rfl cc_config (Nat.le_of_ble_eq_true rfl) (fun p e s m args below meth c ls C G hl => wq_config_0 C h G hl)
abbrev cX12_refuse : ByteArray := prog_14_method_56_code
def yX12_refuse : MethodName := ⟨RX12, "refuse", "(Z)V"⟩
theorem dX12_refuse_0 : decode cX12_refuse 0 = .ok (.iload_n 1, 1) := by decide +kernel
theorem dX12_refuse_1 : decode cX12_refuse 1 = .ok (.ifCond .eq 25, 3) := by decide +kernel
theorem dX12_refuse_4 : decode cX12_refuse 4 = .ok (.aload_n 0, 1) := by decide +kernel
theorem dX12_refuse_5 : decode cX12_refuse 5 = .ok (.getfield 500, 3) := by decide +kernel
theorem dX12_refuse_8 : decode cX12_refuse 8 = .ok (.ifCond .ne 18, 3) := by decide +kernel
theorem dX12_refuse_11 : decode cX12_refuse 11 = .ok (.aload_n 0, 1) := by decide +kernel
theorem dX12_refuse_12 : decode cX12_refuse 12 = .ok (.iconst 1, 1) := by decide +kernel
theorem dX12_refuse_13 : decode cX12_refuse 13 = .ok (.putfield 500, 3) := by decide +kernel
theorem dX12_refuse_16 : decode cX12_refuse 16 = .ok (.aload_n 0, 1) := by decide +kernel
theorem dX12_refuse_17 : decode cX12_refuse 17 = .ok (.dup, 1) := by decide +kernel
theorem dX12_refuse_18 : decode cX12_refuse 18 = .ok (.getfield 504, 3) := by decide +kernel
theorem dX12_refuse_21 : decode cX12_refuse 21 = .ok (.iconst 1, 1) := by decide +kernel
theorem dX12_refuse_22 : decode cX12_refuse 22 = .ok (.isub, 1) := by decide +kernel
theorem dX12_refuse_23 : decode cX12_refuse 23 = .ok (.putfield 504, 3) := by decide +kernel
theorem dX12_refuse_26 : decode cX12_refuse 26 = .ok (.return_, 1) := by decide +kernel
theorem cc_refuse : Cond.code yX12_refuse cX12_refuse 2 none ∈ rf_tb := rf_at 2075 (by decide +kernel) (by decide +kernel)
theorem cw_refuse : rf_wV yX12_refuse cX12_refuse 2 none 510 1 := ⟨⟨rf_at 2072 (by decide +kernel) (by decide +kernel), rf_at 2074 (by decide +kernel) (by decide +kernel), rf_sel (q := (yX12_refuse, 122)) 103 (by decide +kernel) (by decide +kernel), cc_refuse⟩, rfl, by decide +kernel⟩
noncomputable def bq_refuse_0 (x1 : Int32) (ρ : rf_S) : Option (rf_S) := (if x1 = 0 then some ρ else (if (ρ.1 0 116) = 0 then vl (rf_w ρ 0 116 (1:Int32)) (fun ρ_1 => vl (rf_w ρ_1 0 115 ((ρ_1.1 0 115) - (1:Int32))) (fun ρ_2 => some ρ_2)) else some ρ))
set_option maxHeartbeats 4000000 in
theorem wq_refuse_0 (C : rf_C D p s m args meth c cX12_refuse 2 none) {x1 : Int32} {ρ ρ' : rf_S} {H : Heap} {locs : List Loc} {ls : Array Slot} (h : bq_refuse_0 x1 ρ = some ρ') (G : rf_G D h0 s ρ H locs) (hl : lv_has ls 2 [(0, .ref h0), (1, .int x1)]) : W p l e ({ frames := 0, cells := 0, slots := 0, locals := 0 }) s m args below meth c H locs 0 0 (MQ below (rf_Q D h0 none ρ') args s 0 0 (rf_A h0)) (F0 m 0 ls []) := by
  unfold bq_refuse_0 at h
  refine lv_iload_n C.1 C.2.1 dX12_refuse_0 rfl (lv_at hl 1 rfl) ?_
  refine lv_if_eq (tgt := 26) C.1 C.2.1 dX12_refuse_1 (by decide) (fun hc => ?_) (fun hc => ?_)
  · rw [if_pos hc] at h
    exact rf_vret C G h dX12_refuse_26
  · rw [if_neg hc] at h
    refine lv_aload_n C.1 C.2.1 dX12_refuse_4 rfl (lv_at hl 0 rfl) ?_
    refine gf_116 C G dX12_refuse_5 ?_
    refine lv_if_ne (tgt := 26) C.1 C.2.1 dX12_refuse_8 (by decide) (fun hc => ?_) (fun hc => ?_)
    · rw [if_neg hc] at h
      exact rf_vret C G h dX12_refuse_26
    · rw [if_pos hc] at h
      refine lv_aload_n C.1 C.2.1 dX12_refuse_11 rfl (lv_at hl 0 rfl) ?_
      refine lv_iconst (v := (1:Int32)) C.1 C.2.1 dX12_refuse_12 (by decide) ?_
      refine pf_116 C G rfl rfl dX12_refuse_13 (fun H locs G => ?_)
      refine rf_nm G h (fun ρ_1 G h => ?_)
      refine lv_aload_n C.1 C.2.1 dX12_refuse_16 rfl (lv_at hl 0 rfl) ?_
      refine lv_dup C.1 C.2.1 dX12_refuse_17 rfl ?_
      refine gf_115 C G dX12_refuse_18 ?_
      refine lv_iconst (v := (1:Int32)) C.1 C.2.1 dX12_refuse_21 (by decide) ?_
      refine lv_isub C.1 C.2.1 dX12_refuse_22 ?_
      refine pf_115 C G dX12_refuse_23 (fun H locs G => ?_)
      refine rf_nm G h (fun ρ_2 G h => ?_)
      exact rf_vret C G h dX12_refuse_26
noncomputable def fq_refuse (x1 : Int32) (ρ : rf_S) : Option (rf_S) := bq_refuse_0 x1 ρ
theorem kq_refuse (l : Launch) (D : rf_D) (h0 : Nat) {x1 : Int32} {ρ ρ' : rf_S} (h : fq_refuse x1 ρ = some ρ') : rf_Met l D h0 yX12_refuse cX12_refuse 2 none 0 0 [.ref h0, .int x1] ρ none ρ' :=
  rf_of rfl cc_refuse (Nat.le_of_ble_eq_true rfl) (fun p e s m args below meth c ls C G hl => wq_refuse_0 C h G hl)
end RQ5
