section RQ9
variable {p : Program} {l : Launch} {e : Env} {s : State} {m : MethodId} {args : Array Value} {below : List Frame} {meth : Method} {c : Code} {D : rf_D} {h0 : Nat}
abbrev cX12_reckon : ByteArray := prog_14_method_69_code
def yX12_reckon : MethodName := ⟨RX12, "reckon", "(III)I"⟩
theorem dX12_reckon_0 : decode cX12_reckon 0 = .ok (.iload_n 0, 1) := by decide +kernel
theorem dX12_reckon_1 : decode cX12_reckon 1 = .ok (.tableswitch 126 1 10 #[55, 59, 63, 67, 71, 75, 82, 89, 96, 107], 55) := by decide +kernel
theorem dX12_reckon_56 : decode cX12_reckon 56 = .ok (.iload_n 1, 1) := by decide +kernel
theorem dX12_reckon_57 : decode cX12_reckon 57 = .ok (.iload_n 2, 1) := by decide +kernel
theorem dX12_reckon_58 : decode cX12_reckon 58 = .ok (.iadd, 1) := by decide +kernel
theorem dX12_reckon_59 : decode cX12_reckon 59 = .ok (.ireturn, 1) := by decide +kernel
theorem dX12_reckon_60 : decode cX12_reckon 60 = .ok (.iload_n 1, 1) := by decide +kernel
theorem dX12_reckon_61 : decode cX12_reckon 61 = .ok (.iload_n 2, 1) := by decide +kernel
theorem dX12_reckon_62 : decode cX12_reckon 62 = .ok (.isub, 1) := by decide +kernel
theorem dX12_reckon_63 : decode cX12_reckon 63 = .ok (.ireturn, 1) := by decide +kernel
theorem dX12_reckon_64 : decode cX12_reckon 64 = .ok (.iload_n 1, 1) := by decide +kernel
theorem dX12_reckon_65 : decode cX12_reckon 65 = .ok (.iload_n 2, 1) := by decide +kernel
theorem dX12_reckon_66 : decode cX12_reckon 66 = .ok (.iand, 1) := by decide +kernel
theorem dX12_reckon_67 : decode cX12_reckon 67 = .ok (.ireturn, 1) := by decide +kernel
theorem dX12_reckon_68 : decode cX12_reckon 68 = .ok (.iload_n 1, 1) := by decide +kernel
theorem dX12_reckon_69 : decode cX12_reckon 69 = .ok (.iload_n 2, 1) := by decide +kernel
theorem dX12_reckon_70 : decode cX12_reckon 70 = .ok (.ior, 1) := by decide +kernel
theorem dX12_reckon_71 : decode cX12_reckon 71 = .ok (.ireturn, 1) := by decide +kernel
theorem dX12_reckon_72 : decode cX12_reckon 72 = .ok (.iload_n 1, 1) := by decide +kernel
theorem dX12_reckon_73 : decode cX12_reckon 73 = .ok (.iload_n 2, 1) := by decide +kernel
theorem dX12_reckon_74 : decode cX12_reckon 74 = .ok (.ixor, 1) := by decide +kernel
theorem dX12_reckon_75 : decode cX12_reckon 75 = .ok (.ireturn, 1) := by decide +kernel
theorem dX12_reckon_76 : decode cX12_reckon 76 = .ok (.iload_n 1, 1) := by decide +kernel
theorem dX12_reckon_77 : decode cX12_reckon 77 = .ok (.iload_n 2, 1) := by decide +kernel
theorem dX12_reckon_78 : decode cX12_reckon 78 = .ok (.bipush 31, 2) := by decide +kernel
theorem dX12_reckon_80 : decode cX12_reckon 80 = .ok (.iand, 1) := by decide +kernel
theorem dX12_reckon_81 : decode cX12_reckon 81 = .ok (.ishl, 1) := by decide +kernel
theorem dX12_reckon_82 : decode cX12_reckon 82 = .ok (.ireturn, 1) := by decide +kernel
theorem dX12_reckon_83 : decode cX12_reckon 83 = .ok (.iload_n 1, 1) := by decide +kernel
theorem dX12_reckon_84 : decode cX12_reckon 84 = .ok (.iload_n 2, 1) := by decide +kernel
theorem dX12_reckon_85 : decode cX12_reckon 85 = .ok (.bipush 31, 2) := by decide +kernel
theorem dX12_reckon_87 : decode cX12_reckon 87 = .ok (.iand, 1) := by decide +kernel
theorem dX12_reckon_88 : decode cX12_reckon 88 = .ok (.iushr, 1) := by decide +kernel
theorem dX12_reckon_89 : decode cX12_reckon 89 = .ok (.ireturn, 1) := by decide +kernel
theorem dX12_reckon_90 : decode cX12_reckon 90 = .ok (.iload_n 1, 1) := by decide +kernel
theorem dX12_reckon_91 : decode cX12_reckon 91 = .ok (.iload_n 2, 1) := by decide +kernel
theorem dX12_reckon_92 : decode cX12_reckon 92 = .ok (.bipush 31, 2) := by decide +kernel
theorem dX12_reckon_94 : decode cX12_reckon 94 = .ok (.iand, 1) := by decide +kernel
theorem dX12_reckon_95 : decode cX12_reckon 95 = .ok (.ishr, 1) := by decide +kernel
theorem dX12_reckon_96 : decode cX12_reckon 96 = .ok (.ireturn, 1) := by decide +kernel
theorem dX12_reckon_97 : decode cX12_reckon 97 = .ok (.iload_n 1, 1) := by decide +kernel
theorem dX12_reckon_98 : decode cX12_reckon 98 = .ok (.iload_n 2, 1) := by decide +kernel
theorem dX12_reckon_99 : decode cX12_reckon 99 = .ok (.if_icmp .ge 7, 3) := by decide +kernel
theorem dX12_reckon_102 : decode cX12_reckon 102 = .ok (.iconst 1, 1) := by decide +kernel
theorem dX12_reckon_103 : decode cX12_reckon 103 = .ok (.goto 4, 3) := by decide +kernel
theorem dX12_reckon_106 : decode cX12_reckon 106 = .ok (.iconst 0, 1) := by decide +kernel
theorem dX12_reckon_107 : decode cX12_reckon 107 = .ok (.ireturn, 1) := by decide +kernel
theorem dX12_reckon_108 : decode cX12_reckon 108 = .ok (.iload_n 1, 1) := by decide +kernel
theorem dX12_reckon_109 : decode cX12_reckon 109 = .ok (.ldc_w 566, 3) := by decide +kernel
theorem dX12_reckon_112 : decode cX12_reckon 112 = .ok (.iadd, 1) := by decide +kernel
theorem dX12_reckon_113 : decode cX12_reckon 113 = .ok (.iload_n 2, 1) := by decide +kernel
theorem dX12_reckon_114 : decode cX12_reckon 114 = .ok (.ldc_w 566, 3) := by decide +kernel
theorem dX12_reckon_117 : decode cX12_reckon 117 = .ok (.iadd, 1) := by decide +kernel
theorem dX12_reckon_118 : decode cX12_reckon 118 = .ok (.if_icmp .ge 7, 3) := by decide +kernel
theorem dX12_reckon_121 : decode cX12_reckon 121 = .ok (.iconst 1, 1) := by decide +kernel
theorem dX12_reckon_122 : decode cX12_reckon 122 = .ok (.goto 4, 3) := by decide +kernel
theorem dX12_reckon_125 : decode cX12_reckon 125 = .ok (.iconst 0, 1) := by decide +kernel
theorem dX12_reckon_126 : decode cX12_reckon 126 = .ok (.ireturn, 1) := by decide +kernel
theorem dX12_reckon_127 : decode cX12_reckon 127 = .ok (.iload_n 1, 1) := by decide +kernel
theorem dX12_reckon_128 : decode cX12_reckon 128 = .ok (.iload_n 2, 1) := by decide +kernel
theorem dX12_reckon_129 : decode cX12_reckon 129 = .ok (.imul, 1) := by decide +kernel
theorem dX12_reckon_130 : decode cX12_reckon 130 = .ok (.ireturn, 1) := by decide +kernel
theorem cc_reckon : Cond.code yX12_reckon cX12_reckon 3 (some .int) ∈ rf_tb := rf_at 2123 (by decide +kernel) (by decide +kernel)
theorem cw_reckon : rf_wS yX12_reckon cX12_reckon 3 (some .int) 582 3 := ⟨⟨rf_at 2121 (by decide +kernel) (by decide +kernel), rf_at 2122 (by decide +kernel) (by decide +kernel), cc_reckon⟩, rfl, by decide +kernel⟩
theorem kc_566 : Cond.constant RX12 566 (-2147483648 : Int32) ∈ rf_tb := rf_at 2124 (by decide +kernel) (by decide +kernel)
noncomputable def bq_reckon_0 (x0 : Int32) (x1 : Int32) (x2 : Int32) (ρ : rf_S) : Option (Int32 × rf_S) := (if x0 = (1:Int32) then some ((x1 + x2), ρ) else if x0 = (2:Int32) then some ((x1 - x2), ρ) else if x0 = (3:Int32) then some ((x1 &&& x2), ρ) else if x0 = (4:Int32) then some ((x1 ||| x2), ρ) else if x0 = (5:Int32) then some ((x1 ^^^ x2), ρ) else if x0 = (6:Int32) then some ((x1 <<< ((x2 &&& (31:Int32)) &&& 31)), ρ) else if x0 = (7:Int32) then some ((x1.toUInt32 >>> ((x2 &&& (31:Int32)).toUInt32 &&& Int32.toUInt32 31)).toInt32, ρ) else if x0 = (8:Int32) then some ((x1 >>> ((x2 &&& (31:Int32)) &&& 31)), ρ) else if x0 = (9:Int32) then (if x2 ≤ x1 then some ((0:Int32), ρ) else some ((1:Int32), ρ)) else if x0 = (10:Int32) then (if (x2 + (-2147483648:Int32)) ≤ (x1 + (-2147483648:Int32)) then some ((0:Int32), ρ) else some ((1:Int32), ρ)) else some ((x1 * x2), ρ))
set_option maxHeartbeats 4000000 in
theorem wq_reckon_0 (C : rf_C D p s m args meth c cX12_reckon 3 (some .int)) {r : Int32} {x0 : Int32} {x1 : Int32} {x2 : Int32} {ρ ρ' : rf_S} {H : Heap} {locs : List Loc} {ls : Array Slot} (h : bq_reckon_0 x0 x1 x2 ρ = some (r, ρ')) (G : rf_G D h0 s ρ H locs) (hl : lv_has ls 3 [(0, .int x0), (1, .int x1), (2, .int x2)]) : W p l e ({ frames := 0, cells := 0, slots := 0, locals := 0 }) s m args below meth c H locs 0 0 (MQ below (rf_Q D h0 (some (.int r)) ρ') args s 0 0 (rf_A h0)) (F0 m 0 ls []) := by
  unfold bq_reckon_0 at h
  refine lv_iload_n C.1 C.2.1 dX12_reckon_0 rfl (lv_at hl 0 rfl) ?_
  by_cases hk1 : x0 = (1:Int32)
  · rw [if_pos hk1] at h
    refine lv_tableIn (tgt := 56) C.1 C.2.1 dX12_reckon_1 (by rw [hk1]; decide) (by rw [hk1]; decide) (by rw [hk1]; rfl) (by decide) ?_
    refine lv_iload_n C.1 C.2.1 dX12_reckon_56 rfl (lv_at hl 1 rfl) ?_
    refine lv_iload_n C.1 C.2.1 dX12_reckon_57 rfl (lv_at hl 2 rfl) ?_
    refine lv_iadd C.1 C.2.1 dX12_reckon_58 ?_
    exact rf_iret C G h dX12_reckon_59
  rw [if_neg hk1] at h
  by_cases hk2 : x0 = (2:Int32)
  · rw [if_pos hk2] at h
    refine lv_tableIn (tgt := 60) C.1 C.2.1 dX12_reckon_1 (by rw [hk2]; decide) (by rw [hk2]; decide) (by rw [hk2]; rfl) (by decide) ?_
    refine lv_iload_n C.1 C.2.1 dX12_reckon_60 rfl (lv_at hl 1 rfl) ?_
    refine lv_iload_n C.1 C.2.1 dX12_reckon_61 rfl (lv_at hl 2 rfl) ?_
    refine lv_isub C.1 C.2.1 dX12_reckon_62 ?_
    exact rf_iret C G h dX12_reckon_63
  rw [if_neg hk2] at h
  by_cases hk3 : x0 = (3:Int32)
  · rw [if_pos hk3] at h
    refine lv_tableIn (tgt := 64) C.1 C.2.1 dX12_reckon_1 (by rw [hk3]; decide) (by rw [hk3]; decide) (by rw [hk3]; rfl) (by decide) ?_
    refine lv_iload_n C.1 C.2.1 dX12_reckon_64 rfl (lv_at hl 1 rfl) ?_
    refine lv_iload_n C.1 C.2.1 dX12_reckon_65 rfl (lv_at hl 2 rfl) ?_
    refine lv_iand C.1 C.2.1 dX12_reckon_66 ?_
    exact rf_iret C G h dX12_reckon_67
  rw [if_neg hk3] at h
  by_cases hk4 : x0 = (4:Int32)
  · rw [if_pos hk4] at h
    refine lv_tableIn (tgt := 68) C.1 C.2.1 dX12_reckon_1 (by rw [hk4]; decide) (by rw [hk4]; decide) (by rw [hk4]; rfl) (by decide) ?_
    refine lv_iload_n C.1 C.2.1 dX12_reckon_68 rfl (lv_at hl 1 rfl) ?_
    refine lv_iload_n C.1 C.2.1 dX12_reckon_69 rfl (lv_at hl 2 rfl) ?_
    refine lv_ior C.1 C.2.1 dX12_reckon_70 ?_
    exact rf_iret C G h dX12_reckon_71
  rw [if_neg hk4] at h
  by_cases hk5 : x0 = (5:Int32)
  · rw [if_pos hk5] at h
    refine lv_tableIn (tgt := 72) C.1 C.2.1 dX12_reckon_1 (by rw [hk5]; decide) (by rw [hk5]; decide) (by rw [hk5]; rfl) (by decide) ?_
    refine lv_iload_n C.1 C.2.1 dX12_reckon_72 rfl (lv_at hl 1 rfl) ?_
    refine lv_iload_n C.1 C.2.1 dX12_reckon_73 rfl (lv_at hl 2 rfl) ?_
    refine lv_ixor C.1 C.2.1 dX12_reckon_74 ?_
    exact rf_iret C G h dX12_reckon_75
  rw [if_neg hk5] at h
  by_cases hk6 : x0 = (6:Int32)
  · rw [if_pos hk6] at h
    refine lv_tableIn (tgt := 76) C.1 C.2.1 dX12_reckon_1 (by rw [hk6]; decide) (by rw [hk6]; decide) (by rw [hk6]; rfl) (by decide) ?_
    refine lv_iload_n C.1 C.2.1 dX12_reckon_76 rfl (lv_at hl 1 rfl) ?_
    refine lv_iload_n C.1 C.2.1 dX12_reckon_77 rfl (lv_at hl 2 rfl) ?_
    refine lv_bipush (v := (31:Int32)) C.1 C.2.1 dX12_reckon_78 (by decide) ?_
    refine lv_iand C.1 C.2.1 dX12_reckon_80 ?_
    refine lv_ishl C.1 C.2.1 dX12_reckon_81 ?_
    exact rf_iret C G h dX12_reckon_82
  rw [if_neg hk6] at h
  by_cases hk7 : x0 = (7:Int32)
  · rw [if_pos hk7] at h
    refine lv_tableIn (tgt := 83) C.1 C.2.1 dX12_reckon_1 (by rw [hk7]; decide) (by rw [hk7]; decide) (by rw [hk7]; rfl) (by decide) ?_
    refine lv_iload_n C.1 C.2.1 dX12_reckon_83 rfl (lv_at hl 1 rfl) ?_
    refine lv_iload_n C.1 C.2.1 dX12_reckon_84 rfl (lv_at hl 2 rfl) ?_
    refine lv_bipush (v := (31:Int32)) C.1 C.2.1 dX12_reckon_85 (by decide) ?_
    refine lv_iand C.1 C.2.1 dX12_reckon_87 ?_
    refine lv_iushr C.1 C.2.1 dX12_reckon_88 rfl ?_
    exact rf_iret C G h dX12_reckon_89
  rw [if_neg hk7] at h
  by_cases hk8 : x0 = (8:Int32)
  · rw [if_pos hk8] at h
    refine lv_tableIn (tgt := 90) C.1 C.2.1 dX12_reckon_1 (by rw [hk8]; decide) (by rw [hk8]; decide) (by rw [hk8]; rfl) (by decide) ?_
    refine lv_iload_n C.1 C.2.1 dX12_reckon_90 rfl (lv_at hl 1 rfl) ?_
    refine lv_iload_n C.1 C.2.1 dX12_reckon_91 rfl (lv_at hl 2 rfl) ?_
    refine lv_bipush (v := (31:Int32)) C.1 C.2.1 dX12_reckon_92 (by decide) ?_
    refine lv_iand C.1 C.2.1 dX12_reckon_94 ?_
    refine lv_ishr C.1 C.2.1 dX12_reckon_95 ?_
    exact rf_iret C G h dX12_reckon_96
  rw [if_neg hk8] at h
  by_cases hk9 : x0 = (9:Int32)
  · rw [if_pos hk9] at h
    refine lv_tableIn (tgt := 97) C.1 C.2.1 dX12_reckon_1 (by rw [hk9]; decide) (by rw [hk9]; decide) (by rw [hk9]; rfl) (by decide) ?_
    refine lv_iload_n C.1 C.2.1 dX12_reckon_97 rfl (lv_at hl 1 rfl) ?_
    refine lv_iload_n C.1 C.2.1 dX12_reckon_98 rfl (lv_at hl 2 rfl) ?_
    refine lv_icmp_ge (tgt := 106) C.1 C.2.1 dX12_reckon_99 (by decide) (fun hc => ?_) (fun hc => ?_)
    · rw [if_pos hc] at h
      refine lv_iconst (v := (0:Int32)) C.1 C.2.1 dX12_reckon_106 (by decide) ?_
      exact rf_iret C G h dX12_reckon_107
    · rw [if_neg hc] at h
      refine lv_iconst (v := (1:Int32)) C.1 C.2.1 dX12_reckon_102 (by decide) ?_
      refine lv_goto (tgt := 107) C.1 C.2.1 dX12_reckon_103 (by decide) ?_
      exact rf_iret C G h dX12_reckon_107
  rw [if_neg hk9] at h
  by_cases hk10 : x0 = (10:Int32)
  · rw [if_pos hk10] at h
    refine lv_tableIn (tgt := 108) C.1 C.2.1 dX12_reckon_1 (by rw [hk10]; decide) (by rw [hk10]; decide) (by rw [hk10]; rfl) (by decide) ?_
    refine lv_iload_n C.1 C.2.1 dX12_reckon_108 rfl (lv_at hl 1 rfl) ?_
    refine lv_ldcw (v := (-2147483648:Int32)) C.1 C.2.1 C.2.2.2.1 (C.2.2.2.2.1 _ kc_566) dX12_reckon_109 ?_
    refine lv_iadd C.1 C.2.1 dX12_reckon_112 ?_
    refine lv_iload_n C.1 C.2.1 dX12_reckon_113 rfl (lv_at hl 2 rfl) ?_
    refine lv_ldcw (v := (-2147483648:Int32)) C.1 C.2.1 C.2.2.2.1 (C.2.2.2.2.1 _ kc_566) dX12_reckon_114 ?_
    refine lv_iadd C.1 C.2.1 dX12_reckon_117 ?_
    refine lv_icmp_ge (tgt := 125) C.1 C.2.1 dX12_reckon_118 (by decide) (fun hc => ?_) (fun hc => ?_)
    · rw [if_pos hc] at h
      refine lv_iconst (v := (0:Int32)) C.1 C.2.1 dX12_reckon_125 (by decide) ?_
      exact rf_iret C G h dX12_reckon_126
    · rw [if_neg hc] at h
      refine lv_iconst (v := (1:Int32)) C.1 C.2.1 dX12_reckon_121 (by decide) ?_
      refine lv_goto (tgt := 126) C.1 C.2.1 dX12_reckon_122 (by decide) ?_
      exact rf_iret C G h dX12_reckon_126
  rw [if_neg hk10] at h
  refine lv_tableOut (tgt := 127) C.1 C.2.1 dX12_reckon_1 ?_ (by decide) ?_
  · rcases Int.lt_or_le x0.toInt 1 with q | q
    · exact Or.inl q
    · rcases Int.lt_or_le 10 x0.toInt with q2 | q2
      · exact Or.inr q2
      · exfalso
        have hd : x0.toInt = (1 : Int) ∨ x0.toInt = (2 : Int) ∨ x0.toInt = (3 : Int) ∨ x0.toInt = (4 : Int) ∨ x0.toInt = (5 : Int) ∨ x0.toInt = (6 : Int) ∨ x0.toInt = (7 : Int) ∨ x0.toInt = (8 : Int) ∨ x0.toInt = (9 : Int) ∨ x0.toInt = (10 : Int) := by omega
        rcases hd with e | e | e | e | e | e | e | e | e | e
        · exact hk1 (Int32.toInt_inj.mp (e.trans (by decide)))
        · exact hk2 (Int32.toInt_inj.mp (e.trans (by decide)))
        · exact hk3 (Int32.toInt_inj.mp (e.trans (by decide)))
        · exact hk4 (Int32.toInt_inj.mp (e.trans (by decide)))
        · exact hk5 (Int32.toInt_inj.mp (e.trans (by decide)))
        · exact hk6 (Int32.toInt_inj.mp (e.trans (by decide)))
        · exact hk7 (Int32.toInt_inj.mp (e.trans (by decide)))
        · exact hk8 (Int32.toInt_inj.mp (e.trans (by decide)))
        · exact hk9 (Int32.toInt_inj.mp (e.trans (by decide)))
        · exact hk10 (Int32.toInt_inj.mp (e.trans (by decide)))
  · refine lv_iload_n C.1 C.2.1 dX12_reckon_127 rfl (lv_at hl 1 rfl) ?_
    refine lv_iload_n C.1 C.2.1 dX12_reckon_128 rfl (lv_at hl 2 rfl) ?_
    refine lv_imul C.1 C.2.1 dX12_reckon_129 ?_
    exact rf_iret C G h dX12_reckon_130
noncomputable def fq_reckon (x0 : Int32) (x1 : Int32) (x2 : Int32) (ρ : rf_S) : Option (Int32 × rf_S) := bq_reckon_0 x0 x1 x2 ρ
theorem kq_reckon (l : Launch) (D : rf_D) (h0 : Nat) {r : Int32} {x0 : Int32} {x1 : Int32} {x2 : Int32} {ρ ρ' : rf_S} (h : fq_reckon x0 x1 x2 ρ = some (r, ρ')) : rf_Met l D h0 yX12_reckon cX12_reckon 3 (some .int) 0 0 [.int x0, .int x1, .int x2] ρ (some (.int r)) ρ' :=
  rf_of rfl cc_reckon (Nat.le_of_ble_eq_true rfl) (fun p e s m args below meth c ls C G hl => wq_reckon_0 C h G hl)
abbrev cX12_give : ByteArray := prog_14_method_67_code
def yX12_give : MethodName := ⟨RX12, "give", "(II)V"⟩
theorem dX12_give_0 : decode cX12_give 0 = .ok (.iload_n 1, 1) := by decide +kernel
theorem dX12_give_1 : decode cX12_give 1 = .ok (.ifCond .eq 18, 3) := by decide +kernel
theorem dX12_give_4 : decode cX12_give 4 = .ok (.aload_n 0, 1) := by decide +kernel
theorem dX12_give_5 : decode cX12_give 5 = .ok (.getfield 182, 3) := by decide +kernel
theorem dX12_give_8 : decode cX12_give 8 = .ok (.bipush 16, 2) := by decide +kernel
theorem dX12_give_10 : decode cX12_give 10 = .ok (.aload_n 0, 1) := by decide +kernel
theorem dX12_give_11 : decode cX12_give 11 = .ok (.getfield 563, 3) := by decide +kernel
theorem dX12_give_14 : decode cX12_give 14 = .ok (.imul, 1) := by decide +kernel
theorem dX12_give_15 : decode cX12_give 15 = .ok (.iload_n 1, 1) := by decide +kernel
theorem dX12_give_16 : decode cX12_give 16 = .ok (.iadd, 1) := by decide +kernel
theorem dX12_give_17 : decode cX12_give 17 = .ok (.iload_n 2, 1) := by decide +kernel
theorem dX12_give_18 : decode cX12_give 18 = .ok (.iastore, 1) := by decide +kernel
theorem dX12_give_19 : decode cX12_give 19 = .ok (.return_, 1) := by decide +kernel
theorem cc_give : Cond.code yX12_give cX12_give 3 none ∈ rf_tb := rf_at 2128 (by decide +kernel) (by decide +kernel)
theorem cw_give : rf_wV yX12_give cX12_give 3 none 586 2 := ⟨⟨rf_at 2125 (by decide +kernel) (by decide +kernel), rf_at 2127 (by decide +kernel) (by decide +kernel), rf_sel (q := (yX12_give, 122)) 112 (by decide +kernel) (by decide +kernel), cc_give⟩, rfl, by decide +kernel⟩
noncomputable def bq_give_0 (x1 : Int32) (x2 : Int32) (ρ : rf_S) : Option (rf_S) := (if x1 = 0 then some ρ else ix (((16:Int32) * (ρ.1 0 119)) + x1) 256 (vl (rf_w ρ 53 (((16:Int32) * (ρ.1 0 119)) + x1).toNatClampNeg x2) (fun ρ_1 => some ρ_1)))
set_option maxHeartbeats 4000000 in
theorem wq_give_0 (C : rf_C D p s m args meth c cX12_give 3 none) {x1 : Int32} {x2 : Int32} {ρ ρ' : rf_S} {H : Heap} {locs : List Loc} {ls : Array Slot} (h : bq_give_0 x1 x2 ρ = some ρ') (G : rf_G D h0 s ρ H locs) (hl : lv_has ls 3 [(0, .ref h0), (1, .int x1), (2, .int x2)]) : W p l e ({ frames := 0, cells := 0, slots := 0, locals := 0 }) s m args below meth c H locs 0 0 (MQ below (rf_Q D h0 none ρ') args s 0 0 (rf_A h0)) (F0 m 0 ls []) := by
  unfold bq_give_0 at h
  refine lv_iload_n C.1 C.2.1 dX12_give_0 rfl (lv_at hl 1 rfl) ?_
  refine lv_if_eq (tgt := 19) C.1 C.2.1 dX12_give_1 (by decide) (fun hc => ?_) (fun hc => ?_)
  · rw [if_pos hc] at h
    exact rf_vret C G h dX12_give_19
  · rw [if_neg hc] at h
    refine lv_aload_n C.1 C.2.1 dX12_give_4 rfl (lv_at hl 0 rfl) ?_
    refine gf_85 C G dX12_give_5 ?_
    refine lv_bipush (v := (16:Int32)) C.1 C.2.1 dX12_give_8 (by decide) ?_
    refine lv_aload_n C.1 C.2.1 dX12_give_10 rfl (lv_at hl 0 rfl) ?_
    refine gf_119 C G dX12_give_11 ?_
    refine lv_imul C.1 C.2.1 dX12_give_14 ?_
    refine lv_iload_n C.1 C.2.1 dX12_give_15 rfl (lv_at hl 1 rfl) ?_
    refine lv_iadd C.1 C.2.1 dX12_give_16 ?_
    refine lv_iload_n C.1 C.2.1 dX12_give_17 rfl (lv_at hl 2 rfl) ?_
    obtain ⟨hi, h⟩ := ix_some h
    refine rf_iast C G 53 rfl (by decide) rfl rfl hi dX12_give_18 (fun H locs G => ?_)
    refine rf_nm G h (fun ρ_1 G h => ?_)
    exact rf_vret C G h dX12_give_19
noncomputable def fq_give (x1 : Int32) (x2 : Int32) (ρ : rf_S) : Option (rf_S) := bq_give_0 x1 x2 ρ
theorem kq_give (l : Launch) (D : rf_D) (h0 : Nat) {x1 : Int32} {x2 : Int32} {ρ ρ' : rf_S} (h : fq_give x1 x2 ρ = some ρ') : rf_Met l D h0 yX12_give cX12_give 3 none 0 0 [.ref h0, .int x1, .int x2] ρ none ρ' :=
  rf_of rfl cc_give (Nat.le_of_ble_eq_true rfl) (fun p e s m args below meth c ls C G hl => wq_give_0 C h G hl)
abbrev cX12_plainOf : ByteArray := prog_14_method_70_code
def yX12_plainOf : MethodName := ⟨RX12, "plainOf", "(I)I"⟩
theorem dX12_plainOf_0 : decode cX12_plainOf 0 = .ok (.iload_n 0, 1) := by decide +kernel
theorem dX12_plainOf_1 : decode cX12_plainOf 1 = .ok (.bipush 12, 2) := by decide +kernel
theorem dX12_plainOf_3 : decode cX12_plainOf 3 = .ok (.if_icmp .ne 7, 3) := by decide +kernel
theorem dX12_plainOf_6 : decode cX12_plainOf 6 = .ok (.iconst 1, 1) := by decide +kernel
theorem dX12_plainOf_7 : decode cX12_plainOf 7 = .ok (.goto 30, 3) := by decide +kernel
theorem dX12_plainOf_10 : decode cX12_plainOf 10 = .ok (.iload_n 0, 1) := by decide +kernel
theorem dX12_plainOf_11 : decode cX12_plainOf 11 = .ok (.bipush 16, 2) := by decide +kernel
theorem dX12_plainOf_13 : decode cX12_plainOf 13 = .ok (.if_icmp .ge 10, 3) := by decide +kernel
theorem dX12_plainOf_16 : decode cX12_plainOf 16 = .ok (.iload_n 0, 1) := by decide +kernel
theorem dX12_plainOf_17 : decode cX12_plainOf 17 = .ok (.bipush 10, 2) := by decide +kernel
theorem dX12_plainOf_19 : decode cX12_plainOf 19 = .ok (.isub, 1) := by decide +kernel
theorem dX12_plainOf_20 : decode cX12_plainOf 20 = .ok (.goto 17, 3) := by decide +kernel
theorem dX12_plainOf_23 : decode cX12_plainOf 23 = .ok (.iload_n 0, 1) := by decide +kernel
theorem dX12_plainOf_24 : decode cX12_plainOf 24 = .ok (.bipush 21, 2) := by decide +kernel
theorem dX12_plainOf_26 : decode cX12_plainOf 26 = .ok (.if_icmp .ge 10, 3) := by decide +kernel
theorem dX12_plainOf_29 : decode cX12_plainOf 29 = .ok (.iload_n 0, 1) := by decide +kernel
theorem dX12_plainOf_30 : decode cX12_plainOf 30 = .ok (.bipush 10, 2) := by decide +kernel
theorem dX12_plainOf_32 : decode cX12_plainOf 32 = .ok (.isub, 1) := by decide +kernel
theorem dX12_plainOf_33 : decode cX12_plainOf 33 = .ok (.goto 4, 3) := by decide +kernel
theorem dX12_plainOf_36 : decode cX12_plainOf 36 = .ok (.iload_n 0, 1) := by decide +kernel
theorem dX12_plainOf_37 : decode cX12_plainOf 37 = .ok (.ireturn, 1) := by decide +kernel
theorem cc_plainOf : Cond.code yX12_plainOf cX12_plainOf 1 (some .int) ∈ rf_tb := rf_at 2131 (by decide +kernel) (by decide +kernel)
theorem cw_plainOf : rf_wS yX12_plainOf cX12_plainOf 1 (some .int) 589 1 := ⟨⟨rf_at 2129 (by decide +kernel) (by decide +kernel), rf_at 2130 (by decide +kernel) (by decide +kernel), cc_plainOf⟩, rfl, by decide +kernel⟩
noncomputable def bq_plainOf_0 (x0 : Int32) (ρ : rf_S) : Option (Int32 × rf_S) := (if x0 = (12:Int32) then some ((1:Int32), ρ) else (if (16:Int32) ≤ x0 then (if (21:Int32) ≤ x0 then some (x0, ρ) else some ((x0 - (10:Int32)), ρ)) else some ((x0 - (10:Int32)), ρ)))
set_option maxHeartbeats 4000000 in
theorem wq_plainOf_0 (C : rf_C D p s m args meth c cX12_plainOf 1 (some .int)) {r : Int32} {x0 : Int32} {ρ ρ' : rf_S} {H : Heap} {locs : List Loc} {ls : Array Slot} (h : bq_plainOf_0 x0 ρ = some (r, ρ')) (G : rf_G D h0 s ρ H locs) (hl : lv_has ls 1 [(0, .int x0)]) : W p l e ({ frames := 0, cells := 0, slots := 0, locals := 0 }) s m args below meth c H locs 0 0 (MQ below (rf_Q D h0 (some (.int r)) ρ') args s 0 0 (rf_A h0)) (F0 m 0 ls []) := by
  unfold bq_plainOf_0 at h
  refine lv_iload_n C.1 C.2.1 dX12_plainOf_0 rfl (lv_at hl 0 rfl) ?_
  refine lv_bipush (v := (12:Int32)) C.1 C.2.1 dX12_plainOf_1 (by decide) ?_
  refine lv_icmp_ne (tgt := 10) C.1 C.2.1 dX12_plainOf_3 (by decide) (fun hc => ?_) (fun hc => ?_)
  · rw [if_neg hc] at h
    refine lv_iload_n C.1 C.2.1 dX12_plainOf_10 rfl (lv_at hl 0 rfl) ?_
    refine lv_bipush (v := (16:Int32)) C.1 C.2.1 dX12_plainOf_11 (by decide) ?_
    refine lv_icmp_ge (tgt := 23) C.1 C.2.1 dX12_plainOf_13 (by decide) (fun hc => ?_) (fun hc => ?_)
    · rw [if_pos hc] at h
      refine lv_iload_n C.1 C.2.1 dX12_plainOf_23 rfl (lv_at hl 0 rfl) ?_
      refine lv_bipush (v := (21:Int32)) C.1 C.2.1 dX12_plainOf_24 (by decide) ?_
      refine lv_icmp_ge (tgt := 36) C.1 C.2.1 dX12_plainOf_26 (by decide) (fun hc => ?_) (fun hc => ?_)
      · rw [if_pos hc] at h
        refine lv_iload_n C.1 C.2.1 dX12_plainOf_36 rfl (lv_at hl 0 rfl) ?_
        exact rf_iret C G h dX12_plainOf_37
      · rw [if_neg hc] at h
        refine lv_iload_n C.1 C.2.1 dX12_plainOf_29 rfl (lv_at hl 0 rfl) ?_
        refine lv_bipush (v := (10:Int32)) C.1 C.2.1 dX12_plainOf_30 (by decide) ?_
        refine lv_isub C.1 C.2.1 dX12_plainOf_32 ?_
        refine lv_goto (tgt := 37) C.1 C.2.1 dX12_plainOf_33 (by decide) ?_
        exact rf_iret C G h dX12_plainOf_37
    · rw [if_neg hc] at h
      refine lv_iload_n C.1 C.2.1 dX12_plainOf_16 rfl (lv_at hl 0 rfl) ?_
      refine lv_bipush (v := (10:Int32)) C.1 C.2.1 dX12_plainOf_17 (by decide) ?_
      refine lv_isub C.1 C.2.1 dX12_plainOf_19 ?_
      refine lv_goto (tgt := 37) C.1 C.2.1 dX12_plainOf_20 (by decide) ?_
      exact rf_iret C G h dX12_plainOf_37
  · rw [if_pos hc] at h
    refine lv_iconst (v := (1:Int32)) C.1 C.2.1 dX12_plainOf_6 (by decide) ?_
    refine lv_goto (tgt := 37) C.1 C.2.1 dX12_plainOf_7 (by decide) ?_
    exact rf_iret C G h dX12_plainOf_37
noncomputable def fq_plainOf (x0 : Int32) (ρ : rf_S) : Option (Int32 × rf_S) := bq_plainOf_0 x0 ρ
theorem kq_plainOf (l : Launch) (D : rf_D) (h0 : Nat) {r : Int32} {x0 : Int32} {ρ ρ' : rf_S} (h : fq_plainOf x0 ρ = some (r, ρ')) : rf_Met l D h0 yX12_plainOf cX12_plainOf 1 (some .int) 0 0 [.int x0] ρ (some (.int r)) ρ' :=
  rf_of rfl cc_plainOf (Nat.le_of_ble_eq_true rfl) (fun p e s m args below meth c ls C G hl => wq_plainOf_0 C h G hl)
abbrev cX12_load : ByteArray := prog_14_method_73_code
def yX12_load : MethodName := ⟨RX12, "load", "(III)V"⟩
theorem dX12_load_0 : decode cX12_load 0 = .ok (.aload_n 0, 1) := by decide +kernel
theorem dX12_load_1 : decode cX12_load 1 = .ok (.getfield 179, 3) := by decide +kernel
theorem dX12_load_4 : decode cX12_load 4 = .ok (.aload_n 0, 1) := by decide +kernel
theorem dX12_load_5 : decode cX12_load 5 = .ok (.getfield 570, 3) := by decide +kernel
theorem dX12_load_8 : decode cX12_load 8 = .ok (.iload_n 3, 1) := by decide +kernel
theorem dX12_load_9 : decode cX12_load 9 = .ok (.iconst 4, 1) := by decide +kernel
theorem dX12_load_10 : decode cX12_load 10 = .ok (.idiv, 1) := by decide +kernel
theorem dX12_load_11 : decode cX12_load 11 = .ok (.iadd, 1) := by decide +kernel
theorem dX12_load_12 : decode cX12_load 12 = .ok (.iaload, 1) := by decide +kernel
theorem dX12_load_13 : decode cX12_load 13 = .ok (.bipush 8, 2) := by decide +kernel
theorem dX12_load_15 : decode cX12_load 15 = .ok (.iload_n 3, 1) := by decide +kernel
theorem dX12_load_16 : decode cX12_load 16 = .ok (.iconst 4, 1) := by decide +kernel
theorem dX12_load_17 : decode cX12_load 17 = .ok (.irem, 1) := by decide +kernel
theorem dX12_load_18 : decode cX12_load 18 = .ok (.imul, 1) := by decide +kernel
theorem dX12_load_19 : decode cX12_load 19 = .ok (.iushr, 1) := by decide +kernel
theorem dX12_load_20 : decode cX12_load 20 = .ok (.istore 4, 2) := by decide +kernel
theorem dX12_load_22 : decode cX12_load 22 = .ok (.aload_n 0, 1) := by decide +kernel
theorem dX12_load_23 : decode cX12_load 23 = .ok (.iload_n 2, 1) := by decide +kernel
theorem dX12_load_24 : decode cX12_load 24 = .ok (.iload_n 1, 1) := by decide +kernel
theorem dX12_load_25 : decode cX12_load 25 = .ok (.bipush 22, 2) := by decide +kernel
theorem dX12_load_27 : decode cX12_load 27 = .ok (.if_icmp .ne 8, 3) := by decide +kernel
theorem dX12_load_30 : decode cX12_load 30 = .ok (.iload 4, 2) := by decide +kernel
theorem dX12_load_32 : decode cX12_load 32 = .ok (.goto 48, 3) := by decide +kernel
theorem dX12_load_35 : decode cX12_load 35 = .ok (.iload_n 1, 1) := by decide +kernel
theorem dX12_load_36 : decode cX12_load 36 = .ok (.bipush 23, 2) := by decide +kernel
theorem dX12_load_38 : decode cX12_load 38 = .ok (.if_icmp .ne 9, 3) := by decide +kernel
theorem dX12_load_41 : decode cX12_load 41 = .ok (.iload 4, 2) := by decide +kernel
theorem dX12_load_43 : decode cX12_load 43 = .ok (.i2s, 1) := by decide +kernel
theorem dX12_load_44 : decode cX12_load 44 = .ok (.goto 36, 3) := by decide +kernel
theorem dX12_load_47 : decode cX12_load 47 = .ok (.iload_n 1, 1) := by decide +kernel
theorem dX12_load_48 : decode cX12_load 48 = .ok (.bipush 24, 2) := by decide +kernel
theorem dX12_load_50 : decode cX12_load 50 = .ok (.if_icmp .ne 12, 3) := by decide +kernel
theorem dX12_load_53 : decode cX12_load 53 = .ok (.iload 4, 2) := by decide +kernel
theorem dX12_load_55 : decode cX12_load 55 = .ok (.ldc_w 606, 3) := by decide +kernel
theorem dX12_load_58 : decode cX12_load 58 = .ok (.iand, 1) := by decide +kernel
theorem dX12_load_59 : decode cX12_load 59 = .ok (.goto 21, 3) := by decide +kernel
theorem dX12_load_62 : decode cX12_load 62 = .ok (.iload_n 1, 1) := by decide +kernel
theorem dX12_load_63 : decode cX12_load 63 = .ok (.bipush 25, 2) := by decide +kernel
theorem dX12_load_65 : decode cX12_load 65 = .ok (.if_icmp .ne 9, 3) := by decide +kernel
theorem dX12_load_68 : decode cX12_load 68 = .ok (.iload 4, 2) := by decide +kernel
theorem dX12_load_70 : decode cX12_load 70 = .ok (.i2b, 1) := by decide +kernel
theorem dX12_load_71 : decode cX12_load 71 = .ok (.goto 9, 3) := by decide +kernel
theorem dX12_load_74 : decode cX12_load 74 = .ok (.iload 4, 2) := by decide +kernel
theorem dX12_load_76 : decode cX12_load 76 = .ok (.sipush 255, 3) := by decide +kernel
theorem dX12_load_79 : decode cX12_load 79 = .ok (.iand, 1) := by decide +kernel
theorem dX12_load_80 : decode cX12_load 80 = .ok (.invokevirtual 586, 3) := by decide +kernel
theorem dX12_load_83 : decode cX12_load 83 = .ok (.return_, 1) := by decide +kernel
theorem cc_load : Cond.code yX12_load cX12_load 5 none ∈ rf_tb := rf_at 2135 (by decide +kernel) (by decide +kernel)
theorem cw_load : rf_wV yX12_load cX12_load 5 none 592 3 := ⟨⟨rf_at 2132 (by decide +kernel) (by decide +kernel), rf_at 2134 (by decide +kernel) (by decide +kernel), rf_sel (q := (yX12_load, 122)) 113 (by decide +kernel) (by decide +kernel), cc_load⟩, rfl, by decide +kernel⟩
theorem kc_606 : Cond.constant RX12 606 (65535 : Int32) ∈ rf_tb := rf_at 2136 (by decide +kernel) (by decide +kernel)
noncomputable def bq_load_0 (x1 : Int32) (x2 : Int32) (x3 : Int32) (ρ : rf_S) : Option (rf_S) := ix ((ρ.1 0 120) + (x3 / (4:Int32))) 16384 (vl (((ρ.1 52 ((ρ.1 0 120) + (x3 / (4:Int32))).toNatClampNeg).toUInt32 >>> (((8:Int32) * (x3 - x3 / (4:Int32) * (4:Int32))).toUInt32 &&& Int32.toUInt32 31)).toInt32) (fun x4_1 => (if x1 = (22:Int32) then bd1 (fq_give x2 x4_1 ρ) (fun ρ_6 => some ρ_6) else (if x1 = (23:Int32) then bd1 (fq_give x2 (x4_1.toInt16.toInt32) ρ) (fun ρ_5 => some ρ_5) else (if x1 = (24:Int32) then bd1 (fq_give x2 (x4_1 &&& (65535:Int32)) ρ) (fun ρ_4 => some ρ_4) else (if x1 = (25:Int32) then bd1 (fq_give x2 (x4_1.toInt8.toInt32) ρ) (fun ρ_3 => some ρ_3) else bd1 (fq_give x2 (x4_1 &&& (255:Int32)) ρ) (fun ρ_2 => some ρ_2)))))))
set_option maxHeartbeats 4000000 in
theorem wq_load_0 (C : rf_C D p s m args meth c cX12_load 5 none) {x1 : Int32} {x2 : Int32} {x3 : Int32} {ρ ρ' : rf_S} {H : Heap} {locs : List Loc} {ls : Array Slot} (h : bq_load_0 x1 x2 x3 ρ = some ρ') (G : rf_G D h0 s ρ H locs) (hl : lv_has ls 5 [(0, .ref h0), (1, .int x1), (2, .int x2), (3, .int x3)]) : W p l e ({ frames := 1, cells := 0, slots := 0, locals := 22 }) s m args below meth c H locs 0 0 (MQ below (rf_Q D h0 none ρ') args s 0 0 (rf_A h0)) (F0 m 0 ls []) := by
  unfold bq_load_0 at h
  refine lv_aload_n C.1 C.2.1 dX12_load_0 rfl (lv_at hl 0 rfl) ?_
  refine gf_84 C G dX12_load_1 ?_
  refine lv_aload_n C.1 C.2.1 dX12_load_4 rfl (lv_at hl 0 rfl) ?_
  refine gf_120 C G dX12_load_5 ?_
  refine lv_iload_n C.1 C.2.1 dX12_load_8 rfl (lv_at hl 3 rfl) ?_
  refine lv_iconst (v := (4:Int32)) C.1 C.2.1 dX12_load_9 (by decide) ?_
  refine lv_idiv C.1 C.2.1 dX12_load_10 (by decide) ?_
  refine lv_iadd C.1 C.2.1 dX12_load_11 ?_
  obtain ⟨hi, h⟩ := ix_some h
  refine rf_iald C G 52 rfl (by decide) rfl rfl hi dX12_load_12 ?_
  refine lv_bipush (v := (8:Int32)) C.1 C.2.1 dX12_load_13 (by decide) ?_
  refine lv_iload_n C.1 C.2.1 dX12_load_15 rfl (lv_at hl 3 rfl) ?_
  refine lv_iconst (v := (4:Int32)) C.1 C.2.1 dX12_load_16 (by decide) ?_
  refine lv_irem C.1 C.2.1 dX12_load_17 (by decide) ?_
  refine lv_imul C.1 C.2.1 dX12_load_18 ?_
  refine lv_iushr C.1 C.2.1 dX12_load_19 rfl ?_
  refine vt_i h (fun x4_1 h => ?_)
  refine lv_istore (lv' := [(4, .int x4_1), (0, .ref h0), (1, .int x1), (2, .int x2), (3, .int x3)]) C.1 C.2.1 dX12_load_20 hl (by decide) rfl (fun ls hl => ?_)
  refine lv_aload_n C.1 C.2.1 dX12_load_22 rfl (lv_at hl 1 rfl) ?_
  refine lv_iload_n C.1 C.2.1 dX12_load_23 rfl (lv_at hl 3 rfl) ?_
  refine lv_iload_n C.1 C.2.1 dX12_load_24 rfl (lv_at hl 2 rfl) ?_
  refine lv_bipush (v := (22:Int32)) C.1 C.2.1 dX12_load_25 (by decide) ?_
  refine lv_icmp_ne (tgt := 35) C.1 C.2.1 dX12_load_27 (by decide) (fun hc => ?_) (fun hc => ?_)
  · rw [if_neg hc] at h
    refine lv_iload_n C.1 C.2.1 dX12_load_35 rfl (lv_at hl 2 rfl) ?_
    refine lv_bipush (v := (23:Int32)) C.1 C.2.1 dX12_load_36 (by decide) ?_
    refine lv_icmp_ne (tgt := 47) C.1 C.2.1 dX12_load_38 (by decide) (fun hc => ?_) (fun hc => ?_)
    · rw [if_neg hc] at h
      refine lv_iload_n C.1 C.2.1 dX12_load_47 rfl (lv_at hl 2 rfl) ?_
      refine lv_bipush (v := (24:Int32)) C.1 C.2.1 dX12_load_48 (by decide) ?_
      refine lv_icmp_ne (tgt := 62) C.1 C.2.1 dX12_load_50 (by decide) (fun hc => ?_) (fun hc => ?_)
      · rw [if_neg hc] at h
        refine lv_iload_n C.1 C.2.1 dX12_load_62 rfl (lv_at hl 2 rfl) ?_
        refine lv_bipush (v := (25:Int32)) C.1 C.2.1 dX12_load_63 (by decide) ?_
        refine lv_icmp_ne (tgt := 74) C.1 C.2.1 dX12_load_65 (by decide) (fun hc => ?_) (fun hc => ?_)
        · rw [if_neg hc] at h
          refine lv_iload C.1 C.2.1 dX12_load_74 (lv_at hl 0 rfl) ?_
          refine lv_sipush (v := (255:Int32)) C.1 C.2.1 dX12_load_76 (by decide) ?_
          refine lv_iand C.1 C.2.1 dX12_load_79 ?_
          obtain ⟨ρ_2, hq, h⟩ := bd1_some h
          refine rf_callV (rest := []) C G cw_give [.int x2, .int (x4_1 &&& (255:Int32))] _ (kq_give l D h0 hq) (Nat.le_of_ble_eq_true rfl) (Nat.le_of_ble_eq_true rfl) rfl rfl hl.1 (Nat.le_of_ble_eq_true rfl) (Nat.zero_le _) (Nat.zero_le _) dX12_load_80 (fun H locs G => ?_)
          refine W.eq (g2 := F0 m 83 ls []) rfl ?_
          exact rf_vret C G h dX12_load_83
        · rw [if_pos hc] at h
          refine lv_iload C.1 C.2.1 dX12_load_68 (lv_at hl 0 rfl) ?_
          refine lv_i2b C.1 C.2.1 dX12_load_70 rfl ?_
          refine lv_goto (tgt := 80) C.1 C.2.1 dX12_load_71 (by decide) ?_
          obtain ⟨ρ_3, hq, h⟩ := bd1_some h
          refine rf_callV (rest := []) C G cw_give [.int x2, .int x4_1.toInt8.toInt32] _ (kq_give l D h0 hq) (Nat.le_of_ble_eq_true rfl) (Nat.le_of_ble_eq_true rfl) rfl rfl hl.1 (Nat.le_of_ble_eq_true rfl) (Nat.zero_le _) (Nat.zero_le _) dX12_load_80 (fun H locs G => ?_)
          refine W.eq (g2 := F0 m 83 ls []) rfl ?_
          exact rf_vret C G h dX12_load_83
      · rw [if_pos hc] at h
        refine lv_iload C.1 C.2.1 dX12_load_53 (lv_at hl 0 rfl) ?_
        refine lv_ldcw (v := (65535:Int32)) C.1 C.2.1 C.2.2.2.1 (C.2.2.2.2.1 _ kc_606) dX12_load_55 ?_
        refine lv_iand C.1 C.2.1 dX12_load_58 ?_
        refine lv_goto (tgt := 80) C.1 C.2.1 dX12_load_59 (by decide) ?_
        obtain ⟨ρ_4, hq, h⟩ := bd1_some h
        refine rf_callV (rest := []) C G cw_give [.int x2, .int (x4_1 &&& (65535:Int32))] _ (kq_give l D h0 hq) (Nat.le_of_ble_eq_true rfl) (Nat.le_of_ble_eq_true rfl) rfl rfl hl.1 (Nat.le_of_ble_eq_true rfl) (Nat.zero_le _) (Nat.zero_le _) dX12_load_80 (fun H locs G => ?_)
        refine W.eq (g2 := F0 m 83 ls []) rfl ?_
        exact rf_vret C G h dX12_load_83
    · rw [if_pos hc] at h
      refine lv_iload C.1 C.2.1 dX12_load_41 (lv_at hl 0 rfl) ?_
      refine lv_i2s C.1 C.2.1 dX12_load_43 rfl ?_
      refine lv_goto (tgt := 80) C.1 C.2.1 dX12_load_44 (by decide) ?_
      obtain ⟨ρ_5, hq, h⟩ := bd1_some h
      refine rf_callV (rest := []) C G cw_give [.int x2, .int x4_1.toInt16.toInt32] _ (kq_give l D h0 hq) (Nat.le_of_ble_eq_true rfl) (Nat.le_of_ble_eq_true rfl) rfl rfl hl.1 (Nat.le_of_ble_eq_true rfl) (Nat.zero_le _) (Nat.zero_le _) dX12_load_80 (fun H locs G => ?_)
      refine W.eq (g2 := F0 m 83 ls []) rfl ?_
      exact rf_vret C G h dX12_load_83
  · rw [if_pos hc] at h
    refine lv_iload C.1 C.2.1 dX12_load_30 (lv_at hl 0 rfl) ?_
    refine lv_goto (tgt := 80) C.1 C.2.1 dX12_load_32 (by decide) ?_
    obtain ⟨ρ_6, hq, h⟩ := bd1_some h
    refine rf_callV (rest := []) C G cw_give [.int x2, .int x4_1] _ (kq_give l D h0 hq) (Nat.le_of_ble_eq_true rfl) (Nat.le_of_ble_eq_true rfl) rfl rfl hl.1 (Nat.le_of_ble_eq_true rfl) (Nat.zero_le _) (Nat.zero_le _) dX12_load_80 (fun H locs G => ?_)
    refine W.eq (g2 := F0 m 83 ls []) rfl ?_
    exact rf_vret C G h dX12_load_83
noncomputable def fq_load (x1 : Int32) (x2 : Int32) (x3 : Int32) (ρ : rf_S) : Option (rf_S) := bq_load_0 x1 x2 x3 ρ
theorem kq_load (l : Launch) (D : rf_D) (h0 : Nat) {x1 : Int32} {x2 : Int32} {x3 : Int32} {ρ ρ' : rf_S} (h : fq_load x1 x2 x3 ρ = some ρ') : rf_Met l D h0 yX12_load cX12_load 5 none 1 22 [.ref h0, .int x1, .int x2, .int x3] ρ none ρ' :=
  rf_of rfl cc_load (Nat.le_of_ble_eq_true rfl) (fun p e s m args below meth c ls C G hl => wq_load_0 C h G hl)
abbrev cX12_store : ByteArray := prog_14_method_74_code
def yX12_store : MethodName := ⟨RX12, "store", "(III)V"⟩
theorem dX12_store_0 : decode cX12_store 0 = .ok (.bipush 8, 2) := by decide +kernel
theorem dX12_store_2 : decode cX12_store 2 = .ok (.iload_n 3, 1) := by decide +kernel
theorem dX12_store_3 : decode cX12_store 3 = .ok (.iconst 4, 1) := by decide +kernel
theorem dX12_store_4 : decode cX12_store 4 = .ok (.irem, 1) := by decide +kernel
theorem dX12_store_5 : decode cX12_store 5 = .ok (.imul, 1) := by decide +kernel
theorem dX12_store_6 : decode cX12_store 6 = .ok (.istore 4, 2) := by decide +kernel
theorem dX12_store_8 : decode cX12_store 8 = .ok (.iload_n 1, 1) := by decide +kernel
theorem dX12_store_9 : decode cX12_store 9 = .ok (.iconst 4, 1) := by decide +kernel
theorem dX12_store_10 : decode cX12_store 10 = .ok (.if_icmp .ne 7, 3) := by decide +kernel
theorem dX12_store_13 : decode cX12_store 13 = .ok (.iconst (-1), 1) := by decide +kernel
theorem dX12_store_14 : decode cX12_store 14 = .ok (.goto 23, 3) := by decide +kernel
theorem dX12_store_17 : decode cX12_store 17 = .ok (.iload_n 1, 1) := by decide +kernel
theorem dX12_store_18 : decode cX12_store 18 = .ok (.iconst 2, 1) := by decide +kernel
theorem dX12_store_19 : decode cX12_store 19 = .ok (.if_icmp .ne 12, 3) := by decide +kernel
theorem dX12_store_22 : decode cX12_store 22 = .ok (.ldc_w 606, 3) := by decide +kernel
theorem dX12_store_25 : decode cX12_store 25 = .ok (.iload 4, 2) := by decide +kernel
theorem dX12_store_27 : decode cX12_store 27 = .ok (.ishl, 1) := by decide +kernel
theorem dX12_store_28 : decode cX12_store 28 = .ok (.goto 9, 3) := by decide +kernel
theorem dX12_store_31 : decode cX12_store 31 = .ok (.sipush 255, 3) := by decide +kernel
theorem dX12_store_34 : decode cX12_store 34 = .ok (.iload 4, 2) := by decide +kernel
theorem dX12_store_36 : decode cX12_store 36 = .ok (.ishl, 1) := by decide +kernel
theorem dX12_store_37 : decode cX12_store 37 = .ok (.istore 5, 2) := by decide +kernel
theorem dX12_store_39 : decode cX12_store 39 = .ok (.aload_n 0, 1) := by decide +kernel
theorem dX12_store_40 : decode cX12_store 40 = .ok (.getfield 570, 3) := by decide +kernel
theorem dX12_store_43 : decode cX12_store 43 = .ok (.iload_n 3, 1) := by decide +kernel
theorem dX12_store_44 : decode cX12_store 44 = .ok (.iconst 4, 1) := by decide +kernel
theorem dX12_store_45 : decode cX12_store 45 = .ok (.idiv, 1) := by decide +kernel
theorem dX12_store_46 : decode cX12_store 46 = .ok (.iadd, 1) := by decide +kernel
theorem dX12_store_47 : decode cX12_store 47 = .ok (.istore 6, 2) := by decide +kernel
theorem dX12_store_49 : decode cX12_store 49 = .ok (.aload_n 0, 1) := by decide +kernel
theorem dX12_store_50 : decode cX12_store 50 = .ok (.getfield 179, 3) := by decide +kernel
theorem dX12_store_53 : decode cX12_store 53 = .ok (.iload 6, 2) := by decide +kernel
theorem dX12_store_55 : decode cX12_store 55 = .ok (.aload_n 0, 1) := by decide +kernel
theorem dX12_store_56 : decode cX12_store 56 = .ok (.getfield 179, 3) := by decide +kernel
theorem dX12_store_59 : decode cX12_store 59 = .ok (.iload 6, 2) := by decide +kernel
theorem dX12_store_61 : decode cX12_store 61 = .ok (.iaload, 1) := by decide +kernel
theorem dX12_store_62 : decode cX12_store 62 = .ok (.iload 5, 2) := by decide +kernel
theorem dX12_store_64 : decode cX12_store 64 = .ok (.iconst (-1), 1) := by decide +kernel
theorem dX12_store_65 : decode cX12_store 65 = .ok (.ixor, 1) := by decide +kernel
theorem dX12_store_66 : decode cX12_store 66 = .ok (.iand, 1) := by decide +kernel
theorem dX12_store_67 : decode cX12_store 67 = .ok (.aload_n 0, 1) := by decide +kernel
theorem dX12_store_68 : decode cX12_store 68 = .ok (.iload_n 2, 1) := by decide +kernel
theorem dX12_store_69 : decode cX12_store 69 = .ok (.invokevirtual 579, 3) := by decide +kernel
theorem dX12_store_72 : decode cX12_store 72 = .ok (.iload 4, 2) := by decide +kernel
theorem dX12_store_74 : decode cX12_store 74 = .ok (.ishl, 1) := by decide +kernel
theorem dX12_store_75 : decode cX12_store 75 = .ok (.iload 5, 2) := by decide +kernel
theorem dX12_store_77 : decode cX12_store 77 = .ok (.iand, 1) := by decide +kernel
theorem dX12_store_78 : decode cX12_store 78 = .ok (.ior, 1) := by decide +kernel
theorem dX12_store_79 : decode cX12_store 79 = .ok (.iastore, 1) := by decide +kernel
theorem dX12_store_80 : decode cX12_store 80 = .ok (.return_, 1) := by decide +kernel
theorem cc_store : Cond.code yX12_store cX12_store 7 none ∈ rf_tb := rf_at 2140 (by decide +kernel) (by decide +kernel)
theorem cw_store : rf_wV yX12_store cX12_store 7 none 596 3 := ⟨⟨rf_at 2137 (by decide +kernel) (by decide +kernel), rf_at 2139 (by decide +kernel) (by decide +kernel), rf_sel (q := (yX12_store, 122)) 114 (by decide +kernel) (by decide +kernel), cc_store⟩, rfl, by decide +kernel⟩
noncomputable def bq_store_37 (x2 : Int32) (x3 : Int32) (x4 : Int32) (v0 : Int32) (ρ : rf_S) : Option (rf_S) := vl ((ρ.1 0 120) + (x3 / (4:Int32))) (fun x6_2 => ix x6_2 16384 (bd2 (fq_reg x2 ρ) (fun r_4 ρ_3 => ix x6_2 16384 (vl (rf_w ρ_3 52 x6_2.toNatClampNeg (((ρ.1 52 x6_2.toNatClampNeg) &&& (v0 ^^^ (-1:Int32))) ||| ((r_4 <<< (x4 &&& 31)) &&& v0))) (fun ρ_5 => some ρ_5)))))
set_option maxHeartbeats 4000000 in
theorem wq_store_37 (C : rf_C D p s m args meth c cX12_store 7 none) {x2 : Int32} {x3 : Int32} {x4 : Int32} {v0 : Int32} {ρ ρ' : rf_S} {H : Heap} {locs : List Loc} {ls : Array Slot} (h : bq_store_37 x2 x3 x4 v0 ρ = some ρ') (G : rf_G D h0 s ρ H locs) (hl : lv_has ls 7 [(0, .ref h0), (2, .int x2), (3, .int x3), (4, .int x4)]) : W p l e ({ frames := 1, cells := 0, slots := 0, locals := 21 }) s m args below meth c H locs 0 0 (MQ below (rf_Q D h0 none ρ') args s 0 0 (rf_A h0)) (F0 m 37 ls [.int v0]) := by
  unfold bq_store_37 at h
  refine lv_istore (lv' := [(5, .int v0), (0, .ref h0), (2, .int x2), (3, .int x3), (4, .int x4)]) C.1 C.2.1 dX12_store_37 hl (by decide) rfl (fun ls hl => ?_)
  refine lv_aload_n C.1 C.2.1 dX12_store_39 rfl (lv_at hl 1 rfl) ?_
  refine gf_120 C G dX12_store_40 ?_
  refine lv_iload_n C.1 C.2.1 dX12_store_43 rfl (lv_at hl 3 rfl) ?_
  refine lv_iconst (v := (4:Int32)) C.1 C.2.1 dX12_store_44 (by decide) ?_
  refine lv_idiv C.1 C.2.1 dX12_store_45 (by decide) ?_
  refine lv_iadd C.1 C.2.1 dX12_store_46 ?_
  refine vt_i h (fun x6_2 h => ?_)
  refine lv_istore (lv' := [(6, .int x6_2), (5, .int v0), (0, .ref h0), (2, .int x2), (3, .int x3), (4, .int x4)]) C.1 C.2.1 dX12_store_47 hl (by decide) rfl (fun ls hl => ?_)
  refine lv_aload_n C.1 C.2.1 dX12_store_49 rfl (lv_at hl 2 rfl) ?_
  refine gf_84 C G dX12_store_50 ?_
  refine lv_iload C.1 C.2.1 dX12_store_53 (lv_at hl 0 rfl) ?_
  refine lv_aload_n C.1 C.2.1 dX12_store_55 rfl (lv_at hl 2 rfl) ?_
  refine gf_84 C G dX12_store_56 ?_
  refine lv_iload C.1 C.2.1 dX12_store_59 (lv_at hl 0 rfl) ?_
  obtain ⟨hi, h⟩ := ix_some h
  refine rf_iald C G 52 rfl (by decide) rfl rfl hi dX12_store_61 ?_
  refine lv_iload C.1 C.2.1 dX12_store_62 (lv_at hl 1 rfl) ?_
  refine lv_iconst (v := (-1:Int32)) C.1 C.2.1 dX12_store_64 (by decide) ?_
  refine lv_ixor C.1 C.2.1 dX12_store_65 ?_
  refine lv_iand C.1 C.2.1 dX12_store_66 ?_
  refine lv_aload_n C.1 C.2.1 dX12_store_67 rfl (lv_at hl 2 rfl) ?_
  refine lv_iload_n C.1 C.2.1 dX12_store_68 rfl (lv_at hl 3 rfl) ?_
  obtain ⟨r_4, ρ_3, hq, h⟩ := bd2_some h
  refine rf_callV (rest := [.int ((ρ.1 52 x6_2.toNatClampNeg) &&& (v0 ^^^ (-1:Int32))), .int x6_2, .ref (h0 + 52)]) C G cw_reg [.int x2] _ (kq_reg l D h0 hq) (Nat.le_of_ble_eq_true rfl) (Nat.le_of_ble_eq_true rfl) rfl rfl hl.1 (Nat.le_of_ble_eq_true rfl) (Nat.zero_le _) (Nat.zero_le _) dX12_store_69 (fun H locs G => ?_)
  refine W.eq (g2 := F0 m 72 ls [.int r_4, .int ((ρ.1 52 x6_2.toNatClampNeg) &&& (v0 ^^^ (-1:Int32))), .int x6_2, .ref (h0 + 52)]) rfl ?_
  refine lv_iload C.1 C.2.1 dX12_store_72 (lv_at hl 5 rfl) ?_
  refine lv_ishl C.1 C.2.1 dX12_store_74 ?_
  refine lv_iload C.1 C.2.1 dX12_store_75 (lv_at hl 1 rfl) ?_
  refine lv_iand C.1 C.2.1 dX12_store_77 ?_
  refine lv_ior C.1 C.2.1 dX12_store_78 ?_
  obtain ⟨hi, h⟩ := ix_some h
  refine rf_iast C G 52 rfl (by decide) rfl rfl hi dX12_store_79 (fun H locs G => ?_)
  refine rf_nm G h (fun ρ_5 G h => ?_)
  exact rf_vret C G h dX12_store_80
noncomputable def bq_store_0 (x1 : Int32) (x2 : Int32) (x3 : Int32) (ρ : rf_S) : Option (rf_S) := vl ((8:Int32) * (x3 - x3 / (4:Int32) * (4:Int32))) (fun x4_1 => (if x1 = (4:Int32) then bq_store_37 x2 x3 x4_1 (-1:Int32) ρ else (if x1 = (2:Int32) then bq_store_37 x2 x3 x4_1 ((65535:Int32) <<< (x4_1 &&& 31)) ρ else bq_store_37 x2 x3 x4_1 ((255:Int32) <<< (x4_1 &&& 31)) ρ)))
set_option maxHeartbeats 4000000 in
theorem wq_store_0 (C : rf_C D p s m args meth c cX12_store 7 none) {x1 : Int32} {x2 : Int32} {x3 : Int32} {ρ ρ' : rf_S} {H : Heap} {locs : List Loc} {ls : Array Slot} (h : bq_store_0 x1 x2 x3 ρ = some ρ') (G : rf_G D h0 s ρ H locs) (hl : lv_has ls 7 [(0, .ref h0), (1, .int x1), (2, .int x2), (3, .int x3)]) : W p l e ({ frames := 1, cells := 0, slots := 0, locals := 21 }) s m args below meth c H locs 0 0 (MQ below (rf_Q D h0 none ρ') args s 0 0 (rf_A h0)) (F0 m 0 ls []) := by
  unfold bq_store_0 at h
  refine lv_bipush (v := (8:Int32)) C.1 C.2.1 dX12_store_0 (by decide) ?_
  refine lv_iload_n C.1 C.2.1 dX12_store_2 rfl (lv_at hl 3 rfl) ?_
  refine lv_iconst (v := (4:Int32)) C.1 C.2.1 dX12_store_3 (by decide) ?_
  refine lv_irem C.1 C.2.1 dX12_store_4 (by decide) ?_
  refine lv_imul C.1 C.2.1 dX12_store_5 ?_
  refine vt_i h (fun x4_1 h => ?_)
  refine lv_istore (lv' := [(4, .int x4_1), (0, .ref h0), (1, .int x1), (2, .int x2), (3, .int x3)]) C.1 C.2.1 dX12_store_6 hl (by decide) rfl (fun ls hl => ?_)
  refine lv_iload_n C.1 C.2.1 dX12_store_8 rfl (lv_at hl 2 rfl) ?_
  refine lv_iconst (v := (4:Int32)) C.1 C.2.1 dX12_store_9 (by decide) ?_
  refine lv_icmp_ne (tgt := 17) C.1 C.2.1 dX12_store_10 (by decide) (fun hc => ?_) (fun hc => ?_)
  · rw [if_neg hc] at h
    refine lv_iload_n C.1 C.2.1 dX12_store_17 rfl (lv_at hl 2 rfl) ?_
    refine lv_iconst (v := (2:Int32)) C.1 C.2.1 dX12_store_18 (by decide) ?_
    refine lv_icmp_ne (tgt := 31) C.1 C.2.1 dX12_store_19 (by decide) (fun hc => ?_) (fun hc => ?_)
    · rw [if_neg hc] at h
      refine lv_sipush (v := (255:Int32)) C.1 C.2.1 dX12_store_31 (by decide) ?_
      refine lv_iload C.1 C.2.1 dX12_store_34 (lv_at hl 0 rfl) ?_
      refine lv_ishl C.1 C.2.1 dX12_store_36 ?_
      exact wq_store_37 C h G (lv_sub hl [1, 3, 4, 0] rfl)
    · rw [if_pos hc] at h
      refine lv_ldcw (v := (65535:Int32)) C.1 C.2.1 C.2.2.2.1 (C.2.2.2.2.1 _ kc_606) dX12_store_22 ?_
      refine lv_iload C.1 C.2.1 dX12_store_25 (lv_at hl 0 rfl) ?_
      refine lv_ishl C.1 C.2.1 dX12_store_27 ?_
      refine lv_goto (tgt := 37) C.1 C.2.1 dX12_store_28 (by decide) ?_
      exact wq_store_37 C h G (lv_sub hl [1, 3, 4, 0] rfl)
  · rw [if_pos hc] at h
    refine lv_iconst (v := (-1:Int32)) C.1 C.2.1 dX12_store_13 (by decide) ?_
    refine lv_goto (tgt := 37) C.1 C.2.1 dX12_store_14 (by decide) ?_
    exact wq_store_37 C h G (lv_sub hl [1, 3, 4, 0] rfl)
noncomputable def fq_store (x1 : Int32) (x2 : Int32) (x3 : Int32) (ρ : rf_S) : Option (rf_S) := bq_store_0 x1 x2 x3 ρ
theorem kq_store (l : Launch) (D : rf_D) (h0 : Nat) {x1 : Int32} {x2 : Int32} {x3 : Int32} {ρ ρ' : rf_S} (h : fq_store x1 x2 x3 ρ = some ρ') : rf_Met l D h0 yX12_store cX12_store 7 none 1 21 [.ref h0, .int x1, .int x2, .int x3] ρ none ρ' :=
  rf_of rfl cc_store (Nat.le_of_ble_eq_true rfl) (fun p e s m args below meth c ls C G hl => wq_store_0 C h G hl)
abbrev cX12_branches : ByteArray := prog_14_method_72_code
def yX12_branches : MethodName := ⟨RX12, "branches", "(III)Z"⟩
theorem dX12_branches_0 : decode cX12_branches 0 = .ok (.iload_n 0, 1) := by decide +kernel
theorem dX12_branches_1 : decode cX12_branches 1 = .ok (.bipush 33, 2) := by decide +kernel
theorem dX12_branches_3 : decode cX12_branches 3 = .ok (.if_icmp .le 9, 3) := by decide +kernel
theorem dX12_branches_6 : decode cX12_branches 6 = .ok (.ldc_w 566, 3) := by decide +kernel
theorem dX12_branches_9 : decode cX12_branches 9 = .ok (.goto 4, 3) := by decide +kernel
theorem dX12_branches_12 : decode cX12_branches 12 = .ok (.iconst 0, 1) := by decide +kernel
theorem dX12_branches_13 : decode cX12_branches 13 = .ok (.istore_n 3, 1) := by decide +kernel
theorem dX12_branches_14 : decode cX12_branches 14 = .ok (.iload_n 1, 1) := by decide +kernel
theorem dX12_branches_15 : decode cX12_branches 15 = .ok (.iload_n 3, 1) := by decide +kernel
theorem dX12_branches_16 : decode cX12_branches 16 = .ok (.iadd, 1) := by decide +kernel
theorem dX12_branches_17 : decode cX12_branches 17 = .ok (.iload_n 2, 1) := by decide +kernel
theorem dX12_branches_18 : decode cX12_branches 18 = .ok (.iload_n 3, 1) := by decide +kernel
theorem dX12_branches_19 : decode cX12_branches 19 = .ok (.iadd, 1) := by decide +kernel
theorem dX12_branches_20 : decode cX12_branches 20 = .ok (.if_icmp .ge 7, 3) := by decide +kernel
theorem dX12_branches_23 : decode cX12_branches 23 = .ok (.iconst 1, 1) := by decide +kernel
theorem dX12_branches_24 : decode cX12_branches 24 = .ok (.goto 4, 3) := by decide +kernel
theorem dX12_branches_27 : decode cX12_branches 27 = .ok (.iconst 0, 1) := by decide +kernel
theorem dX12_branches_28 : decode cX12_branches 28 = .ok (.istore 4, 2) := by decide +kernel
theorem dX12_branches_30 : decode cX12_branches 30 = .ok (.iload_n 0, 1) := by decide +kernel
theorem dX12_branches_31 : decode cX12_branches 31 = .ok (.bipush 30, 2) := by decide +kernel
theorem dX12_branches_33 : decode cX12_branches 33 = .ok (.if_icmp .ne 16, 3) := by decide +kernel
theorem dX12_branches_36 : decode cX12_branches 36 = .ok (.iload_n 1, 1) := by decide +kernel
theorem dX12_branches_37 : decode cX12_branches 37 = .ok (.iload_n 2, 1) := by decide +kernel
theorem dX12_branches_38 : decode cX12_branches 38 = .ok (.if_icmp .ne 7, 3) := by decide +kernel
theorem dX12_branches_41 : decode cX12_branches 41 = .ok (.iconst 1, 1) := by decide +kernel
theorem dX12_branches_42 : decode cX12_branches 42 = .ok (.goto 47, 3) := by decide +kernel
theorem dX12_branches_45 : decode cX12_branches 45 = .ok (.iconst 0, 1) := by decide +kernel
theorem dX12_branches_46 : decode cX12_branches 46 = .ok (.goto 43, 3) := by decide +kernel
theorem dX12_branches_49 : decode cX12_branches 49 = .ok (.iload_n 0, 1) := by decide +kernel
theorem dX12_branches_50 : decode cX12_branches 50 = .ok (.bipush 31, 2) := by decide +kernel
theorem dX12_branches_52 : decode cX12_branches 52 = .ok (.if_icmp .ne 16, 3) := by decide +kernel
theorem dX12_branches_55 : decode cX12_branches 55 = .ok (.iload_n 1, 1) := by decide +kernel
theorem dX12_branches_56 : decode cX12_branches 56 = .ok (.iload_n 2, 1) := by decide +kernel
theorem dX12_branches_57 : decode cX12_branches 57 = .ok (.if_icmp .eq 7, 3) := by decide +kernel
theorem dX12_branches_60 : decode cX12_branches 60 = .ok (.iconst 1, 1) := by decide +kernel
theorem dX12_branches_61 : decode cX12_branches 61 = .ok (.goto 28, 3) := by decide +kernel
theorem dX12_branches_64 : decode cX12_branches 64 = .ok (.iconst 0, 1) := by decide +kernel
theorem dX12_branches_65 : decode cX12_branches 65 = .ok (.goto 24, 3) := by decide +kernel
theorem dX12_branches_68 : decode cX12_branches 68 = .ok (.iload_n 0, 1) := by decide +kernel
theorem dX12_branches_69 : decode cX12_branches 69 = .ok (.iconst 2, 1) := by decide +kernel
theorem dX12_branches_70 : decode cX12_branches 70 = .ok (.irem, 1) := by decide +kernel
theorem dX12_branches_71 : decode cX12_branches 71 = .ok (.ifCond .ne 8, 3) := by decide +kernel
theorem dX12_branches_74 : decode cX12_branches 74 = .ok (.iload 4, 2) := by decide +kernel
theorem dX12_branches_76 : decode cX12_branches 76 = .ok (.goto 13, 3) := by decide +kernel
theorem dX12_branches_79 : decode cX12_branches 79 = .ok (.iload 4, 2) := by decide +kernel
theorem dX12_branches_81 : decode cX12_branches 81 = .ok (.ifCond .ne 7, 3) := by decide +kernel
theorem dX12_branches_84 : decode cX12_branches 84 = .ok (.iconst 1, 1) := by decide +kernel
theorem dX12_branches_85 : decode cX12_branches 85 = .ok (.goto 4, 3) := by decide +kernel
theorem dX12_branches_88 : decode cX12_branches 88 = .ok (.iconst 0, 1) := by decide +kernel
theorem dX12_branches_89 : decode cX12_branches 89 = .ok (.ireturn, 1) := by decide +kernel
theorem cc_branches : Cond.code yX12_branches cX12_branches 5 (some .boolean) ∈ rf_tb := rf_at 2143 (by decide +kernel) (by decide +kernel)
theorem cw_branches : rf_wS yX12_branches cX12_branches 5 (some .boolean) 599 3 := ⟨⟨rf_at 2141 (by decide +kernel) (by decide +kernel), rf_at 2142 (by decide +kernel) (by decide +kernel), cc_branches⟩, rfl, by decide +kernel⟩
noncomputable def bq_branches_28 (x0 : Int32) (x1 : Int32) (x2 : Int32) (v0 : Int32) (ρ : rf_S) : Option (Int32 × rf_S) := (if x0 = (30:Int32) then (if x1 = x2 then some ((1:Int32), ρ) else some ((0:Int32), ρ)) else (if x0 = (31:Int32) then (if x1 = x2 then some ((0:Int32), ρ) else some ((1:Int32), ρ)) else (if (x0 - x0 / (2:Int32) * (2:Int32)) = 0 then nb v0 (some (v0, ρ)) else (if v0 = 0 then some ((1:Int32), ρ) else some ((0:Int32), ρ)))))
set_option maxHeartbeats 4000000 in
theorem wq_branches_28 (C : rf_C D p s m args meth c cX12_branches 5 (some .boolean)) {r : Int32} {x0 : Int32} {x1 : Int32} {x2 : Int32} {v0 : Int32} {ρ ρ' : rf_S} {H : Heap} {locs : List Loc} {ls : Array Slot} (h : bq_branches_28 x0 x1 x2 v0 ρ = some (r, ρ')) (G : rf_G D h0 s ρ H locs) (hl : lv_has ls 5 [(0, .int x0), (1, .int x1), (2, .int x2)]) : W p l e ({ frames := 0, cells := 0, slots := 0, locals := 0 }) s m args below meth c H locs 0 0 (MQ below (rf_Q D h0 (some (.int r)) ρ') args s 0 0 (rf_A h0)) (F0 m 28 ls [.int v0]) := by
  unfold bq_branches_28 at h
  refine lv_istore (lv' := [(4, .int v0), (0, .int x0), (1, .int x1), (2, .int x2)]) C.1 C.2.1 dX12_branches_28 hl (by decide) rfl (fun ls hl => ?_)
  refine lv_iload_n C.1 C.2.1 dX12_branches_30 rfl (lv_at hl 1 rfl) ?_
  refine lv_bipush (v := (30:Int32)) C.1 C.2.1 dX12_branches_31 (by decide) ?_
  refine lv_icmp_ne (tgt := 49) C.1 C.2.1 dX12_branches_33 (by decide) (fun hc => ?_) (fun hc => ?_)
  · rw [if_neg hc] at h
    refine lv_iload_n C.1 C.2.1 dX12_branches_49 rfl (lv_at hl 1 rfl) ?_
    refine lv_bipush (v := (31:Int32)) C.1 C.2.1 dX12_branches_50 (by decide) ?_
    refine lv_icmp_ne (tgt := 68) C.1 C.2.1 dX12_branches_52 (by decide) (fun hc => ?_) (fun hc => ?_)
    · rw [if_neg hc] at h
      refine lv_iload_n C.1 C.2.1 dX12_branches_68 rfl (lv_at hl 1 rfl) ?_
      refine lv_iconst (v := (2:Int32)) C.1 C.2.1 dX12_branches_69 (by decide) ?_
      refine lv_irem C.1 C.2.1 dX12_branches_70 (by decide) ?_
      refine lv_if_ne (tgt := 79) C.1 C.2.1 dX12_branches_71 (by decide) (fun hc => ?_) (fun hc => ?_)
      · rw [if_neg hc] at h
        refine lv_iload C.1 C.2.1 dX12_branches_79 (lv_at hl 0 rfl) ?_
        refine lv_if_ne (tgt := 88) C.1 C.2.1 dX12_branches_81 (by decide) (fun hc => ?_) (fun hc => ?_)
        · rw [if_neg hc] at h
          refine lv_iconst (v := (0:Int32)) C.1 C.2.1 dX12_branches_88 (by decide) ?_
          exact rf_zret C G h rfl dX12_branches_89
        · rw [if_pos hc] at h
          refine lv_iconst (v := (1:Int32)) C.1 C.2.1 dX12_branches_84 (by decide) ?_
          refine lv_goto (tgt := 89) C.1 C.2.1 dX12_branches_85 (by decide) ?_
          exact rf_zret C G h rfl dX12_branches_89
      · rw [if_pos hc] at h
        refine lv_iload C.1 C.2.1 dX12_branches_74 (lv_at hl 0 rfl) ?_
        refine lv_goto (tgt := 89) C.1 C.2.1 dX12_branches_76 (by decide) ?_
        obtain ⟨hnb, h⟩ := nb_some h
        exact rf_zret C G h hnb dX12_branches_89
    · rw [if_pos hc] at h
      refine lv_iload_n C.1 C.2.1 dX12_branches_55 rfl (lv_at hl 2 rfl) ?_
      refine lv_iload_n C.1 C.2.1 dX12_branches_56 rfl (lv_at hl 3 rfl) ?_
      refine lv_icmp_eq (tgt := 64) C.1 C.2.1 dX12_branches_57 (by decide) (fun hc => ?_) (fun hc => ?_)
      · rw [if_pos hc] at h
        refine lv_iconst (v := (0:Int32)) C.1 C.2.1 dX12_branches_64 (by decide) ?_
        refine lv_goto (tgt := 89) C.1 C.2.1 dX12_branches_65 (by decide) ?_
        exact rf_zret C G h rfl dX12_branches_89
      · rw [if_neg hc] at h
        refine lv_iconst (v := (1:Int32)) C.1 C.2.1 dX12_branches_60 (by decide) ?_
        refine lv_goto (tgt := 89) C.1 C.2.1 dX12_branches_61 (by decide) ?_
        exact rf_zret C G h rfl dX12_branches_89
  · rw [if_pos hc] at h
    refine lv_iload_n C.1 C.2.1 dX12_branches_36 rfl (lv_at hl 2 rfl) ?_
    refine lv_iload_n C.1 C.2.1 dX12_branches_37 rfl (lv_at hl 3 rfl) ?_
    refine lv_icmp_ne (tgt := 45) C.1 C.2.1 dX12_branches_38 (by decide) (fun hc => ?_) (fun hc => ?_)
    · rw [if_neg hc] at h
      refine lv_iconst (v := (0:Int32)) C.1 C.2.1 dX12_branches_45 (by decide) ?_
      refine lv_goto (tgt := 89) C.1 C.2.1 dX12_branches_46 (by decide) ?_
      exact rf_zret C G h rfl dX12_branches_89
    · rw [if_pos hc] at h
      refine lv_iconst (v := (1:Int32)) C.1 C.2.1 dX12_branches_41 (by decide) ?_
      refine lv_goto (tgt := 89) C.1 C.2.1 dX12_branches_42 (by decide) ?_
      exact rf_zret C G h rfl dX12_branches_89
noncomputable def bq_branches_13 (x0 : Int32) (x1 : Int32) (x2 : Int32) (v0 : Int32) (ρ : rf_S) : Option (Int32 × rf_S) := (if (x2 + v0) ≤ (x1 + v0) then bq_branches_28 x0 x1 x2 (0:Int32) ρ else bq_branches_28 x0 x1 x2 (1:Int32) ρ)
set_option maxHeartbeats 4000000 in
theorem wq_branches_13 (C : rf_C D p s m args meth c cX12_branches 5 (some .boolean)) {r : Int32} {x0 : Int32} {x1 : Int32} {x2 : Int32} {v0 : Int32} {ρ ρ' : rf_S} {H : Heap} {locs : List Loc} {ls : Array Slot} (h : bq_branches_13 x0 x1 x2 v0 ρ = some (r, ρ')) (G : rf_G D h0 s ρ H locs) (hl : lv_has ls 5 [(0, .int x0), (1, .int x1), (2, .int x2)]) : W p l e ({ frames := 0, cells := 0, slots := 0, locals := 0 }) s m args below meth c H locs 0 0 (MQ below (rf_Q D h0 (some (.int r)) ρ') args s 0 0 (rf_A h0)) (F0 m 13 ls [.int v0]) := by
  unfold bq_branches_13 at h
  refine lv_istore_n (lv' := [(3, .int v0), (0, .int x0), (1, .int x1), (2, .int x2)]) C.1 C.2.1 dX12_branches_13 rfl hl (by decide) rfl (fun ls hl => ?_)
  refine lv_iload_n C.1 C.2.1 dX12_branches_14 rfl (lv_at hl 2 rfl) ?_
  refine lv_iload_n C.1 C.2.1 dX12_branches_15 rfl (lv_at hl 0 rfl) ?_
  refine lv_iadd C.1 C.2.1 dX12_branches_16 ?_
  refine lv_iload_n C.1 C.2.1 dX12_branches_17 rfl (lv_at hl 3 rfl) ?_
  refine lv_iload_n C.1 C.2.1 dX12_branches_18 rfl (lv_at hl 0 rfl) ?_
  refine lv_iadd C.1 C.2.1 dX12_branches_19 ?_
  refine lv_icmp_ge (tgt := 27) C.1 C.2.1 dX12_branches_20 (by decide) (fun hc => ?_) (fun hc => ?_)
  · rw [if_pos hc] at h
    refine lv_iconst (v := (0:Int32)) C.1 C.2.1 dX12_branches_27 (by decide) ?_
    exact wq_branches_28 C h G (lv_sub hl [1, 2, 3] rfl)
  · rw [if_neg hc] at h
    refine lv_iconst (v := (1:Int32)) C.1 C.2.1 dX12_branches_23 (by decide) ?_
    refine lv_goto (tgt := 28) C.1 C.2.1 dX12_branches_24 (by decide) ?_
    exact wq_branches_28 C h G (lv_sub hl [1, 2, 3] rfl)
noncomputable def bq_branches_0 (x0 : Int32) (x1 : Int32) (x2 : Int32) (ρ : rf_S) : Option (Int32 × rf_S) := (if x0 ≤ (33:Int32) then bq_branches_13 x0 x1 x2 (0:Int32) ρ else bq_branches_13 x0 x1 x2 (-2147483648:Int32) ρ)
set_option maxHeartbeats 4000000 in
theorem wq_branches_0 (C : rf_C D p s m args meth c cX12_branches 5 (some .boolean)) {r : Int32} {x0 : Int32} {x1 : Int32} {x2 : Int32} {ρ ρ' : rf_S} {H : Heap} {locs : List Loc} {ls : Array Slot} (h : bq_branches_0 x0 x1 x2 ρ = some (r, ρ')) (G : rf_G D h0 s ρ H locs) (hl : lv_has ls 5 [(0, .int x0), (1, .int x1), (2, .int x2)]) : W p l e ({ frames := 0, cells := 0, slots := 0, locals := 0 }) s m args below meth c H locs 0 0 (MQ below (rf_Q D h0 (some (.int r)) ρ') args s 0 0 (rf_A h0)) (F0 m 0 ls []) := by
  unfold bq_branches_0 at h
  refine lv_iload_n C.1 C.2.1 dX12_branches_0 rfl (lv_at hl 0 rfl) ?_
  refine lv_bipush (v := (33:Int32)) C.1 C.2.1 dX12_branches_1 (by decide) ?_
  refine lv_icmp_le (tgt := 12) C.1 C.2.1 dX12_branches_3 (by decide) (fun hc => ?_) (fun hc => ?_)
  · rw [if_pos hc] at h
    refine lv_iconst (v := (0:Int32)) C.1 C.2.1 dX12_branches_12 (by decide) ?_
    exact wq_branches_13 C h G (lv_sub hl [0, 1, 2] rfl)
  · rw [if_neg hc] at h
    refine lv_ldcw (v := (-2147483648:Int32)) C.1 C.2.1 C.2.2.2.1 (C.2.2.2.2.1 _ kc_566) dX12_branches_6 ?_
    refine lv_goto (tgt := 13) C.1 C.2.1 dX12_branches_9 (by decide) ?_
    exact wq_branches_13 C h G (lv_sub hl [0, 1, 2] rfl)
noncomputable def fq_branches (x0 : Int32) (x1 : Int32) (x2 : Int32) (ρ : rf_S) : Option (Int32 × rf_S) := bq_branches_0 x0 x1 x2 ρ
theorem kq_branches (l : Launch) (D : rf_D) (h0 : Nat) {r : Int32} {x0 : Int32} {x1 : Int32} {x2 : Int32} {ρ ρ' : rf_S} (h : fq_branches x0 x1 x2 ρ = some (r, ρ')) : rf_Met l D h0 yX12_branches cX12_branches 5 (some .boolean) 0 0 [.int x0, .int x1, .int x2] ρ (some (.int r)) ρ' :=
  rf_of rfl cc_branches (Nat.le_of_ble_eq_true rfl) (fun p e s m args below meth c ls C G hl => wq_branches_0 C h G hl)
abbrev cX12_nextWord : ByteArray := prog_14_method_84_code
def yX12_nextWord : MethodName := ⟨RX12, "nextWord", "()I"⟩
theorem dX12_nextWord_0 : decode cX12_nextWord 0 = .ok (.aload_n 0, 1) := by decide +kernel
theorem dX12_nextWord_1 : decode cX12_nextWord 1 = .ok (.getfield 221, 3) := by decide +kernel
theorem dX12_nextWord_4 : decode cX12_nextWord 4 = .ok (.aload_n 0, 1) := by decide +kernel
theorem dX12_nextWord_5 : decode cX12_nextWord 5 = .ok (.getfield 563, 3) := by decide +kernel
theorem dX12_nextWord_8 : decode cX12_nextWord 8 = .ok (.iaload, 1) := by decide +kernel
theorem dX12_nextWord_9 : decode cX12_nextWord 9 = .ok (.ifCond .ne 11, 3) := by decide +kernel
theorem dX12_nextWord_12 : decode cX12_nextWord 12 = .ok (.aload_n 0, 1) := by decide +kernel
theorem dX12_nextWord_13 : decode cX12_nextWord 13 = .ok (.iconst 2, 1) := by decide +kernel
theorem dX12_nextWord_14 : decode cX12_nextWord 14 = .ok (.iconst 0, 1) := by decide +kernel
theorem dX12_nextWord_15 : decode cX12_nextWord 15 = .ok (.invokevirtual 586, 3) := by decide +kernel
theorem dX12_nextWord_18 : decode cX12_nextWord 18 = .ok (.iconst 0, 1) := by decide +kernel
theorem dX12_nextWord_19 : decode cX12_nextWord 19 = .ok (.ireturn, 1) := by decide +kernel
theorem dX12_nextWord_20 : decode cX12_nextWord 20 = .ok (.aload_n 0, 1) := by decide +kernel
theorem dX12_nextWord_21 : decode cX12_nextWord 21 = .ok (.getfield 218, 3) := by decide +kernel
theorem dX12_nextWord_24 : decode cX12_nextWord 24 = .ok (.bipush 64, 2) := by decide +kernel
theorem dX12_nextWord_26 : decode cX12_nextWord 26 = .ok (.aload_n 0, 1) := by decide +kernel
theorem dX12_nextWord_27 : decode cX12_nextWord 27 = .ok (.getfield 563, 3) := by decide +kernel
theorem dX12_nextWord_30 : decode cX12_nextWord 30 = .ok (.imul, 1) := by decide +kernel
theorem dX12_nextWord_31 : decode cX12_nextWord 31 = .ok (.iaload, 1) := by decide +kernel
theorem dX12_nextWord_32 : decode cX12_nextWord 32 = .ok (.istore_n 1, 1) := by decide +kernel
theorem dX12_nextWord_33 : decode cX12_nextWord 33 = .ok (.aload_n 0, 1) := by decide +kernel
theorem dX12_nextWord_34 : decode cX12_nextWord 34 = .ok (.getfield 221, 3) := by decide +kernel
theorem dX12_nextWord_37 : decode cX12_nextWord 37 = .ok (.aload_n 0, 1) := by decide +kernel
theorem dX12_nextWord_38 : decode cX12_nextWord 38 = .ok (.getfield 563, 3) := by decide +kernel
theorem dX12_nextWord_41 : decode cX12_nextWord 41 = .ok (.dup2, 1) := by decide +kernel
theorem dX12_nextWord_42 : decode cX12_nextWord 42 = .ok (.iaload, 1) := by decide +kernel
theorem dX12_nextWord_43 : decode cX12_nextWord 43 = .ok (.iconst 1, 1) := by decide +kernel
theorem dX12_nextWord_44 : decode cX12_nextWord 44 = .ok (.isub, 1) := by decide +kernel
theorem dX12_nextWord_45 : decode cX12_nextWord 45 = .ok (.iastore, 1) := by decide +kernel
theorem dX12_nextWord_46 : decode cX12_nextWord 46 = .ok (.iconst 0, 1) := by decide +kernel
theorem dX12_nextWord_47 : decode cX12_nextWord 47 = .ok (.istore_n 2, 1) := by decide +kernel
theorem dX12_nextWord_48 : decode cX12_nextWord 48 = .ok (.iload_n 2, 1) := by decide +kernel
theorem dX12_nextWord_49 : decode cX12_nextWord 49 = .ok (.aload_n 0, 1) := by decide +kernel
theorem dX12_nextWord_50 : decode cX12_nextWord 50 = .ok (.getfield 221, 3) := by decide +kernel
theorem dX12_nextWord_53 : decode cX12_nextWord 53 = .ok (.aload_n 0, 1) := by decide +kernel
theorem dX12_nextWord_54 : decode cX12_nextWord 54 = .ok (.getfield 563, 3) := by decide +kernel
theorem dX12_nextWord_57 : decode cX12_nextWord 57 = .ok (.iaload, 1) := by decide +kernel
theorem dX12_nextWord_58 : decode cX12_nextWord 58 = .ok (.if_icmp .ge 39, 3) := by decide +kernel
theorem dX12_nextWord_61 : decode cX12_nextWord 61 = .ok (.aload_n 0, 1) := by decide +kernel
theorem dX12_nextWord_62 : decode cX12_nextWord 62 = .ok (.getfield 218, 3) := by decide +kernel
theorem dX12_nextWord_65 : decode cX12_nextWord 65 = .ok (.bipush 64, 2) := by decide +kernel
theorem dX12_nextWord_67 : decode cX12_nextWord 67 = .ok (.aload_n 0, 1) := by decide +kernel
theorem dX12_nextWord_68 : decode cX12_nextWord 68 = .ok (.getfield 563, 3) := by decide +kernel
theorem dX12_nextWord_71 : decode cX12_nextWord 71 = .ok (.imul, 1) := by decide +kernel
theorem dX12_nextWord_72 : decode cX12_nextWord 72 = .ok (.iload_n 2, 1) := by decide +kernel
theorem dX12_nextWord_73 : decode cX12_nextWord 73 = .ok (.iadd, 1) := by decide +kernel
theorem dX12_nextWord_74 : decode cX12_nextWord 74 = .ok (.aload_n 0, 1) := by decide +kernel
theorem dX12_nextWord_75 : decode cX12_nextWord 75 = .ok (.getfield 218, 3) := by decide +kernel
theorem dX12_nextWord_78 : decode cX12_nextWord 78 = .ok (.bipush 64, 2) := by decide +kernel
theorem dX12_nextWord_80 : decode cX12_nextWord 80 = .ok (.aload_n 0, 1) := by decide +kernel
theorem dX12_nextWord_81 : decode cX12_nextWord 81 = .ok (.getfield 563, 3) := by decide +kernel
theorem dX12_nextWord_84 : decode cX12_nextWord 84 = .ok (.imul, 1) := by decide +kernel
theorem dX12_nextWord_85 : decode cX12_nextWord 85 = .ok (.iload_n 2, 1) := by decide +kernel
theorem dX12_nextWord_86 : decode cX12_nextWord 86 = .ok (.iadd, 1) := by decide +kernel
theorem dX12_nextWord_87 : decode cX12_nextWord 87 = .ok (.iconst 1, 1) := by decide +kernel
theorem dX12_nextWord_88 : decode cX12_nextWord 88 = .ok (.iadd, 1) := by decide +kernel
theorem dX12_nextWord_89 : decode cX12_nextWord 89 = .ok (.iaload, 1) := by decide +kernel
theorem dX12_nextWord_90 : decode cX12_nextWord 90 = .ok (.iastore, 1) := by decide +kernel
theorem dX12_nextWord_91 : decode cX12_nextWord 91 = .ok (.iinc 2 1, 3) := by decide +kernel
theorem dX12_nextWord_94 : decode cX12_nextWord 94 = .ok (.goto (-46), 3) := by decide +kernel
theorem dX12_nextWord_97 : decode cX12_nextWord 97 = .ok (.aload_n 0, 1) := by decide +kernel
theorem dX12_nextWord_98 : decode cX12_nextWord 98 = .ok (.iconst 2, 1) := by decide +kernel
theorem dX12_nextWord_99 : decode cX12_nextWord 99 = .ok (.iconst 1, 1) := by decide +kernel
theorem dX12_nextWord_100 : decode cX12_nextWord 100 = .ok (.invokevirtual 586, 3) := by decide +kernel
theorem dX12_nextWord_103 : decode cX12_nextWord 103 = .ok (.iload_n 1, 1) := by decide +kernel
theorem dX12_nextWord_104 : decode cX12_nextWord 104 = .ok (.ireturn, 1) := by decide +kernel
theorem cc_nextWord : Cond.code yX12_nextWord cX12_nextWord 3 (some .int) ∈ rf_tb := rf_at 2155 (by decide +kernel) (by decide +kernel)
theorem cw_nextWord : rf_wV yX12_nextWord cX12_nextWord 3 (some .int) 622 0 := ⟨⟨rf_at 2152 (by decide +kernel) (by decide +kernel), rf_at 2154 (by decide +kernel) (by decide +kernel), rf_sel (q := (yX12_nextWord, 122)) 117 (by decide +kernel) (by decide +kernel), cc_nextWord⟩, rfl, by decide +kernel⟩
noncomputable def lq_nextWord_48 (x1 : Int32) (x2 : Int32) (ρ : rf_S) : Option ((Int32 × rf_S) ⊕ (Int32 × rf_S)) := ix (ρ.1 0 119) 16 ((if (ρ.1 66 (ρ.1 0 119).toNatClampNeg) ≤ x2 then some (.inr (x2, ρ)) else ix ((((64:Int32) * (ρ.1 0 119)) + x2) + (1:Int32)) 1024 (ix (((64:Int32) * (ρ.1 0 119)) + x2) 1024 (vl (rf_w ρ 65 (((64:Int32) * (ρ.1 0 119)) + x2).toNatClampNeg (ρ.1 65 ((((64:Int32) * (ρ.1 0 119)) + x2) + (1:Int32)).toNatClampNeg)) (fun ρ_3 => vl (x2 + (1:Int32)) (fun x2_4 => some (.inl (x2_4, ρ_3))))))))
noncomputable def eq_nextWord_48 (x1 : Int32) (x2 : Int32) (ρ : rf_S) : Option (Int32 × rf_S) := bd1 (fq_give (2:Int32) (1:Int32) ρ) (fun ρ_5 => some (x1, ρ_5))
noncomputable def bq_nextWord_48 (x1 : Int32) (x2 : Int32) (ρ : rf_S) : Option (Int32 × rf_S) := (lp (fun z : (Int32 × rf_S) => lq_nextWord_48 x1 z.1 z.2) (x2, ρ)).bind (fun z => eq_nextWord_48 x1 z.1 z.2)
set_option maxHeartbeats 4000000 in
theorem wq_nextWord_48 (C : rf_C D p s m args meth c cX12_nextWord 3 (some .int)) {r : Int32} {x1 : Int32} {x2 : Int32} {ρ ρ' : rf_S} {H : Heap} {locs : List Loc} {ls : Array Slot} (h : bq_nextWord_48 x1 x2 ρ = some (r, ρ')) (G : rf_G D h0 s ρ H locs) (hl : lv_has ls 3 [(0, .ref h0), (1, .int x1), (2, .int x2)]) : W p l e ({ frames := 1, cells := 0, slots := 0, locals := 22 }) s m args below meth c H locs 0 0 (MQ below (rf_Q D h0 (some (.int r)) ρ') args s 0 0 (rf_A h0)) (F0 m 48 ls []) := by
  unfold bq_nextWord_48 at h
  obtain ⟨y, hy, h⟩ := bd_some h
  have hE : (fun z : (Int32 × rf_S) => ∀ (H : Heap) (locs : List Loc) (ls : Array Slot), rf_G D h0 s z.2 H locs → lv_has ls 3 [(0, .ref h0), (1, .int x1), (2, .int z.1)] → W p l e ({ frames := 1, cells := 0, slots := 0, locals := 22 }) s m args below meth c H locs 0 0 (MQ below (rf_Q D h0 (some (.int r)) ρ') args s 0 0 (rf_A h0)) (F0 m 97 ls [])) y := by
    intro H locs ls G hl
    obtain ⟨x2, ρ⟩ := y
    dsimp only at h G hl
    unfold eq_nextWord_48 at h
    refine lv_aload_n C.1 C.2.1 dX12_nextWord_97 rfl (lv_at hl 0 rfl) ?_
    refine lv_iconst (v := (2:Int32)) C.1 C.2.1 dX12_nextWord_98 (by decide) ?_
    refine lv_iconst (v := (1:Int32)) C.1 C.2.1 dX12_nextWord_99 (by decide) ?_
    obtain ⟨ρ_5, hq, h⟩ := bd1_some h
    refine rf_callV (rest := []) C G cw_give [.int (2:Int32), .int (1:Int32)] _ (kq_give l D h0 hq) (Nat.le_of_ble_eq_true rfl) (Nat.le_of_ble_eq_true rfl) rfl rfl hl.1 (Nat.le_of_ble_eq_true rfl) (Nat.zero_le _) (Nat.zero_le _) dX12_nextWord_100 (fun H locs G => ?_)
    refine W.eq (g2 := F0 m 103 ls []) rfl ?_
    refine lv_iload_n C.1 C.2.1 dX12_nextWord_103 rfl (lv_at hl 1 rfl) ?_
    exact rf_iret C G h dX12_nextWord_104
  refine lp_recE (fun z : (Int32 × rf_S) => ∀ (H : Heap) (locs : List Loc) (ls : Array Slot), rf_G D h0 s z.2 H locs → lv_has ls 3 [(0, .ref h0), (1, .int x1), (2, .int z.1)] → W p l e ({ frames := 1, cells := 0, slots := 0, locals := 22 }) s m args below meth c H locs 0 0 (MQ below (rf_Q D h0 (some (.int r)) ρ') args s 0 0 (rf_A h0)) (F0 m 48 ls [])) (fun z : (Int32 × rf_S) => ∀ (H : Heap) (locs : List Loc) (ls : Array Slot), rf_G D h0 s z.2 H locs → lv_has ls 3 [(0, .ref h0), (1, .int x1), (2, .int z.1)] → W p l e ({ frames := 1, cells := 0, slots := 0, locals := 22 }) s m args below meth c H locs 0 0 (MQ below (rf_Q D h0 (some (.int r)) ρ') args s 0 0 (rf_A h0)) (F0 m 97 ls [])) ?_ _ _ hy hE _ _ _ G hl
  clear hE hy G hl h
  intro z o h hP H locs ls G hl
  obtain ⟨x2, ρ⟩ := z
  dsimp only at h G hl
  unfold lq_nextWord_48 at h
  refine lv_iload_n C.1 C.2.1 dX12_nextWord_48 rfl (lv_at hl 2 rfl) ?_
  refine lv_aload_n C.1 C.2.1 dX12_nextWord_49 rfl (lv_at hl 0 rfl) ?_
  refine gf_98 C G dX12_nextWord_50 ?_
  refine lv_aload_n C.1 C.2.1 dX12_nextWord_53 rfl (lv_at hl 0 rfl) ?_
  refine gf_119 C G dX12_nextWord_54 ?_
  obtain ⟨hi, h⟩ := ix_some h
  refine rf_iald C G 66 rfl (by decide) rfl rfl hi dX12_nextWord_57 ?_
  refine lv_icmp_ge (tgt := 97) C.1 C.2.1 dX12_nextWord_58 (by decide) (fun hc => ?_) (fun hc => ?_)
  · rw [if_pos hc] at h
    cases h
    exact hP _ _ _ G (lv_sub hl [0, 1, 2] rfl)
  · rw [if_neg hc] at h
    refine lv_aload_n C.1 C.2.1 dX12_nextWord_61 rfl (lv_at hl 0 rfl) ?_
    refine gf_97 C G dX12_nextWord_62 ?_
    refine lv_bipush (v := (64:Int32)) C.1 C.2.1 dX12_nextWord_65 (by decide) ?_
    refine lv_aload_n C.1 C.2.1 dX12_nextWord_67 rfl (lv_at hl 0 rfl) ?_
    refine gf_119 C G dX12_nextWord_68 ?_
    refine lv_imul C.1 C.2.1 dX12_nextWord_71 ?_
    refine lv_iload_n C.1 C.2.1 dX12_nextWord_72 rfl (lv_at hl 2 rfl) ?_
    refine lv_iadd C.1 C.2.1 dX12_nextWord_73 ?_
    refine lv_aload_n C.1 C.2.1 dX12_nextWord_74 rfl (lv_at hl 0 rfl) ?_
    refine gf_97 C G dX12_nextWord_75 ?_
    refine lv_bipush (v := (64:Int32)) C.1 C.2.1 dX12_nextWord_78 (by decide) ?_
    refine lv_aload_n C.1 C.2.1 dX12_nextWord_80 rfl (lv_at hl 0 rfl) ?_
    refine gf_119 C G dX12_nextWord_81 ?_
    refine lv_imul C.1 C.2.1 dX12_nextWord_84 ?_
    refine lv_iload_n C.1 C.2.1 dX12_nextWord_85 rfl (lv_at hl 2 rfl) ?_
    refine lv_iadd C.1 C.2.1 dX12_nextWord_86 ?_
    refine lv_iconst (v := (1:Int32)) C.1 C.2.1 dX12_nextWord_87 (by decide) ?_
    refine lv_iadd C.1 C.2.1 dX12_nextWord_88 ?_
    obtain ⟨hi, h⟩ := ix_some h
    refine rf_iald C G 65 rfl (by decide) rfl rfl hi dX12_nextWord_89 ?_
    obtain ⟨hi, h⟩ := ix_some h
    refine rf_iast C G 65 rfl (by decide) rfl rfl hi dX12_nextWord_90 (fun H locs G => ?_)
    refine rf_nm G h (fun ρ_3 G h => ?_)
    refine vl_ex h (fun x2_4 ey h => ?_)
    refine lv_iinc (v := x2_4) (lv' := [(2, .int x2_4), (0, .ref h0), (1, .int x1)]) C.1 C.2.1 dX12_nextWord_91 hl (k := 2) rfl (by rw [ey]; rfl) (by decide) rfl (fun ls hl => ?_)
    refine lv_goto (tgt := 48) C.1 C.2.1 dX12_nextWord_94 (by decide) ?_
    cases h
    exact hP _ _ _ G (lv_sub hl [1, 2, 0] rfl)
noncomputable def bq_nextWord_0  (ρ : rf_S) : Option (Int32 × rf_S) := ix (ρ.1 0 119) 16 ((if (ρ.1 66 (ρ.1 0 119).toNatClampNeg) = 0 then bd1 (fq_give (2:Int32) (0:Int32) ρ) (fun ρ_6 => some ((0:Int32), ρ_6)) else ix ((64:Int32) * (ρ.1 0 119)) 1024 (vl (ρ.1 65 ((64:Int32) * (ρ.1 0 119)).toNatClampNeg) (fun x1_1 => ix (ρ.1 0 119) 16 (ix (ρ.1 0 119) 16 (vl (rf_w ρ 66 (ρ.1 0 119).toNatClampNeg ((ρ.1 66 (ρ.1 0 119).toNatClampNeg) - (1:Int32))) (fun ρ_2 => bq_nextWord_48 x1_1 (0:Int32) ρ_2)))))))
set_option maxHeartbeats 4000000 in
theorem wq_nextWord_0 (C : rf_C D p s m args meth c cX12_nextWord 3 (some .int)) {r : Int32} {ρ ρ' : rf_S} {H : Heap} {locs : List Loc} {ls : Array Slot} (h : bq_nextWord_0 ρ = some (r, ρ')) (G : rf_G D h0 s ρ H locs) (hl : lv_has ls 3 [(0, .ref h0)]) : W p l e ({ frames := 1, cells := 0, slots := 0, locals := 22 }) s m args below meth c H locs 0 0 (MQ below (rf_Q D h0 (some (.int r)) ρ') args s 0 0 (rf_A h0)) (F0 m 0 ls []) := by
  unfold bq_nextWord_0 at h
  refine lv_aload_n C.1 C.2.1 dX12_nextWord_0 rfl (lv_at hl 0 rfl) ?_
  refine gf_98 C G dX12_nextWord_1 ?_
  refine lv_aload_n C.1 C.2.1 dX12_nextWord_4 rfl (lv_at hl 0 rfl) ?_
  refine gf_119 C G dX12_nextWord_5 ?_
  obtain ⟨hi, h⟩ := ix_some h
  refine rf_iald C G 66 rfl (by decide) rfl rfl hi dX12_nextWord_8 ?_
  refine lv_if_ne (tgt := 20) C.1 C.2.1 dX12_nextWord_9 (by decide) (fun hc => ?_) (fun hc => ?_)
  · rw [if_neg hc] at h
    refine lv_aload_n C.1 C.2.1 dX12_nextWord_20 rfl (lv_at hl 0 rfl) ?_
    refine gf_97 C G dX12_nextWord_21 ?_
    refine lv_bipush (v := (64:Int32)) C.1 C.2.1 dX12_nextWord_24 (by decide) ?_
    refine lv_aload_n C.1 C.2.1 dX12_nextWord_26 rfl (lv_at hl 0 rfl) ?_
    refine gf_119 C G dX12_nextWord_27 ?_
    refine lv_imul C.1 C.2.1 dX12_nextWord_30 ?_
    obtain ⟨hi, h⟩ := ix_some h
    refine rf_iald C G 65 rfl (by decide) rfl rfl hi dX12_nextWord_31 ?_
    refine vt_i h (fun x1_1 h => ?_)
    refine lv_istore_n (lv' := [(1, .int x1_1), (0, .ref h0)]) C.1 C.2.1 dX12_nextWord_32 rfl hl (by decide) rfl (fun ls hl => ?_)
    refine lv_aload_n C.1 C.2.1 dX12_nextWord_33 rfl (lv_at hl 1 rfl) ?_
    refine gf_98 C G dX12_nextWord_34 ?_
    refine lv_aload_n C.1 C.2.1 dX12_nextWord_37 rfl (lv_at hl 1 rfl) ?_
    refine gf_119 C G dX12_nextWord_38 ?_
    refine lv_dup2_11 C.1 C.2.1 dX12_nextWord_41 rfl rfl ?_
    obtain ⟨hi, h⟩ := ix_some h
    refine rf_iald C G 66 rfl (by decide) rfl rfl hi dX12_nextWord_42 ?_
    refine lv_iconst (v := (1:Int32)) C.1 C.2.1 dX12_nextWord_43 (by decide) ?_
    refine lv_isub C.1 C.2.1 dX12_nextWord_44 ?_
    obtain ⟨hi, h⟩ := ix_some h
    refine rf_iast C G 66 rfl (by decide) rfl rfl hi dX12_nextWord_45 (fun H locs G => ?_)
    refine rf_nm G h (fun ρ_2 G h => ?_)
    refine lv_iconst (v := (0:Int32)) C.1 C.2.1 dX12_nextWord_46 (by decide) ?_
    refine lv_istore_n (lv' := [(2, .int (0:Int32)), (1, .int x1_1), (0, .ref h0)]) C.1 C.2.1 dX12_nextWord_47 rfl hl (by decide) rfl (fun ls hl => ?_)
    exact wq_nextWord_48 C h G (lv_sub hl [2, 1, 0] rfl)
  · rw [if_pos hc] at h
    refine lv_aload_n C.1 C.2.1 dX12_nextWord_12 rfl (lv_at hl 0 rfl) ?_
    refine lv_iconst (v := (2:Int32)) C.1 C.2.1 dX12_nextWord_13 (by decide) ?_
    refine lv_iconst (v := (0:Int32)) C.1 C.2.1 dX12_nextWord_14 (by decide) ?_
    obtain ⟨ρ_6, hq, h⟩ := bd1_some h
    refine rf_callV (rest := []) C G cw_give [.int (2:Int32), .int (0:Int32)] _ (kq_give l D h0 hq) (Nat.le_of_ble_eq_true rfl) (Nat.le_of_ble_eq_true rfl) rfl rfl hl.1 (Nat.le_of_ble_eq_true rfl) (Nat.zero_le _) (Nat.zero_le _) dX12_nextWord_15 (fun H locs G => ?_)
    refine W.eq (g2 := F0 m 18 ls []) rfl ?_
    refine lv_iconst (v := (0:Int32)) C.1 C.2.1 dX12_nextWord_18 (by decide) ?_
    exact rf_iret C G h dX12_nextWord_19
noncomputable def fq_nextWord  (ρ : rf_S) : Option (Int32 × rf_S) := bq_nextWord_0 ρ
theorem kq_nextWord (l : Launch) (D : rf_D) (h0 : Nat) {r : Int32} {ρ ρ' : rf_S} (h : fq_nextWord ρ = some (r, ρ')) : rf_Met l D h0 yX12_nextWord cX12_nextWord 3 (some .int) 1 22 [.ref h0] ρ (some (.int r)) ρ' :=
  rf_of rfl cc_nextWord (Nat.le_of_ble_eq_true rfl) (fun p e s m args below meth c ls C G hl => wq_nextWord_0 C h G hl)
abbrev cX12_out : ByteArray := prog_14_method_86_code
def yX12_out : MethodName := ⟨RX12, "out", "(IZ)I"⟩
theorem dX12_out_0 : decode cX12_out 0 = .ok (.aload_n 0, 1) := by decide +kernel
theorem dX12_out_1 : decode cX12_out 1 = .ok (.getfield 215, 3) := by decide +kernel
theorem dX12_out_4 : decode cX12_out 4 = .ok (.aload_n 0, 1) := by decide +kernel
theorem dX12_out_5 : decode cX12_out 5 = .ok (.getfield 563, 3) := by decide +kernel
theorem dX12_out_8 : decode cX12_out 8 = .ok (.iaload, 1) := by decide +kernel
theorem dX12_out_9 : decode cX12_out 9 = .ok (.sipush 200, 3) := by decide +kernel
theorem dX12_out_12 : decode cX12_out 12 = .ok (.if_icmp .ne 6, 3) := by decide +kernel
theorem dX12_out_15 : decode cX12_out 15 = .ok (.bipush (-4), 2) := by decide +kernel
theorem dX12_out_17 : decode cX12_out 17 = .ok (.ireturn, 1) := by decide +kernel
theorem dX12_out_18 : decode cX12_out 18 = .ok (.aload_n 0, 1) := by decide +kernel
theorem dX12_out_19 : decode cX12_out 19 = .ok (.getfield 209, 3) := by decide +kernel
theorem dX12_out_22 : decode cX12_out 22 = .ok (.sipush 200, 3) := by decide +kernel
theorem dX12_out_25 : decode cX12_out 25 = .ok (.aload_n 0, 1) := by decide +kernel
theorem dX12_out_26 : decode cX12_out 26 = .ok (.getfield 563, 3) := by decide +kernel
theorem dX12_out_29 : decode cX12_out 29 = .ok (.imul, 1) := by decide +kernel
theorem dX12_out_30 : decode cX12_out 30 = .ok (.aload_n 0, 1) := by decide +kernel
theorem dX12_out_31 : decode cX12_out 31 = .ok (.getfield 215, 3) := by decide +kernel
theorem dX12_out_34 : decode cX12_out 34 = .ok (.aload_n 0, 1) := by decide +kernel
theorem dX12_out_35 : decode cX12_out 35 = .ok (.getfield 563, 3) := by decide +kernel
theorem dX12_out_38 : decode cX12_out 38 = .ok (.iaload, 1) := by decide +kernel
theorem dX12_out_39 : decode cX12_out 39 = .ok (.iadd, 1) := by decide +kernel
theorem dX12_out_40 : decode cX12_out 40 = .ok (.iload_n 1, 1) := by decide +kernel
theorem dX12_out_41 : decode cX12_out 41 = .ok (.iastore, 1) := by decide +kernel
theorem dX12_out_42 : decode cX12_out 42 = .ok (.aload_n 0, 1) := by decide +kernel
theorem dX12_out_43 : decode cX12_out 43 = .ok (.getfield 212, 3) := by decide +kernel
theorem dX12_out_46 : decode cX12_out 46 = .ok (.sipush 200, 3) := by decide +kernel
theorem dX12_out_49 : decode cX12_out 49 = .ok (.aload_n 0, 1) := by decide +kernel
theorem dX12_out_50 : decode cX12_out 50 = .ok (.getfield 563, 3) := by decide +kernel
theorem dX12_out_53 : decode cX12_out 53 = .ok (.imul, 1) := by decide +kernel
theorem dX12_out_54 : decode cX12_out 54 = .ok (.aload_n 0, 1) := by decide +kernel
theorem dX12_out_55 : decode cX12_out 55 = .ok (.getfield 215, 3) := by decide +kernel
theorem dX12_out_58 : decode cX12_out 58 = .ok (.aload_n 0, 1) := by decide +kernel
theorem dX12_out_59 : decode cX12_out 59 = .ok (.getfield 563, 3) := by decide +kernel
theorem dX12_out_62 : decode cX12_out 62 = .ok (.iaload, 1) := by decide +kernel
theorem dX12_out_63 : decode cX12_out 63 = .ok (.iadd, 1) := by decide +kernel
theorem dX12_out_64 : decode cX12_out 64 = .ok (.iload_n 2, 1) := by decide +kernel
theorem dX12_out_65 : decode cX12_out 65 = .ok (.bastore, 1) := by decide +kernel
theorem dX12_out_66 : decode cX12_out 66 = .ok (.aload_n 0, 1) := by decide +kernel
theorem dX12_out_67 : decode cX12_out 67 = .ok (.getfield 215, 3) := by decide +kernel
theorem dX12_out_70 : decode cX12_out 70 = .ok (.aload_n 0, 1) := by decide +kernel
theorem dX12_out_71 : decode cX12_out 71 = .ok (.getfield 563, 3) := by decide +kernel
theorem dX12_out_74 : decode cX12_out 74 = .ok (.dup2, 1) := by decide +kernel
theorem dX12_out_75 : decode cX12_out 75 = .ok (.iaload, 1) := by decide +kernel
theorem dX12_out_76 : decode cX12_out 76 = .ok (.iconst 1, 1) := by decide +kernel
theorem dX12_out_77 : decode cX12_out 77 = .ok (.iadd, 1) := by decide +kernel
theorem dX12_out_78 : decode cX12_out 78 = .ok (.iastore, 1) := by decide +kernel
theorem dX12_out_79 : decode cX12_out 79 = .ok (.iload_n 2, 1) := by decide +kernel
theorem dX12_out_80 : decode cX12_out 80 = .ok (.ifCond .eq 15, 3) := by decide +kernel
theorem dX12_out_83 : decode cX12_out 83 = .ok (.aload_n 0, 1) := by decide +kernel
theorem dX12_out_84 : decode cX12_out 84 = .ok (.getfield 525, 3) := by decide +kernel
theorem dX12_out_87 : decode cX12_out 87 = .ok (.ifCond .ne 8, 3) := by decide +kernel
theorem dX12_out_90 : decode cX12_out 90 = .ok (.aload_n 0, 1) := by decide +kernel
theorem dX12_out_91 : decode cX12_out 91 = .ok (.iload_n 1, 1) := by decide +kernel
theorem dX12_out_92 : decode cX12_out 92 = .ok (.invokevirtual 648, 3) := by decide +kernel
theorem dX12_out_95 : decode cX12_out 95 = .ok (.iconst 0, 1) := by decide +kernel
theorem dX12_out_96 : decode cX12_out 96 = .ok (.ireturn, 1) := by decide +kernel
theorem cc_out : Cond.code yX12_out cX12_out 3 (some .int) ∈ rf_tb := rf_at 2159 (by decide +kernel) (by decide +kernel)
theorem cw_out : rf_wV yX12_out cX12_out 3 (some .int) 625 2 := ⟨⟨rf_at 2156 (by decide +kernel) (by decide +kernel), rf_at 2158 (by decide +kernel) (by decide +kernel), rf_sel (q := (yX12_out, 122)) 118 (by decide +kernel) (by decide +kernel), cc_out⟩, rfl, by decide +kernel⟩
noncomputable def bq_out_0 (x1 : Int32) (x2 : Int32) (ρ : rf_S) : Option (Int32 × rf_S) := ix (ρ.1 0 119) 16 ((if (ρ.1 64 (ρ.1 0 119).toNatClampNeg) = (200:Int32) then some ((-4:Int32), ρ) else ix (ρ.1 0 119) 16 (ix (((200:Int32) * (ρ.1 0 119)) + (ρ.1 64 (ρ.1 0 119).toNatClampNeg)) 3200 (vl (rf_w ρ 62 (((200:Int32) * (ρ.1 0 119)) + (ρ.1 64 (ρ.1 0 119).toNatClampNeg)).toNatClampNeg x1) (fun ρ_1 => ix (ρ_1.1 0 119) 16 (ix (((200:Int32) * (ρ_1.1 0 119)) + (ρ_1.1 64 (ρ_1.1 0 119).toNatClampNeg)) 3200 (vl (rf_w ρ_1 63 (((200:Int32) * (ρ_1.1 0 119)) + (ρ_1.1 64 (ρ_1.1 0 119).toNatClampNeg)).toNatClampNeg (vp_nar .boolean x2)) (fun ρ_2 => ix (ρ_2.1 0 119) 16 (ix (ρ_2.1 0 119) 16 (vl (rf_w ρ_2 64 (ρ_2.1 0 119).toNatClampNeg ((ρ_2.1 64 (ρ_2.1 0 119).toNatClampNeg) + (1:Int32))) (fun ρ_3 => (if x2 = 0 then some ((0:Int32), ρ_3) else (if (ρ_3.1 0 79) = 0 then bd1 (fq_wentOut x1 ρ_3) (fun ρ_4 => some ((0:Int32), ρ_4)) else some ((0:Int32), ρ_3))))))))))))))
set_option maxHeartbeats 4000000 in
theorem wq_out_0 (C : rf_C D p s m args meth c cX12_out 3 (some .int)) {r : Int32} {x1 : Int32} {x2 : Int32} {ρ ρ' : rf_S} {H : Heap} {locs : List Loc} {ls : Array Slot} (h : bq_out_0 x1 x2 ρ = some (r, ρ')) (G : rf_G D h0 s ρ H locs) (hl : lv_has ls 3 [(0, .ref h0), (1, .int x1), (2, .int x2)]) : W p l e ({ frames := 1, cells := 0, slots := 0, locals := 21 }) s m args below meth c H locs 0 0 (MQ below (rf_Q D h0 (some (.int r)) ρ') args s 0 0 (rf_A h0)) (F0 m 0 ls []) := by
  unfold bq_out_0 at h
  refine lv_aload_n C.1 C.2.1 dX12_out_0 rfl (lv_at hl 0 rfl) ?_
  refine gf_96 C G dX12_out_1 ?_
  refine lv_aload_n C.1 C.2.1 dX12_out_4 rfl (lv_at hl 0 rfl) ?_
  refine gf_119 C G dX12_out_5 ?_
  obtain ⟨hi, h⟩ := ix_some h
  refine rf_iald C G 64 rfl (by decide) rfl rfl hi dX12_out_8 ?_
  refine lv_sipush (v := (200:Int32)) C.1 C.2.1 dX12_out_9 (by decide) ?_
  refine lv_icmp_ne (tgt := 18) C.1 C.2.1 dX12_out_12 (by decide) (fun hc => ?_) (fun hc => ?_)
  · rw [if_neg hc] at h
    refine lv_aload_n C.1 C.2.1 dX12_out_18 rfl (lv_at hl 0 rfl) ?_
    refine gf_94 C G dX12_out_19 ?_
    refine lv_sipush (v := (200:Int32)) C.1 C.2.1 dX12_out_22 (by decide) ?_
    refine lv_aload_n C.1 C.2.1 dX12_out_25 rfl (lv_at hl 0 rfl) ?_
    refine gf_119 C G dX12_out_26 ?_
    refine lv_imul C.1 C.2.1 dX12_out_29 ?_
    refine lv_aload_n C.1 C.2.1 dX12_out_30 rfl (lv_at hl 0 rfl) ?_
    refine gf_96 C G dX12_out_31 ?_
    refine lv_aload_n C.1 C.2.1 dX12_out_34 rfl (lv_at hl 0 rfl) ?_
    refine gf_119 C G dX12_out_35 ?_
    obtain ⟨hi, h⟩ := ix_some h
    refine rf_iald C G 64 rfl (by decide) rfl rfl hi dX12_out_38 ?_
    refine lv_iadd C.1 C.2.1 dX12_out_39 ?_
    refine lv_iload_n C.1 C.2.1 dX12_out_40 rfl (lv_at hl 1 rfl) ?_
    obtain ⟨hi, h⟩ := ix_some h
    refine rf_iast C G 62 rfl (by decide) rfl rfl hi dX12_out_41 (fun H locs G => ?_)
    refine rf_nm G h (fun ρ_1 G h => ?_)
    refine lv_aload_n C.1 C.2.1 dX12_out_42 rfl (lv_at hl 0 rfl) ?_
    refine gf_95 C G dX12_out_43 ?_
    refine lv_sipush (v := (200:Int32)) C.1 C.2.1 dX12_out_46 (by decide) ?_
    refine lv_aload_n C.1 C.2.1 dX12_out_49 rfl (lv_at hl 0 rfl) ?_
    refine gf_119 C G dX12_out_50 ?_
    refine lv_imul C.1 C.2.1 dX12_out_53 ?_
    refine lv_aload_n C.1 C.2.1 dX12_out_54 rfl (lv_at hl 0 rfl) ?_
    refine gf_96 C G dX12_out_55 ?_
    refine lv_aload_n C.1 C.2.1 dX12_out_58 rfl (lv_at hl 0 rfl) ?_
    refine gf_119 C G dX12_out_59 ?_
    obtain ⟨hi, h⟩ := ix_some h
    refine rf_iald C G 64 rfl (by decide) rfl rfl hi dX12_out_62 ?_
    refine lv_iadd C.1 C.2.1 dX12_out_63 ?_
    refine lv_iload_n C.1 C.2.1 dX12_out_64 rfl (lv_at hl 2 rfl) ?_
    obtain ⟨hi, h⟩ := ix_some h
    refine rf_zast C G 63 rfl (by decide) rfl rfl hi dX12_out_65 (fun H locs G => ?_)
    refine rf_nm G h (fun ρ_2 G h => ?_)
    refine lv_aload_n C.1 C.2.1 dX12_out_66 rfl (lv_at hl 0 rfl) ?_
    refine gf_96 C G dX12_out_67 ?_
    refine lv_aload_n C.1 C.2.1 dX12_out_70 rfl (lv_at hl 0 rfl) ?_
    refine gf_119 C G dX12_out_71 ?_
    refine lv_dup2_11 C.1 C.2.1 dX12_out_74 rfl rfl ?_
    obtain ⟨hi, h⟩ := ix_some h
    refine rf_iald C G 64 rfl (by decide) rfl rfl hi dX12_out_75 ?_
    refine lv_iconst (v := (1:Int32)) C.1 C.2.1 dX12_out_76 (by decide) ?_
    refine lv_iadd C.1 C.2.1 dX12_out_77 ?_
    obtain ⟨hi, h⟩ := ix_some h
    refine rf_iast C G 64 rfl (by decide) rfl rfl hi dX12_out_78 (fun H locs G => ?_)
    refine rf_nm G h (fun ρ_3 G h => ?_)
    refine lv_iload_n C.1 C.2.1 dX12_out_79 rfl (lv_at hl 2 rfl) ?_
    refine lv_if_eq (tgt := 95) C.1 C.2.1 dX12_out_80 (by decide) (fun hc => ?_) (fun hc => ?_)
    · rw [if_pos hc] at h
      refine lv_iconst (v := (0:Int32)) C.1 C.2.1 dX12_out_95 (by decide) ?_
      exact rf_iret C G h dX12_out_96
    · rw [if_neg hc] at h
      refine lv_aload_n C.1 C.2.1 dX12_out_83 rfl (lv_at hl 0 rfl) ?_
      refine gf_79 C G dX12_out_84 ?_
      refine lv_if_ne (tgt := 95) C.1 C.2.1 dX12_out_87 (by decide) (fun hc => ?_) (fun hc => ?_)
      · rw [if_neg hc] at h
        refine lv_iconst (v := (0:Int32)) C.1 C.2.1 dX12_out_95 (by decide) ?_
        exact rf_iret C G h dX12_out_96
      · rw [if_pos hc] at h
        refine lv_aload_n C.1 C.2.1 dX12_out_90 rfl (lv_at hl 0 rfl) ?_
        refine lv_iload_n C.1 C.2.1 dX12_out_91 rfl (lv_at hl 1 rfl) ?_
        obtain ⟨ρ_4, hq, h⟩ := bd1_some h
        refine rf_callV (rest := []) C G cw_wentOut [.int x1] _ (kq_wentOut l D h0 hq) (Nat.le_of_ble_eq_true rfl) (Nat.le_of_ble_eq_true rfl) rfl rfl hl.1 (Nat.le_of_ble_eq_true rfl) (Nat.zero_le _) (Nat.zero_le _) dX12_out_92 (fun H locs G => ?_)
        refine W.eq (g2 := F0 m 95 ls []) rfl ?_
        refine lv_iconst (v := (0:Int32)) C.1 C.2.1 dX12_out_95 (by decide) ?_
        exact rf_iret C G h dX12_out_96
  · rw [if_pos hc] at h
    refine lv_bipush (v := (-4:Int32)) C.1 C.2.1 dX12_out_15 (by decide) ?_
    exact rf_iret C G h dX12_out_17
noncomputable def fq_out (x1 : Int32) (x2 : Int32) (ρ : rf_S) : Option (Int32 × rf_S) := bq_out_0 x1 x2 ρ
theorem kq_out (l : Launch) (D : rf_D) (h0 : Nat) {r : Int32} {x1 : Int32} {x2 : Int32} {ρ ρ' : rf_S} (h : fq_out x1 x2 ρ = some (r, ρ')) : rf_Met l D h0 yX12_out cX12_out 3 (some .int) 1 21 [.ref h0, .int x1, .int x2] ρ (some (.int r)) ρ' :=
  rf_of rfl cc_out (Nat.le_of_ble_eq_true rfl) (fun p e s m args below meth c ls C G hl => wq_out_0 C h G hl)
abbrev cX12_isChannel : ByteArray := prog_14_method_81_code
def yX12_isChannel : MethodName := ⟨RX12, "isChannel", "(IZ)Z"⟩
theorem dX12_isChannel_0 : decode cX12_isChannel 0 = .ok (.iload_n 1, 1) := by decide +kernel
theorem dX12_isChannel_1 : decode cX12_isChannel 1 = .ok (.ifCond .lt 41, 3) := by decide +kernel
theorem dX12_isChannel_4 : decode cX12_isChannel 4 = .ok (.iload_n 1, 1) := by decide +kernel
theorem dX12_isChannel_5 : decode cX12_isChannel 5 = .ok (.aload_n 0, 1) := by decide +kernel
theorem dX12_isChannel_6 : decode cX12_isChannel 6 = .ok (.getfield 516, 3) := by decide +kernel
theorem dX12_isChannel_9 : decode cX12_isChannel 9 = .ok (.if_icmp .ge 33, 3) := by decide +kernel
theorem dX12_isChannel_12 : decode cX12_isChannel 12 = .ok (.iload_n 2, 1) := by decide +kernel
theorem dX12_isChannel_13 : decode cX12_isChannel 13 = .ok (.ifCond .eq 12, 3) := by decide +kernel
theorem dX12_isChannel_16 : decode cX12_isChannel 16 = .ok (.aload_n 0, 1) := by decide +kernel
theorem dX12_isChannel_17 : decode cX12_isChannel 17 = .ok (.getfield 119, 3) := by decide +kernel
theorem dX12_isChannel_20 : decode cX12_isChannel 20 = .ok (.iload_n 1, 1) := by decide +kernel
theorem dX12_isChannel_21 : decode cX12_isChannel 21 = .ok (.iaload, 1) := by decide +kernel
theorem dX12_isChannel_22 : decode cX12_isChannel 22 = .ok (.goto 9, 3) := by decide +kernel
theorem dX12_isChannel_25 : decode cX12_isChannel 25 = .ok (.aload_n 0, 1) := by decide +kernel
theorem dX12_isChannel_26 : decode cX12_isChannel 26 = .ok (.getfield 122, 3) := by decide +kernel
theorem dX12_isChannel_29 : decode cX12_isChannel 29 = .ok (.iload_n 1, 1) := by decide +kernel
theorem dX12_isChannel_30 : decode cX12_isChannel 30 = .ok (.iaload, 1) := by decide +kernel
theorem dX12_isChannel_31 : decode cX12_isChannel 31 = .ok (.aload_n 0, 1) := by decide +kernel
theorem dX12_isChannel_32 : decode cX12_isChannel 32 = .ok (.getfield 567, 3) := by decide +kernel
theorem dX12_isChannel_35 : decode cX12_isChannel 35 = .ok (.if_icmp .ne 7, 3) := by decide +kernel
theorem dX12_isChannel_38 : decode cX12_isChannel 38 = .ok (.iconst 1, 1) := by decide +kernel
theorem dX12_isChannel_39 : decode cX12_isChannel 39 = .ok (.goto 4, 3) := by decide +kernel
theorem dX12_isChannel_42 : decode cX12_isChannel 42 = .ok (.iconst 0, 1) := by decide +kernel
theorem dX12_isChannel_43 : decode cX12_isChannel 43 = .ok (.ireturn, 1) := by decide +kernel
theorem cc_isChannel : Cond.code yX12_isChannel cX12_isChannel 3 (some .boolean) ∈ rf_tb := rf_at 2171 (by decide +kernel) (by decide +kernel)
theorem cw_isChannel : rf_wV yX12_isChannel cX12_isChannel 3 (some .boolean) 635 2 := ⟨⟨rf_at 2168 (by decide +kernel) (by decide +kernel), rf_at 2170 (by decide +kernel) (by decide +kernel), rf_sel (q := (yX12_isChannel, 122)) 121 (by decide +kernel) (by decide +kernel), cc_isChannel⟩, rfl, by decide +kernel⟩
noncomputable def bq_isChannel_31 (v0 : Int32) (ρ : rf_S) : Option (Int32 × rf_S) := (if v0 = (ρ.1 0 118) then some ((1:Int32), ρ) else some ((0:Int32), ρ))
set_option maxHeartbeats 4000000 in
theorem wq_isChannel_31 (C : rf_C D p s m args meth c cX12_isChannel 3 (some .boolean)) {r : Int32} {v0 : Int32} {ρ ρ' : rf_S} {H : Heap} {locs : List Loc} {ls : Array Slot} (h : bq_isChannel_31 v0 ρ = some (r, ρ')) (G : rf_G D h0 s ρ H locs) (hl : lv_has ls 3 [(0, .ref h0)]) : W p l e ({ frames := 0, cells := 0, slots := 0, locals := 0 }) s m args below meth c H locs 0 0 (MQ below (rf_Q D h0 (some (.int r)) ρ') args s 0 0 (rf_A h0)) (F0 m 31 ls [.int v0]) := by
  unfold bq_isChannel_31 at h
  refine lv_aload_n C.1 C.2.1 dX12_isChannel_31 rfl (lv_at hl 0 rfl) ?_
  refine gf_118 C G dX12_isChannel_32 ?_
  refine lv_icmp_ne (tgt := 42) C.1 C.2.1 dX12_isChannel_35 (by decide) (fun hc => ?_) (fun hc => ?_)
  · rw [if_neg hc] at h
    refine lv_iconst (v := (0:Int32)) C.1 C.2.1 dX12_isChannel_42 (by decide) ?_
    exact rf_zret C G h rfl dX12_isChannel_43
  · rw [if_pos hc] at h
    refine lv_iconst (v := (1:Int32)) C.1 C.2.1 dX12_isChannel_38 (by decide) ?_
    refine lv_goto (tgt := 43) C.1 C.2.1 dX12_isChannel_39 (by decide) ?_
    exact rf_zret C G h rfl dX12_isChannel_43
noncomputable def bq_isChannel_0 (x1 : Int32) (x2 : Int32) (ρ : rf_S) : Option (Int32 × rf_S) := (if x1 < 0 then some ((0:Int32), ρ) else (if (ρ.1 0 60) ≤ x1 then some ((0:Int32), ρ) else (if x2 = 0 then ix x1 16 (bq_isChannel_31 (ρ.1 33 x1.toNatClampNeg) ρ) else ix x1 16 (bq_isChannel_31 (ρ.1 32 x1.toNatClampNeg) ρ))))
set_option maxHeartbeats 4000000 in
theorem wq_isChannel_0 (C : rf_C D p s m args meth c cX12_isChannel 3 (some .boolean)) {r : Int32} {x1 : Int32} {x2 : Int32} {ρ ρ' : rf_S} {H : Heap} {locs : List Loc} {ls : Array Slot} (h : bq_isChannel_0 x1 x2 ρ = some (r, ρ')) (G : rf_G D h0 s ρ H locs) (hl : lv_has ls 3 [(0, .ref h0), (1, .int x1), (2, .int x2)]) : W p l e ({ frames := 0, cells := 0, slots := 0, locals := 0 }) s m args below meth c H locs 0 0 (MQ below (rf_Q D h0 (some (.int r)) ρ') args s 0 0 (rf_A h0)) (F0 m 0 ls []) := by
  unfold bq_isChannel_0 at h
  refine lv_iload_n C.1 C.2.1 dX12_isChannel_0 rfl (lv_at hl 1 rfl) ?_
  refine lv_if_lt (tgt := 42) C.1 C.2.1 dX12_isChannel_1 (by decide) (fun hc => ?_) (fun hc => ?_)
  · rw [if_pos hc] at h
    refine lv_iconst (v := (0:Int32)) C.1 C.2.1 dX12_isChannel_42 (by decide) ?_
    exact rf_zret C G h rfl dX12_isChannel_43
  · rw [if_neg hc] at h
    refine lv_iload_n C.1 C.2.1 dX12_isChannel_4 rfl (lv_at hl 1 rfl) ?_
    refine lv_aload_n C.1 C.2.1 dX12_isChannel_5 rfl (lv_at hl 0 rfl) ?_
    refine gf_60 C G dX12_isChannel_6 ?_
    refine lv_icmp_ge (tgt := 42) C.1 C.2.1 dX12_isChannel_9 (by decide) (fun hc => ?_) (fun hc => ?_)
    · rw [if_pos hc] at h
      refine lv_iconst (v := (0:Int32)) C.1 C.2.1 dX12_isChannel_42 (by decide) ?_
      exact rf_zret C G h rfl dX12_isChannel_43
    · rw [if_neg hc] at h
      refine lv_iload_n C.1 C.2.1 dX12_isChannel_12 rfl (lv_at hl 2 rfl) ?_
      refine lv_if_eq (tgt := 25) C.1 C.2.1 dX12_isChannel_13 (by decide) (fun hc => ?_) (fun hc => ?_)
      · rw [if_pos hc] at h
        refine lv_aload_n C.1 C.2.1 dX12_isChannel_25 rfl (lv_at hl 0 rfl) ?_
        refine gf_62 C G dX12_isChannel_26 ?_
        refine lv_iload_n C.1 C.2.1 dX12_isChannel_29 rfl (lv_at hl 1 rfl) ?_
        obtain ⟨hi, h⟩ := ix_some h
        refine rf_iald C G 33 rfl (by decide) rfl rfl hi dX12_isChannel_30 ?_
        exact wq_isChannel_31 C h G (lv_sub hl [0] rfl)
      · rw [if_neg hc] at h
        refine lv_aload_n C.1 C.2.1 dX12_isChannel_16 rfl (lv_at hl 0 rfl) ?_
        refine gf_61 C G dX12_isChannel_17 ?_
        refine lv_iload_n C.1 C.2.1 dX12_isChannel_20 rfl (lv_at hl 1 rfl) ?_
        obtain ⟨hi, h⟩ := ix_some h
        refine rf_iald C G 32 rfl (by decide) rfl rfl hi dX12_isChannel_21 ?_
        refine lv_goto (tgt := 31) C.1 C.2.1 dX12_isChannel_22 (by decide) ?_
        exact wq_isChannel_31 C h G (lv_sub hl [0] rfl)
noncomputable def fq_isChannel (x1 : Int32) (x2 : Int32) (ρ : rf_S) : Option (Int32 × rf_S) := bq_isChannel_0 x1 x2 ρ
theorem kq_isChannel (l : Launch) (D : rf_D) (h0 : Nat) {r : Int32} {x1 : Int32} {x2 : Int32} {ρ ρ' : rf_S} (h : fq_isChannel x1 x2 ρ = some (r, ρ')) : rf_Met l D h0 yX12_isChannel cX12_isChannel 3 (some .boolean) 0 0 [.ref h0, .int x1, .int x2] ρ (some (.int r)) ρ' :=
  rf_of rfl cc_isChannel (Nat.le_of_ble_eq_true rfl) (fun p e s m args below meth c ls C G hl => wq_isChannel_0 C h G hl)
abbrev cX12_isIn : ByteArray := prog_14_method_80_code
def yX12_isIn : MethodName := ⟨RX12, "isIn", "(II)Z"⟩
theorem dX12_isIn_0 : decode cX12_isIn 0 = .ok (.iload_n 1, 1) := by decide +kernel
theorem dX12_isIn_1 : decode cX12_isIn 1 = .ok (.ifCond .lt 32, 3) := by decide +kernel
theorem dX12_isIn_4 : decode cX12_isIn 4 = .ok (.iload_n 1, 1) := by decide +kernel
theorem dX12_isIn_5 : decode cX12_isIn 5 = .ok (.iconst 4, 1) := by decide +kernel
theorem dX12_isIn_6 : decode cX12_isIn 6 = .ok (.irem, 1) := by decide +kernel
theorem dX12_isIn_7 : decode cX12_isIn 7 = .ok (.ifCond .ne 26, 3) := by decide +kernel
theorem dX12_isIn_10 : decode cX12_isIn 10 = .ok (.iload_n 1, 1) := by decide +kernel
theorem dX12_isIn_11 : decode cX12_isIn 11 = .ok (.iconst 4, 1) := by decide +kernel
theorem dX12_isIn_12 : decode cX12_isIn 12 = .ok (.aload_n 0, 1) := by decide +kernel
theorem dX12_isIn_13 : decode cX12_isIn 13 = .ok (.getfield 110, 3) := by decide +kernel
theorem dX12_isIn_16 : decode cX12_isIn 16 = .ok (.aload_n 0, 1) := by decide +kernel
theorem dX12_isIn_17 : decode cX12_isIn 17 = .ok (.getfield 567, 3) := by decide +kernel
theorem dX12_isIn_20 : decode cX12_isIn 20 = .ok (.iaload, 1) := by decide +kernel
theorem dX12_isIn_21 : decode cX12_isIn 21 = .ok (.imul, 1) := by decide +kernel
theorem dX12_isIn_22 : decode cX12_isIn 22 = .ok (.iconst 4, 1) := by decide +kernel
theorem dX12_isIn_23 : decode cX12_isIn 23 = .ok (.iload_n 2, 1) := by decide +kernel
theorem dX12_isIn_24 : decode cX12_isIn 24 = .ok (.imul, 1) := by decide +kernel
theorem dX12_isIn_25 : decode cX12_isIn 25 = .ok (.isub, 1) := by decide +kernel
theorem dX12_isIn_26 : decode cX12_isIn 26 = .ok (.if_icmp .gt 7, 3) := by decide +kernel
theorem dX12_isIn_29 : decode cX12_isIn 29 = .ok (.iconst 1, 1) := by decide +kernel
theorem dX12_isIn_30 : decode cX12_isIn 30 = .ok (.goto 4, 3) := by decide +kernel
theorem dX12_isIn_33 : decode cX12_isIn 33 = .ok (.iconst 0, 1) := by decide +kernel
theorem dX12_isIn_34 : decode cX12_isIn 34 = .ok (.ireturn, 1) := by decide +kernel
theorem cc_isIn : Cond.code yX12_isIn cX12_isIn 3 (some .boolean) ∈ rf_tb := rf_at 2175 (by decide +kernel) (by decide +kernel)
theorem cw_isIn : rf_wV yX12_isIn cX12_isIn 3 (some .boolean) 651 2 := ⟨⟨rf_at 2172 (by decide +kernel) (by decide +kernel), rf_at 2174 (by decide +kernel) (by decide +kernel), rf_sel (q := (yX12_isIn, 122)) 122 (by decide +kernel) (by decide +kernel), cc_isIn⟩, rfl, by decide +kernel⟩
noncomputable def bq_isIn_0 (x1 : Int32) (x2 : Int32) (ρ : rf_S) : Option (Int32 × rf_S) := (if x1 < 0 then some ((0:Int32), ρ) else (if (x1 - x1 / (4:Int32) * (4:Int32)) = 0 then ix (ρ.1 0 118) 8 ((if (((4:Int32) * (ρ.1 29 (ρ.1 0 118).toNatClampNeg)) - ((4:Int32) * x2)) < x1 then some ((0:Int32), ρ) else some ((1:Int32), ρ))) else some ((0:Int32), ρ)))
set_option maxHeartbeats 4000000 in
theorem wq_isIn_0 (C : rf_C D p s m args meth c cX12_isIn 3 (some .boolean)) {r : Int32} {x1 : Int32} {x2 : Int32} {ρ ρ' : rf_S} {H : Heap} {locs : List Loc} {ls : Array Slot} (h : bq_isIn_0 x1 x2 ρ = some (r, ρ')) (G : rf_G D h0 s ρ H locs) (hl : lv_has ls 3 [(0, .ref h0), (1, .int x1), (2, .int x2)]) : W p l e ({ frames := 0, cells := 0, slots := 0, locals := 0 }) s m args below meth c H locs 0 0 (MQ below (rf_Q D h0 (some (.int r)) ρ') args s 0 0 (rf_A h0)) (F0 m 0 ls []) := by
  unfold bq_isIn_0 at h
  refine lv_iload_n C.1 C.2.1 dX12_isIn_0 rfl (lv_at hl 1 rfl) ?_
  refine lv_if_lt (tgt := 33) C.1 C.2.1 dX12_isIn_1 (by decide) (fun hc => ?_) (fun hc => ?_)
  · rw [if_pos hc] at h
    refine lv_iconst (v := (0:Int32)) C.1 C.2.1 dX12_isIn_33 (by decide) ?_
    exact rf_zret C G h rfl dX12_isIn_34
  · rw [if_neg hc] at h
    refine lv_iload_n C.1 C.2.1 dX12_isIn_4 rfl (lv_at hl 1 rfl) ?_
    refine lv_iconst (v := (4:Int32)) C.1 C.2.1 dX12_isIn_5 (by decide) ?_
    refine lv_irem C.1 C.2.1 dX12_isIn_6 (by decide) ?_
    refine lv_if_ne (tgt := 33) C.1 C.2.1 dX12_isIn_7 (by decide) (fun hc => ?_) (fun hc => ?_)
    · rw [if_neg hc] at h
      refine lv_iconst (v := (0:Int32)) C.1 C.2.1 dX12_isIn_33 (by decide) ?_
      exact rf_zret C G h rfl dX12_isIn_34
    · rw [if_pos hc] at h
      refine lv_iload_n C.1 C.2.1 dX12_isIn_10 rfl (lv_at hl 1 rfl) ?_
      refine lv_iconst (v := (4:Int32)) C.1 C.2.1 dX12_isIn_11 (by decide) ?_
      refine lv_aload_n C.1 C.2.1 dX12_isIn_12 rfl (lv_at hl 0 rfl) ?_
      refine gf_57 C G dX12_isIn_13 ?_
      refine lv_aload_n C.1 C.2.1 dX12_isIn_16 rfl (lv_at hl 0 rfl) ?_
      refine gf_118 C G dX12_isIn_17 ?_
      obtain ⟨hi, h⟩ := ix_some h
      refine rf_iald C G 29 rfl (by decide) rfl rfl hi dX12_isIn_20 ?_
      refine lv_imul C.1 C.2.1 dX12_isIn_21 ?_
      refine lv_iconst (v := (4:Int32)) C.1 C.2.1 dX12_isIn_22 (by decide) ?_
      refine lv_iload_n C.1 C.2.1 dX12_isIn_23 rfl (lv_at hl 2 rfl) ?_
      refine lv_imul C.1 C.2.1 dX12_isIn_24 ?_
      refine lv_isub C.1 C.2.1 dX12_isIn_25 ?_
      refine lv_icmp_gt (tgt := 33) C.1 C.2.1 dX12_isIn_26 (by decide) (fun hc => ?_) (fun hc => ?_)
      · rw [if_pos hc] at h
        refine lv_iconst (v := (0:Int32)) C.1 C.2.1 dX12_isIn_33 (by decide) ?_
        exact rf_zret C G h rfl dX12_isIn_34
      · rw [if_neg hc] at h
        refine lv_iconst (v := (1:Int32)) C.1 C.2.1 dX12_isIn_29 (by decide) ?_
        refine lv_goto (tgt := 34) C.1 C.2.1 dX12_isIn_30 (by decide) ?_
        exact rf_zret C G h rfl dX12_isIn_34
noncomputable def fq_isIn (x1 : Int32) (x2 : Int32) (ρ : rf_S) : Option (Int32 × rf_S) := bq_isIn_0 x1 x2 ρ
theorem kq_isIn (l : Launch) (D : rf_D) (h0 : Nat) {r : Int32} {x1 : Int32} {x2 : Int32} {ρ ρ' : rf_S} (h : fq_isIn x1 x2 ρ = some (r, ρ')) : rf_Met l D h0 yX12_isIn cX12_isIn 3 (some .boolean) 0 0 [.ref h0, .int x1, .int x2] ρ (some (.int r)) ρ' :=
  rf_of rfl cc_isIn (Nat.le_of_ble_eq_true rfl) (fun p e s m args below meth c ls C G hl => wq_isIn_0 C h G hl)
end RQ9
