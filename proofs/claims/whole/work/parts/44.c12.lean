section CQ11
variable {p : Program} {l : Launch} {e : Env} {s : State} {m : MethodId} {args : Array Value} {below : List Frame} {meth : Method} {c : Code} {D : cl_D} {c0 : Nat}
abbrev cX5_runTicks : ByteArray := prog_7_method_8_code
def yX5_runTicks : MethodName := ⟨RX5, "runTicks", "(I)I"⟩
theorem dX5_runTicks_0 : decode cX5_runTicks 0 = .ok (.iconst 0, 1) := by decide +kernel
theorem dX5_runTicks_1 : decode cX5_runTicks 1 = .ok (.istore_n 2, 1) := by decide +kernel
theorem dX5_runTicks_2 : decode cX5_runTicks 2 = .ok (.iconst 0, 1) := by decide +kernel
theorem dX5_runTicks_3 : decode cX5_runTicks 3 = .ok (.istore_n 3, 1) := by decide +kernel
theorem dX5_runTicks_4 : decode cX5_runTicks 4 = .ok (.iload_n 3, 1) := by decide +kernel
theorem dX5_runTicks_5 : decode cX5_runTicks 5 = .ok (.iload_n 1, 1) := by decide +kernel
theorem dX5_runTicks_6 : decode cX5_runTicks 6 = .ok (.if_icmp .ge 169, 3) := by decide +kernel
theorem dX5_runTicks_9 : decode cX5_runTicks 9 = .ok (.iload_n 2, 1) := by decide +kernel
theorem dX5_runTicks_10 : decode cX5_runTicks 10 = .ok (.iload_n 1, 1) := by decide +kernel
theorem dX5_runTicks_11 : decode cX5_runTicks 11 = .ok (.if_icmp .ge 164, 3) := by decide +kernel
theorem dX5_runTicks_14 : decode cX5_runTicks 14 = .ok (.aload_n 0, 1) := by decide +kernel
theorem dX5_runTicks_15 : decode cX5_runTicks 15 = .ok (.getfield 133, 3) := by decide +kernel
theorem dX5_runTicks_18 : decode cX5_runTicks 18 = .ok (.ifCond .eq 157, 3) := by decide +kernel
theorem dX5_runTicks_21 : decode cX5_runTicks 21 = .ok (.aload_n 0, 1) := by decide +kernel
theorem dX5_runTicks_22 : decode cX5_runTicks 22 = .ok (.getfield 12, 3) := by decide +kernel
theorem dX5_runTicks_25 : decode cX5_runTicks 25 = .ok (.getfield 164, 3) := by decide +kernel
theorem dX5_runTicks_28 : decode cX5_runTicks 28 = .ok (.aload_n 0, 1) := by decide +kernel
theorem dX5_runTicks_29 : decode cX5_runTicks 29 = .ok (.getfield 92, 3) := by decide +kernel
theorem dX5_runTicks_32 : decode cX5_runTicks 32 = .ok (.iaload, 1) := by decide +kernel
theorem dX5_runTicks_33 : decode cX5_runTicks 33 = .ok (.istore 4, 2) := by decide +kernel
theorem dX5_runTicks_35 : decode cX5_runTicks 35 = .ok (.iload 4, 2) := by decide +kernel
theorem dX5_runTicks_37 : decode cX5_runTicks 37 = .ok (.aload_n 0, 1) := by decide +kernel
theorem dX5_runTicks_38 : decode cX5_runTicks 38 = .ok (.getfield 12, 3) := by decide +kernel
theorem dX5_runTicks_41 : decode cX5_runTicks 41 = .ok (.getfield 66, 3) := by decide +kernel
theorem dX5_runTicks_44 : decode cX5_runTicks 44 = .ok (.if_icmp .ge 26, 3) := by decide +kernel
theorem dX5_runTicks_47 : decode cX5_runTicks 47 = .ok (.aload_n 0, 1) := by decide +kernel
theorem dX5_runTicks_48 : decode cX5_runTicks 48 = .ok (.getfield 98, 3) := by decide +kernel
theorem dX5_runTicks_51 : decode cX5_runTicks 51 = .ok (.ifCond .ne 19, 3) := by decide +kernel
theorem dX5_runTicks_54 : decode cX5_runTicks 54 = .ok (.aload_n 0, 1) := by decide +kernel
theorem dX5_runTicks_55 : decode cX5_runTicks 55 = .ok (.getfield 20, 3) := by decide +kernel
theorem dX5_runTicks_58 : decode cX5_runTicks 58 = .ok (.iload 4, 2) := by decide +kernel
theorem dX5_runTicks_60 : decode cX5_runTicks 60 = .ok (.aaload, 1) := by decide +kernel
theorem dX5_runTicks_61 : decode cX5_runTicks 61 = .ok (.getfield 121, 3) := by decide +kernel
theorem dX5_runTicks_64 : decode cX5_runTicks 64 = .ok (.getfield 125, 3) := by decide +kernel
theorem dX5_runTicks_67 : decode cX5_runTicks 67 = .ok (.ifCond .eq 36, 3) := by decide +kernel
theorem dX5_runTicks_70 : decode cX5_runTicks 70 = .ok (.iload_n 2, 1) := by decide +kernel
theorem dX5_runTicks_71 : decode cX5_runTicks 71 = .ok (.aload_n 0, 1) := by decide +kernel
theorem dX5_runTicks_72 : decode cX5_runTicks 72 = .ok (.iload_n 1, 1) := by decide +kernel
theorem dX5_runTicks_73 : decode cX5_runTicks 73 = .ok (.iload_n 2, 1) := by decide +kernel
theorem dX5_runTicks_74 : decode cX5_runTicks 74 = .ok (.isub, 1) := by decide +kernel
theorem dX5_runTicks_75 : decode cX5_runTicks 75 = .ok (.aload_n 0, 1) := by decide +kernel
theorem dX5_runTicks_76 : decode cX5_runTicks 76 = .ok (.getfield 12, 3) := by decide +kernel
theorem dX5_runTicks_79 : decode cX5_runTicks 79 = .ok (.getfield 167, 3) := by decide +kernel
theorem dX5_runTicks_82 : decode cX5_runTicks 82 = .ok (.aload_n 0, 1) := by decide +kernel
theorem dX5_runTicks_83 : decode cX5_runTicks 83 = .ok (.getfield 92, 3) := by decide +kernel
theorem dX5_runTicks_86 : decode cX5_runTicks 86 = .ok (.iaload, 1) := by decide +kernel
theorem dX5_runTicks_87 : decode cX5_runTicks 87 = .ok (.aload_n 0, 1) := by decide +kernel
theorem dX5_runTicks_88 : decode cX5_runTicks 88 = .ok (.getfield 95, 3) := by decide +kernel
theorem dX5_runTicks_91 : decode cX5_runTicks 91 = .ok (.isub, 1) := by decide +kernel
theorem dX5_runTicks_92 : decode cX5_runTicks 92 = .ok (.invokestatic 170, 3) := by decide +kernel
theorem dX5_runTicks_95 : decode cX5_runTicks 95 = .ok (.invokevirtual 175, 3) := by decide +kernel
theorem dX5_runTicks_98 : decode cX5_runTicks 98 = .ok (.iadd, 1) := by decide +kernel
theorem dX5_runTicks_99 : decode cX5_runTicks 99 = .ok (.istore_n 2, 1) := by decide +kernel
theorem dX5_runTicks_100 : decode cX5_runTicks 100 = .ok (.goto 69, 3) := by decide +kernel
theorem dX5_runTicks_103 : decode cX5_runTicks 103 = .ok (.aload_n 0, 1) := by decide +kernel
theorem dX5_runTicks_104 : decode cX5_runTicks 104 = .ok (.getfield 20, 3) := by decide +kernel
theorem dX5_runTicks_107 : decode cX5_runTicks 107 = .ok (.iload 4, 2) := by decide +kernel
theorem dX5_runTicks_109 : decode cX5_runTicks 109 = .ok (.aaload, 1) := by decide +kernel
theorem dX5_runTicks_110 : decode cX5_runTicks 110 = .ok (.getfield 121, 3) := by decide +kernel
theorem dX5_runTicks_113 : decode cX5_runTicks 113 = .ok (.invokevirtual 178, 3) := by decide +kernel
theorem dX5_runTicks_116 : decode cX5_runTicks 116 = .ok (.istore 5, 2) := by decide +kernel
theorem dX5_runTicks_118 : decode cX5_runTicks 118 = .ok (.iload 5, 2) := by decide +kernel
theorem dX5_runTicks_120 : decode cX5_runTicks 120 = .ok (.ifCond .lt 30, 3) := by decide +kernel
theorem dX5_runTicks_123 : decode cX5_runTicks 123 = .ok (.aload_n 0, 1) := by decide +kernel
theorem dX5_runTicks_124 : decode cX5_runTicks 124 = .ok (.aload_n 0, 1) := by decide +kernel
theorem dX5_runTicks_125 : decode cX5_runTicks 125 = .ok (.getfield 20, 3) := by decide +kernel
theorem dX5_runTicks_128 : decode cX5_runTicks 128 = .ok (.iload 4, 2) := by decide +kernel
theorem dX5_runTicks_130 : decode cX5_runTicks 130 = .ok (.aaload, 1) := by decide +kernel
theorem dX5_runTicks_131 : decode cX5_runTicks 131 = .ok (.getfield 121, 3) := by decide +kernel
theorem dX5_runTicks_134 : decode cX5_runTicks 134 = .ok (.aload_n 0, 1) := by decide +kernel
theorem dX5_runTicks_135 : decode cX5_runTicks 135 = .ok (.aload_n 0, 1) := by decide +kernel
theorem dX5_runTicks_136 : decode cX5_runTicks 136 = .ok (.getfield 20, 3) := by decide +kernel
theorem dX5_runTicks_139 : decode cX5_runTicks 139 = .ok (.iload 4, 2) := by decide +kernel
theorem dX5_runTicks_141 : decode cX5_runTicks 141 = .ok (.aaload, 1) := by decide +kernel
theorem dX5_runTicks_142 : decode cX5_runTicks 142 = .ok (.iload 5, 2) := by decide +kernel
theorem dX5_runTicks_144 : decode cX5_runTicks 144 = .ok (.invokevirtual 182, 3) := by decide +kernel
theorem dX5_runTicks_147 : decode cX5_runTicks 147 = .ok (.invokevirtual 186, 3) := by decide +kernel
theorem dX5_runTicks_150 : decode cX5_runTicks 150 = .ok (.iload_n 2, 1) := by decide +kernel
theorem dX5_runTicks_151 : decode cX5_runTicks 151 = .ok (.aload_n 0, 1) := by decide +kernel
theorem dX5_runTicks_152 : decode cX5_runTicks 152 = .ok (.getfield 133, 3) := by decide +kernel
theorem dX5_runTicks_155 : decode cX5_runTicks 155 = .ok (.ifCond .eq 11, 3) := by decide +kernel
theorem dX5_runTicks_158 : decode cX5_runTicks 158 = .ok (.aload_n 0, 1) := by decide +kernel
theorem dX5_runTicks_159 : decode cX5_runTicks 159 = .ok (.iconst 1, 1) := by decide +kernel
theorem dX5_runTicks_160 : decode cX5_runTicks 160 = .ok (.invokevirtual 175, 3) := by decide +kernel
theorem dX5_runTicks_163 : decode cX5_runTicks 163 = .ok (.goto 4, 3) := by decide +kernel
theorem dX5_runTicks_166 : decode cX5_runTicks 166 = .ok (.iconst 0, 1) := by decide +kernel
theorem dX5_runTicks_167 : decode cX5_runTicks 167 = .ok (.iadd, 1) := by decide +kernel
theorem dX5_runTicks_168 : decode cX5_runTicks 168 = .ok (.istore_n 2, 1) := by decide +kernel
theorem dX5_runTicks_169 : decode cX5_runTicks 169 = .ok (.iinc 3 1, 3) := by decide +kernel
theorem dX5_runTicks_172 : decode cX5_runTicks 172 = .ok (.goto (-168), 3) := by decide +kernel
theorem dX5_runTicks_175 : decode cX5_runTicks 175 = .ok (.iload_n 2, 1) := by decide +kernel
theorem dX5_runTicks_176 : decode cX5_runTicks 176 = .ok (.ireturn, 1) := by decide +kernel
theorem cc_X5_runTicks : Cond.code yX5_runTicks cX5_runTicks 6 (some .int) ∈ rf_tb := rf_at 1107 (by decide +kernel) (by decide +kernel)
theorem cw_RX5_175 : cl_wV RX5 RX5 yX5_pass cX5_pass 2 (some .int) 175 1 := ⟨⟨rf_at 1109 (by decide +kernel) (by decide +kernel), rf_at 1111 (by decide +kernel) (by decide +kernel), rf_sel (q := (yX5_pass, 20)) 35 (by decide +kernel) (by decide +kernel), cc_X5_pass, rf_at 13 (by decide +kernel) (by decide +kernel)⟩, ⟨by decide, by decide, by decide +kernel⟩⟩
theorem cw_RX5_178 : cl_wV RX5 RX2 yX2_step cX2_step 5 (some .int) 178 0 := ⟨⟨rf_at 1113 (by decide +kernel) (by decide +kernel), rf_at 1114 (by decide +kernel) (by decide +kernel), rf_at 1115 (by decide +kernel) (by decide +kernel), cc_X2_step, rf_at 16 (by decide +kernel) (by decide +kernel)⟩, ⟨by decide, by decide, by decide +kernel⟩⟩
theorem cw_RX5_182 : cl_wV RX5 RX5 yX5_answer cX5_answer 5 (some .int) 182 2 := ⟨⟨rf_at 1155 (by decide +kernel) (by decide +kernel), rf_at 1157 (by decide +kernel) (by decide +kernel), rf_sel (q := (yX5_answer, 20)) 41 (by decide +kernel) (by decide +kernel), cc_X5_answer, rf_at 13 (by decide +kernel) (by decide +kernel)⟩, ⟨by decide, by decide, by decide +kernel⟩⟩
theorem cw_RX5_186 : cl_wV RX5 RX5 yX5_endAsk cX5_endAsk 3 none 186 2 := ⟨⟨rf_at 1326 (by decide +kernel) (by decide +kernel), rf_at 1328 (by decide +kernel) (by decide +kernel), rf_sel (q := (yX5_endAsk, 20)) 65 (by decide +kernel) (by decide +kernel), cc_X5_endAsk, rf_at 13 (by decide +kernel) (by decide +kernel)⟩, ⟨by decide, by decide, by decide +kernel⟩⟩
theorem mw_RX5_170 : Cond.methodLink RX5 170 Lib.Math.min.name ∈ rf_tb := rf_at 1108 (by decide +kernel) (by decide +kernel)
noncomputable def bc_X5_runTicks_169i4 (a : Nat) (x1 : Int32) (x2 : Int32) (x3 : Int32) (σ : cl_S) : Option ((Int32 × Int32 × cl_S) ⊕ (Int32 × Int32 × cl_S)) := vl (x3 + (1:Int32)) (fun x3_40 => some (.inl (x2, x3_40, σ)))
set_option maxHeartbeats 4000000 in
theorem wc_X5_runTicks_169i4 (C : cl_C D p s m args meth c cX5_runTicks 6 (some .int) RX5) {r : Int32} {a : Nat} {x1 : Int32} {x2 : Int32} {x3 : Int32} {σ0 σ σ' : cl_S} {T : Nat → Nat × Nat} {H : Heap} {locs : List Loc} {ls : Array Slot} {cells slots : Nat} {o : (Int32 × Int32 × cl_S) ⊕ (Int32 × Int32 × cl_S)} (h : bc_X5_runTicks_169i4 a x1 x2 x3 σ = some o) (hP : Sum.elim (fun z : (Int32 × Int32 × cl_S) => ∀ (T : Nat → Nat × Nat) (H : Heap) (locs : List Loc) (ls : Array Slot) (cells slots : Nat), cl_G true D c0 ({ frames := 6, cells := σ0.2.2.2.2.2.1, slots := σ0.2.2.2.2.2.2, locals := 148 }) s σ0.2.2.2.1 T z.2.2 H locs cells slots → (T a).1 = 21 → lv_has ls 6 [(0, .ref (c0 + a)), (1, .int x1), (2, .int (z.1)), (3, .int (z.2.1))] → W p l e ({ frames := 6, cells := σ0.2.2.2.2.2.1, slots := σ0.2.2.2.2.2.2, locals := 148 }) s m args below meth c H locs cells slots (MQ below (cl_Q true D c0 (some (.int r)) cl_no σ0 σ') args s (σ0.2.2.2.2.2.1 - σ'.2.2.2.2.2.1) (σ0.2.2.2.2.2.2 - σ'.2.2.2.2.2.2) (cl_A c0 σ0.2.2.2.1 s.heap.size)) (F0 m 4 ls [])) (fun z : (Int32 × Int32 × cl_S) => ∀ (T : Nat → Nat × Nat) (H : Heap) (locs : List Loc) (ls : Array Slot) (cells slots : Nat), cl_G true D c0 ({ frames := 6, cells := σ0.2.2.2.2.2.1, slots := σ0.2.2.2.2.2.2, locals := 148 }) s σ0.2.2.2.1 T z.2.2 H locs cells slots → (T a).1 = 21 → lv_has ls 6 [(0, .ref (c0 + a)), (1, .int x1), (2, .int (z.1)), (3, .int (z.2.1))] → W p l e ({ frames := 6, cells := σ0.2.2.2.2.2.1, slots := σ0.2.2.2.2.2.2, locals := 148 }) s m args below meth c H locs cells slots (MQ below (cl_Q true D c0 (some (.int r)) cl_no σ0 σ') args s (σ0.2.2.2.2.2.1 - σ'.2.2.2.2.2.1) (σ0.2.2.2.2.2.2 - σ'.2.2.2.2.2.2) (cl_A c0 σ0.2.2.2.1 s.heap.size)) (F0 m 175 ls [])) o) (G : cl_G true D c0 ({ frames := 6, cells := σ0.2.2.2.2.2.1, slots := σ0.2.2.2.2.2.2, locals := 148 }) s σ0.2.2.2.1 T σ H locs cells slots) (ha : (T a).1 = 21) (hl : lv_has ls 6 [(0, .ref (c0 + a)), (1, .int x1), (2, .int x2), (3, .int x3)]) : W p l e ({ frames := 6, cells := σ0.2.2.2.2.2.1, slots := σ0.2.2.2.2.2.2, locals := 148 }) s m args below meth c H locs cells slots (MQ below (cl_Q true D c0 (some (.int r)) cl_no σ0 σ') args s (σ0.2.2.2.2.2.1 - σ'.2.2.2.2.2.1) (σ0.2.2.2.2.2.2 - σ'.2.2.2.2.2.2) (cl_A c0 σ0.2.2.2.1 s.heap.size)) (F0 m 169 ls []) := by
  unfold bc_X5_runTicks_169i4 at h
  refine vl_ex h (fun x3_40 ey h_41 => ?_)
  refine lv_iinc (v := x3_40) (lv' := [(3, .int x3_40), (0, .ref (c0 + a)), (1, .int x1), (2, .int x2)]) C.1 C.2.1 dX5_runTicks_169 hl (k := 3) rfl (by rw [ey]; rfl) (by decide) rfl (fun ls hl_42 => ?_)
  refine lv_goto (tgt := 4) C.1 C.2.1 dX5_runTicks_172 (by decide) ?_
  cases h_41
  exact hP _ _ _ _ _ _ G ha (lv_sub hl_42 [1, 2, 3, 0] rfl)
noncomputable def bc_X5_runTicks_70i4 (a : Nat) (x1 : Int32) (x2 : Int32) (x3 : Int32) (σ : cl_S) : Option ((Int32 × Int32 × cl_S) ⊕ (Int32 × Int32 × cl_S)) := vl (σ.2.2.1 a 3) (fun r_23 => nn r_23 (fun a_26 => ix (σ.1 a 10) 32 (bd2 (fc_X5_pass a (if ((σ.1 (a_26 + 9) (σ.1 a 10).toNatClampNeg) - (σ.1 a 11)) < (x1 - x2) then ((σ.1 (a_26 + 9) (σ.1 a 10).toNatClampNeg) - (σ.1 a 11)) else (x1 - x2)) σ) (fun r_32 σ_31 => vl (x2 + r_32) (fun x2_37 => bc_X5_runTicks_169i4 a x1 x2_37 x3 σ_31)))))
set_option maxHeartbeats 4000000 in
theorem wc_X5_runTicks_70i4 (C : cl_C D p s m args meth c cX5_runTicks 6 (some .int) RX5) {r : Int32} {a : Nat} {x1 : Int32} {x2 : Int32} {x3 : Int32} {σ0 σ σ' : cl_S} {T : Nat → Nat × Nat} {H : Heap} {locs : List Loc} {ls : Array Slot} {cells slots : Nat} {o : (Int32 × Int32 × cl_S) ⊕ (Int32 × Int32 × cl_S)} (h : bc_X5_runTicks_70i4 a x1 x2 x3 σ = some o) (hP : Sum.elim (fun z : (Int32 × Int32 × cl_S) => ∀ (T : Nat → Nat × Nat) (H : Heap) (locs : List Loc) (ls : Array Slot) (cells slots : Nat), cl_G true D c0 ({ frames := 6, cells := σ0.2.2.2.2.2.1, slots := σ0.2.2.2.2.2.2, locals := 148 }) s σ0.2.2.2.1 T z.2.2 H locs cells slots → (T a).1 = 21 → lv_has ls 6 [(0, .ref (c0 + a)), (1, .int x1), (2, .int (z.1)), (3, .int (z.2.1))] → W p l e ({ frames := 6, cells := σ0.2.2.2.2.2.1, slots := σ0.2.2.2.2.2.2, locals := 148 }) s m args below meth c H locs cells slots (MQ below (cl_Q true D c0 (some (.int r)) cl_no σ0 σ') args s (σ0.2.2.2.2.2.1 - σ'.2.2.2.2.2.1) (σ0.2.2.2.2.2.2 - σ'.2.2.2.2.2.2) (cl_A c0 σ0.2.2.2.1 s.heap.size)) (F0 m 4 ls [])) (fun z : (Int32 × Int32 × cl_S) => ∀ (T : Nat → Nat × Nat) (H : Heap) (locs : List Loc) (ls : Array Slot) (cells slots : Nat), cl_G true D c0 ({ frames := 6, cells := σ0.2.2.2.2.2.1, slots := σ0.2.2.2.2.2.2, locals := 148 }) s σ0.2.2.2.1 T z.2.2 H locs cells slots → (T a).1 = 21 → lv_has ls 6 [(0, .ref (c0 + a)), (1, .int x1), (2, .int (z.1)), (3, .int (z.2.1))] → W p l e ({ frames := 6, cells := σ0.2.2.2.2.2.1, slots := σ0.2.2.2.2.2.2, locals := 148 }) s m args below meth c H locs cells slots (MQ below (cl_Q true D c0 (some (.int r)) cl_no σ0 σ') args s (σ0.2.2.2.2.2.1 - σ'.2.2.2.2.2.1) (σ0.2.2.2.2.2.2 - σ'.2.2.2.2.2.2) (cl_A c0 σ0.2.2.2.1 s.heap.size)) (F0 m 175 ls [])) o) (G : cl_G true D c0 ({ frames := 6, cells := σ0.2.2.2.2.2.1, slots := σ0.2.2.2.2.2.2, locals := 148 }) s σ0.2.2.2.1 T σ H locs cells slots) (ha : (T a).1 = 21) (hl : lv_has ls 6 [(0, .ref (c0 + a)), (1, .int x1), (2, .int x2), (3, .int x3)]) : W p l e ({ frames := 6, cells := σ0.2.2.2.2.2.1, slots := σ0.2.2.2.2.2.2, locals := 148 }) s m args below meth c H locs cells slots (MQ below (cl_Q true D c0 (some (.int r)) cl_no σ0 σ') args s (σ0.2.2.2.2.2.1 - σ'.2.2.2.2.2.1) (σ0.2.2.2.2.2.2 - σ'.2.2.2.2.2.2) (cl_A c0 σ0.2.2.2.1 s.heap.size)) (F0 m 70 ls []) := by
  unfold bc_X5_runTicks_70i4 at h
  refine lv_iload_n C.1 C.2.1 dX5_runTicks_70 rfl (lv_at hl 2 rfl) ?_
  refine lv_aload_n C.1 C.2.1 dX5_runTicks_71 rfl (lv_at hl 0 rfl) ?_
  refine lv_iload_n C.1 C.2.1 dX5_runTicks_72 rfl (lv_at hl 1 rfl) ?_
  refine lv_iload_n C.1 C.2.1 dX5_runTicks_73 rfl (lv_at hl 2 rfl) ?_
  refine lv_isub C.1 C.2.1 dX5_runTicks_74 ?_
  refine lv_aload_n C.1 C.2.1 dX5_runTicks_75 rfl (lv_at hl 0 rfl) ?_
  refine cg_5_12 C G ha dX5_runTicks_76 (fun t_22 => ?_)
  refine vt_r (K := 17) t_22 h (fun r_23 t_24 h_25 => ?_)
  obtain ⟨a_26, rfl, h_28⟩ := nn_some h_25
  have t_27 := t_24 _ rfl
  refine cg_5_167 C G t_27 dX5_runTicks_79 (fun t_29 => ?_)
  refine lv_aload_n C.1 C.2.1 dX5_runTicks_82 rfl (lv_at hl 0 rfl) ?_
  refine cg_5_92 C G ha dX5_runTicks_83 ?_
  obtain ⟨hi, h_30⟩ := ix_some h_28
  refine cl_iald C G t_29 hi dX5_runTicks_86 ?_
  refine lv_aload_n C.1 C.2.1 dX5_runTicks_87 rfl (lv_at hl 0 rfl) ?_
  refine cg_5_95 C G ha dX5_runTicks_88 ?_
  refine lv_isub C.1 C.2.1 dX5_runTicks_91 ?_
  refine va_mmin C.1 C.2.1 (C.2.2.1.trans hl.1.symm) C.2.2.2.1 (C.2.2.2.2.1 _ mw_RX5_170) (C.2.2.2.2.1 _ mw_min_s) (C.2.2.2.2.1 _ mw_Math_i) (C.2.2.2.2.1 _ mw_min_c) (Nat.le_of_ble_eq_true rfl) (Nat.le_of_ble_eq_true rfl) (cl_le1 G) (cl_le2 G) dX5_runTicks_92 ?_
  obtain ⟨r_32, σ_31, hq, h_33⟩ := bd2_some h_30
  refine cl_callV (ci := 5) (rest := [.int x2]) C G rfl ha cw_RX5_175 [.int (if ((σ.1 (a_26 + 9) (σ.1 a 10).toNatClampNeg) - (σ.1 a 11)) < (x1 - x2) then ((σ.1 (a_26 + 9) (σ.1 a 10).toNatClampNeg) - (σ.1 a 11)) else (x1 - x2))] _ (kc_X5_pass l D c0 (by rw [G.1]; exact ha) hq) (Nat.le_of_ble_eq_true rfl) (Nat.le_of_ble_eq_true rfl) rfl rfl hl.1 (Nat.le_of_ble_eq_true rfl) dX5_runTicks_95 (fun T_34 H locs cells slots t_35 hu G_36 => ?_)
  have ha := hu.kind ha (by decide)
  refine W.eq (g2 := F0 m 98 ls [.int r_32, .int x2]) rfl ?_
  refine lv_iadd C.1 C.2.1 dX5_runTicks_98 ?_
  refine vt_i h_33 (fun x2_37 h_38 => ?_)
  refine lv_istore_n (lv' := [(2, .int x2_37), (0, .ref (c0 + a)), (1, .int x1), (3, .int x3)]) C.1 C.2.1 dX5_runTicks_99 rfl hl (by decide) rfl (fun ls hl_39 => ?_)
  refine lv_goto (tgt := 169) C.1 C.2.1 dX5_runTicks_100 (by decide) ?_
  exact wc_X5_runTicks_169i4 C h_38 hP G_36 ha (lv_sub hl_39 [1, 2, 0, 3] rfl)
noncomputable def bc_X5_runTicks_167i4 (a : Nat) (x1 : Int32) (x3 : Int32) (v0 : Int32) (v1 : Int32) (σ : cl_S) : Option ((Int32 × Int32 × cl_S) ⊕ (Int32 × Int32 × cl_S)) := vl (v0 + v1) (fun x2_70 => bc_X5_runTicks_169i4 a x1 x2_70 x3 σ)
set_option maxHeartbeats 4000000 in
theorem wc_X5_runTicks_167i4 (C : cl_C D p s m args meth c cX5_runTicks 6 (some .int) RX5) {r : Int32} {a : Nat} {x1 : Int32} {x3 : Int32} {v0 : Int32} {v1 : Int32} {σ0 σ σ' : cl_S} {T : Nat → Nat × Nat} {H : Heap} {locs : List Loc} {ls : Array Slot} {cells slots : Nat} {o : (Int32 × Int32 × cl_S) ⊕ (Int32 × Int32 × cl_S)} (h : bc_X5_runTicks_167i4 a x1 x3 v0 v1 σ = some o) (hP : Sum.elim (fun z : (Int32 × Int32 × cl_S) => ∀ (T : Nat → Nat × Nat) (H : Heap) (locs : List Loc) (ls : Array Slot) (cells slots : Nat), cl_G true D c0 ({ frames := 6, cells := σ0.2.2.2.2.2.1, slots := σ0.2.2.2.2.2.2, locals := 148 }) s σ0.2.2.2.1 T z.2.2 H locs cells slots → (T a).1 = 21 → lv_has ls 6 [(0, .ref (c0 + a)), (1, .int x1), (2, .int (z.1)), (3, .int (z.2.1))] → W p l e ({ frames := 6, cells := σ0.2.2.2.2.2.1, slots := σ0.2.2.2.2.2.2, locals := 148 }) s m args below meth c H locs cells slots (MQ below (cl_Q true D c0 (some (.int r)) cl_no σ0 σ') args s (σ0.2.2.2.2.2.1 - σ'.2.2.2.2.2.1) (σ0.2.2.2.2.2.2 - σ'.2.2.2.2.2.2) (cl_A c0 σ0.2.2.2.1 s.heap.size)) (F0 m 4 ls [])) (fun z : (Int32 × Int32 × cl_S) => ∀ (T : Nat → Nat × Nat) (H : Heap) (locs : List Loc) (ls : Array Slot) (cells slots : Nat), cl_G true D c0 ({ frames := 6, cells := σ0.2.2.2.2.2.1, slots := σ0.2.2.2.2.2.2, locals := 148 }) s σ0.2.2.2.1 T z.2.2 H locs cells slots → (T a).1 = 21 → lv_has ls 6 [(0, .ref (c0 + a)), (1, .int x1), (2, .int (z.1)), (3, .int (z.2.1))] → W p l e ({ frames := 6, cells := σ0.2.2.2.2.2.1, slots := σ0.2.2.2.2.2.2, locals := 148 }) s m args below meth c H locs cells slots (MQ below (cl_Q true D c0 (some (.int r)) cl_no σ0 σ') args s (σ0.2.2.2.2.2.1 - σ'.2.2.2.2.2.1) (σ0.2.2.2.2.2.2 - σ'.2.2.2.2.2.2) (cl_A c0 σ0.2.2.2.1 s.heap.size)) (F0 m 175 ls [])) o) (G : cl_G true D c0 ({ frames := 6, cells := σ0.2.2.2.2.2.1, slots := σ0.2.2.2.2.2.2, locals := 148 }) s σ0.2.2.2.1 T σ H locs cells slots) (ha : (T a).1 = 21) (hl : lv_has ls 6 [(0, .ref (c0 + a)), (1, .int x1), (3, .int x3)]) : W p l e ({ frames := 6, cells := σ0.2.2.2.2.2.1, slots := σ0.2.2.2.2.2.2, locals := 148 }) s m args below meth c H locs cells slots (MQ below (cl_Q true D c0 (some (.int r)) cl_no σ0 σ') args s (σ0.2.2.2.2.2.1 - σ'.2.2.2.2.2.1) (σ0.2.2.2.2.2.2 - σ'.2.2.2.2.2.2) (cl_A c0 σ0.2.2.2.1 s.heap.size)) (F0 m 167 ls [.int v1, .int v0]) := by
  unfold bc_X5_runTicks_167i4 at h
  refine lv_iadd C.1 C.2.1 dX5_runTicks_167 ?_
  refine vt_i h (fun x2_70 h_71 => ?_)
  refine lv_istore_n (lv' := [(2, .int x2_70), (0, .ref (c0 + a)), (1, .int x1), (3, .int x3)]) C.1 C.2.1 dX5_runTicks_168 rfl hl (by decide) rfl (fun ls hl_72 => ?_)
  exact wc_X5_runTicks_169i4 C h_71 hP G ha (lv_sub hl_72 [1, 2, 0, 3] rfl)
noncomputable def bc_X5_runTicks_150i4 (a : Nat) (x1 : Int32) (x2 : Int32) (x3 : Int32) (σ : cl_S) : Option ((Int32 × Int32 × cl_S) ⊕ (Int32 × Int32 × cl_S)) := (if (σ.1 a 8) = 0 then bc_X5_runTicks_167i4 a x1 x3 x2 (0:Int32) σ else bd2 (fc_X5_pass a (1:Int32) σ) (fun r_74 σ_73 => bc_X5_runTicks_167i4 a x1 x3 x2 r_74 σ_73))
set_option maxHeartbeats 4000000 in
theorem wc_X5_runTicks_150i4 (C : cl_C D p s m args meth c cX5_runTicks 6 (some .int) RX5) {r : Int32} {a : Nat} {x1 : Int32} {x2 : Int32} {x3 : Int32} {σ0 σ σ' : cl_S} {T : Nat → Nat × Nat} {H : Heap} {locs : List Loc} {ls : Array Slot} {cells slots : Nat} {o : (Int32 × Int32 × cl_S) ⊕ (Int32 × Int32 × cl_S)} (h : bc_X5_runTicks_150i4 a x1 x2 x3 σ = some o) (hP : Sum.elim (fun z : (Int32 × Int32 × cl_S) => ∀ (T : Nat → Nat × Nat) (H : Heap) (locs : List Loc) (ls : Array Slot) (cells slots : Nat), cl_G true D c0 ({ frames := 6, cells := σ0.2.2.2.2.2.1, slots := σ0.2.2.2.2.2.2, locals := 148 }) s σ0.2.2.2.1 T z.2.2 H locs cells slots → (T a).1 = 21 → lv_has ls 6 [(0, .ref (c0 + a)), (1, .int x1), (2, .int (z.1)), (3, .int (z.2.1))] → W p l e ({ frames := 6, cells := σ0.2.2.2.2.2.1, slots := σ0.2.2.2.2.2.2, locals := 148 }) s m args below meth c H locs cells slots (MQ below (cl_Q true D c0 (some (.int r)) cl_no σ0 σ') args s (σ0.2.2.2.2.2.1 - σ'.2.2.2.2.2.1) (σ0.2.2.2.2.2.2 - σ'.2.2.2.2.2.2) (cl_A c0 σ0.2.2.2.1 s.heap.size)) (F0 m 4 ls [])) (fun z : (Int32 × Int32 × cl_S) => ∀ (T : Nat → Nat × Nat) (H : Heap) (locs : List Loc) (ls : Array Slot) (cells slots : Nat), cl_G true D c0 ({ frames := 6, cells := σ0.2.2.2.2.2.1, slots := σ0.2.2.2.2.2.2, locals := 148 }) s σ0.2.2.2.1 T z.2.2 H locs cells slots → (T a).1 = 21 → lv_has ls 6 [(0, .ref (c0 + a)), (1, .int x1), (2, .int (z.1)), (3, .int (z.2.1))] → W p l e ({ frames := 6, cells := σ0.2.2.2.2.2.1, slots := σ0.2.2.2.2.2.2, locals := 148 }) s m args below meth c H locs cells slots (MQ below (cl_Q true D c0 (some (.int r)) cl_no σ0 σ') args s (σ0.2.2.2.2.2.1 - σ'.2.2.2.2.2.1) (σ0.2.2.2.2.2.2 - σ'.2.2.2.2.2.2) (cl_A c0 σ0.2.2.2.1 s.heap.size)) (F0 m 175 ls [])) o) (G : cl_G true D c0 ({ frames := 6, cells := σ0.2.2.2.2.2.1, slots := σ0.2.2.2.2.2.2, locals := 148 }) s σ0.2.2.2.1 T σ H locs cells slots) (ha : (T a).1 = 21) (hl : lv_has ls 6 [(0, .ref (c0 + a)), (1, .int x1), (2, .int x2), (3, .int x3)]) : W p l e ({ frames := 6, cells := σ0.2.2.2.2.2.1, slots := σ0.2.2.2.2.2.2, locals := 148 }) s m args below meth c H locs cells slots (MQ below (cl_Q true D c0 (some (.int r)) cl_no σ0 σ') args s (σ0.2.2.2.2.2.1 - σ'.2.2.2.2.2.1) (σ0.2.2.2.2.2.2 - σ'.2.2.2.2.2.2) (cl_A c0 σ0.2.2.2.1 s.heap.size)) (F0 m 150 ls []) := by
  unfold bc_X5_runTicks_150i4 at h
  refine lv_iload_n C.1 C.2.1 dX5_runTicks_150 rfl (lv_at hl 2 rfl) ?_
  refine lv_aload_n C.1 C.2.1 dX5_runTicks_151 rfl (lv_at hl 0 rfl) ?_
  refine cg_5_133 C G ha dX5_runTicks_152 ?_
  refine lv_if_eq (tgt := 166) C.1 C.2.1 dX5_runTicks_155 (by decide) (fun hc => ?_) (fun hc => ?_)
  · rw [if_pos hc] at h
    refine lv_iconst (v := (0:Int32)) C.1 C.2.1 dX5_runTicks_166 (by decide) ?_
    exact wc_X5_runTicks_167i4 C h hP G ha (lv_sub hl [0, 1, 3] rfl)
  · rw [if_neg hc] at h
    refine lv_aload_n C.1 C.2.1 dX5_runTicks_158 rfl (lv_at hl 0 rfl) ?_
    refine lv_iconst (v := (1:Int32)) C.1 C.2.1 dX5_runTicks_159 (by decide) ?_
    obtain ⟨r_74, σ_73, hq, h_75⟩ := bd2_some h
    refine cl_callV (ci := 5) (rest := [.int x2]) C G rfl ha cw_RX5_175 [.int (1:Int32)] _ (kc_X5_pass l D c0 (by rw [G.1]; exact ha) hq) (Nat.le_of_ble_eq_true rfl) (Nat.le_of_ble_eq_true rfl) rfl rfl hl.1 (Nat.le_of_ble_eq_true rfl) dX5_runTicks_160 (fun T_76 H locs cells slots t_77 hu G_78 => ?_)
    have ha := hu.kind ha (by decide)
    refine W.eq (g2 := F0 m 163 ls [.int r_74, .int x2]) rfl ?_
    refine lv_goto (tgt := 167) C.1 C.2.1 dX5_runTicks_163 (by decide) ?_
    exact wc_X5_runTicks_167i4 C h_75 hP G_78 ha (lv_sub hl [0, 1, 3] rfl)
noncomputable def lc_X5_runTicks_4 (a : Nat) (x1 : Int32) (x2 : Int32) (x3 : Int32) (σ : cl_S) : Option ((Int32 × Int32 × cl_S) ⊕ (Int32 × Int32 × cl_S)) := (if x1 ≤ x3 then some (.inr (x2, x3, σ)) else (if x1 ≤ x2 then some (.inr (x2, x3, σ)) else (if (σ.1 a 8) = 0 then some (.inr (x2, x3, σ)) else vl (σ.2.2.1 a 3) (fun r_4 => nn r_4 (fun a_7 => ix (σ.1 a 10) 32 (vl (σ.1 (a_7 + 8) (σ.1 a 10).toNatClampNeg) (fun x4_12 => vl (σ.2.2.1 a 3) (fun r_16 => nn r_16 (fun a_19 => (if (σ.1 a_19 0) ≤ x4_12 then bc_X5_runTicks_70i4 a x1 x2 x3 σ else (if (σ.1 a 12) = 0 then ix x4_12 8 (vl (σ.2.2.1 (a + 12 + cl_md a) x4_12.toNatClampNeg) (fun r_46 => nn r_46 (fun a_49 => (if (σ.1 (a_49 + 1) 7) = 0 then ix x4_12 8 (vl (σ.2.2.1 (a + 12 + cl_md a) x4_12.toNatClampNeg) (fun r_56 => nn r_56 (fun a_59 => bd2 (fc_X2_step (a_59 + 1) σ) (fun r_64 σ_63 => (if r_64 < 0 then bc_X5_runTicks_150i4 a x1 x2 x3 σ_63 else ix x4_12 8 (vl (σ_63.2.2.1 (a + 12 + cl_md a) x4_12.toNatClampNeg) (fun r_82 => nn r_82 (fun a_85 => ix x4_12 8 (vl (σ_63.2.2.1 (a + 12 + cl_md a) x4_12.toNatClampNeg) (fun r_92 => bd2 (fc_X5_answer a r_92 r_64 σ_63) (fun r_96 σ_95 => bd1 (fc_X5_endAsk a (some (a_85 + 1)) r_96 σ_95) (fun σ_101 => bc_X5_runTicks_150i4 a x1 x2 x3 σ_101)))))))))))) else bc_X5_runTicks_70i4 a x1 x2 x3 σ)))) else bc_X5_runTicks_70i4 a x1 x2 x3 σ)))))))))))
noncomputable def ec_X5_runTicks_4 (a : Nat) (x1 : Int32) (x2 : Int32) (x3 : Int32) (σ : cl_S) : Option (Int32 × cl_S) := some (x2, σ)
noncomputable def bc_X5_runTicks_4 (a : Nat) (x1 : Int32) (x2 : Int32) (x3 : Int32) (σ : cl_S) : Option (Int32 × cl_S) := (lp (fun z : (Int32 × Int32 × cl_S) => lc_X5_runTicks_4 a x1 z.1 z.2.1 z.2.2) (x2, x3, σ)).bind (fun z => ec_X5_runTicks_4 a x1 z.1 z.2.1 z.2.2)
set_option maxHeartbeats 4000000 in
theorem wc_X5_runTicks_4 (C : cl_C D p s m args meth c cX5_runTicks 6 (some .int) RX5) {r : Int32} {a : Nat} {x1 : Int32} {x2 : Int32} {x3 : Int32} {σ0 σ σ' : cl_S} {T : Nat → Nat × Nat} {H : Heap} {locs : List Loc} {ls : Array Slot} {cells slots : Nat} (h : bc_X5_runTicks_4 a x1 x2 x3 σ = some (r, σ')) (G : cl_G true D c0 ({ frames := 6, cells := σ0.2.2.2.2.2.1, slots := σ0.2.2.2.2.2.2, locals := 148 }) s σ0.2.2.2.1 T σ H locs cells slots) (ha : (T a).1 = 21) (hl : lv_has ls 6 [(0, .ref (c0 + a)), (1, .int x1), (2, .int x2), (3, .int x3)]) : W p l e ({ frames := 6, cells := σ0.2.2.2.2.2.1, slots := σ0.2.2.2.2.2.2, locals := 148 }) s m args below meth c H locs cells slots (MQ below (cl_Q true D c0 (some (.int r)) cl_no σ0 σ') args s (σ0.2.2.2.2.2.1 - σ'.2.2.2.2.2.1) (σ0.2.2.2.2.2.2 - σ'.2.2.2.2.2.2) (cl_A c0 σ0.2.2.2.1 s.heap.size)) (F0 m 4 ls []) := by
  unfold bc_X5_runTicks_4 at h
  obtain ⟨y, hy, h⟩ := bd_some h
  have hE : (fun z : (Int32 × Int32 × cl_S) => ∀ (T : Nat → Nat × Nat) (H : Heap) (locs : List Loc) (ls : Array Slot) (cells slots : Nat), cl_G true D c0 ({ frames := 6, cells := σ0.2.2.2.2.2.1, slots := σ0.2.2.2.2.2.2, locals := 148 }) s σ0.2.2.2.1 T z.2.2 H locs cells slots → (T a).1 = 21 → lv_has ls 6 [(0, .ref (c0 + a)), (1, .int x1), (2, .int (z.1)), (3, .int (z.2.1))] → W p l e ({ frames := 6, cells := σ0.2.2.2.2.2.1, slots := σ0.2.2.2.2.2.2, locals := 148 }) s m args below meth c H locs cells slots (MQ below (cl_Q true D c0 (some (.int r)) cl_no σ0 σ') args s (σ0.2.2.2.2.2.1 - σ'.2.2.2.2.2.1) (σ0.2.2.2.2.2.2 - σ'.2.2.2.2.2.2) (cl_A c0 σ0.2.2.2.1 s.heap.size)) (F0 m 175 ls [])) y := by
    clear hy G ha hl
    intro T H locs ls cells slots G ha hl
    obtain ⟨x2, x3, σ⟩ := y
    dsimp only at h G ha hl
    unfold ec_X5_runTicks_4 at h
    refine lv_iload_n C.1 C.2.1 dX5_runTicks_175 rfl (lv_at hl 2 rfl) ?_
    exact cl_iret ⟨rfl, rfl⟩ rfl C G h dX5_runTicks_176
  refine lp_recE (fun z : (Int32 × Int32 × cl_S) => ∀ (T : Nat → Nat × Nat) (H : Heap) (locs : List Loc) (ls : Array Slot) (cells slots : Nat), cl_G true D c0 ({ frames := 6, cells := σ0.2.2.2.2.2.1, slots := σ0.2.2.2.2.2.2, locals := 148 }) s σ0.2.2.2.1 T z.2.2 H locs cells slots → (T a).1 = 21 → lv_has ls 6 [(0, .ref (c0 + a)), (1, .int x1), (2, .int (z.1)), (3, .int (z.2.1))] → W p l e ({ frames := 6, cells := σ0.2.2.2.2.2.1, slots := σ0.2.2.2.2.2.2, locals := 148 }) s m args below meth c H locs cells slots (MQ below (cl_Q true D c0 (some (.int r)) cl_no σ0 σ') args s (σ0.2.2.2.2.2.1 - σ'.2.2.2.2.2.1) (σ0.2.2.2.2.2.2 - σ'.2.2.2.2.2.2) (cl_A c0 σ0.2.2.2.1 s.heap.size)) (F0 m 4 ls [])) (fun z : (Int32 × Int32 × cl_S) => ∀ (T : Nat → Nat × Nat) (H : Heap) (locs : List Loc) (ls : Array Slot) (cells slots : Nat), cl_G true D c0 ({ frames := 6, cells := σ0.2.2.2.2.2.1, slots := σ0.2.2.2.2.2.2, locals := 148 }) s σ0.2.2.2.1 T z.2.2 H locs cells slots → (T a).1 = 21 → lv_has ls 6 [(0, .ref (c0 + a)), (1, .int x1), (2, .int (z.1)), (3, .int (z.2.1))] → W p l e ({ frames := 6, cells := σ0.2.2.2.2.2.1, slots := σ0.2.2.2.2.2.2, locals := 148 }) s m args below meth c H locs cells slots (MQ below (cl_Q true D c0 (some (.int r)) cl_no σ0 σ') args s (σ0.2.2.2.2.2.1 - σ'.2.2.2.2.2.1) (σ0.2.2.2.2.2.2 - σ'.2.2.2.2.2.2) (cl_A c0 σ0.2.2.2.1 s.heap.size)) (F0 m 175 ls [])) ?_ _ _ hy hE _ _ _ _ _ _ G ha hl
  clear hE hy G ha hl h
  intro z o h hP T H locs ls cells slots G ha hl
  obtain ⟨x2, x3, σ⟩ := z
  dsimp only at h G ha hl
  unfold lc_X5_runTicks_4 at h
  refine lv_iload_n C.1 C.2.1 dX5_runTicks_4 rfl (lv_at hl 3 rfl) ?_
  refine lv_iload_n C.1 C.2.1 dX5_runTicks_5 rfl (lv_at hl 1 rfl) ?_
  refine lv_icmp_ge (tgt := 175) C.1 C.2.1 dX5_runTicks_6 (by decide) (fun hc => ?_) (fun hc => ?_)
  · rw [if_pos hc] at h
    cases h
    exact hP _ _ _ _ _ _ G ha (lv_sub hl [0, 1, 2, 3] rfl)
  · rw [if_neg hc] at h
    refine lv_iload_n C.1 C.2.1 dX5_runTicks_9 rfl (lv_at hl 2 rfl) ?_
    refine lv_iload_n C.1 C.2.1 dX5_runTicks_10 rfl (lv_at hl 1 rfl) ?_
    refine lv_icmp_ge (tgt := 175) C.1 C.2.1 dX5_runTicks_11 (by decide) (fun hc => ?_) (fun hc => ?_)
    · rw [if_pos hc] at h
      cases h
      exact hP _ _ _ _ _ _ G ha (lv_sub hl [0, 1, 2, 3] rfl)
    · rw [if_neg hc] at h
      refine lv_aload_n C.1 C.2.1 dX5_runTicks_14 rfl (lv_at hl 0 rfl) ?_
      refine cg_5_133 C G ha dX5_runTicks_15 ?_
      refine lv_if_eq (tgt := 175) C.1 C.2.1 dX5_runTicks_18 (by decide) (fun hc => ?_) (fun hc => ?_)
      · rw [if_pos hc] at h
        cases h
        exact hP _ _ _ _ _ _ G ha (lv_sub hl [0, 1, 2, 3] rfl)
      · rw [if_neg hc] at h
        refine lv_aload_n C.1 C.2.1 dX5_runTicks_21 rfl (lv_at hl 0 rfl) ?_
        refine cg_5_12 C G ha dX5_runTicks_22 (fun t_3 => ?_)
        refine vt_r (K := 17) t_3 h (fun r_4 t_5 h_6 => ?_)
        obtain ⟨a_7, rfl, h_9⟩ := nn_some h_6
        have t_8 := t_5 _ rfl
        refine cg_5_164 C G t_8 dX5_runTicks_25 (fun t_10 => ?_)
        refine lv_aload_n C.1 C.2.1 dX5_runTicks_28 rfl (lv_at hl 0 rfl) ?_
        refine cg_5_92 C G ha dX5_runTicks_29 ?_
        obtain ⟨hi, h_11⟩ := ix_some h_9
        refine cl_iald C G t_10 hi dX5_runTicks_32 ?_
        refine vt_i h_11 (fun x4_12 h_13 => ?_)
        refine lv_istore (lv' := [(4, .int x4_12), (0, .ref (c0 + a)), (1, .int x1), (2, .int x2), (3, .int x3)]) C.1 C.2.1 dX5_runTicks_33 hl (by decide) rfl (fun ls hl_14 => ?_)
        refine lv_iload C.1 C.2.1 dX5_runTicks_35 (lv_at hl_14 0 rfl) ?_
        refine lv_aload_n C.1 C.2.1 dX5_runTicks_37 rfl (lv_at hl_14 1 rfl) ?_
        refine cg_5_12 C G ha dX5_runTicks_38 (fun t_15 => ?_)
        refine vt_r (K := 17) t_15 h_13 (fun r_16 t_17 h_18 => ?_)
        obtain ⟨a_19, rfl, h_21⟩ := nn_some h_18
        have t_20 := t_17 _ rfl
        refine cg_5_66 C G t_20 dX5_runTicks_41 ?_
        refine lv_icmp_ge (tgt := 70) C.1 C.2.1 dX5_runTicks_44 (by decide) (fun hc => ?_) (fun hc => ?_)
        · rw [if_pos hc] at h_21
          exact wc_X5_runTicks_70i4 C h_21 hP G ha (lv_sub hl_14 [1, 2, 3, 4] rfl)
        · rw [if_neg hc] at h_21
          refine lv_aload_n C.1 C.2.1 dX5_runTicks_47 rfl (lv_at hl_14 1 rfl) ?_
          refine cg_5_98 C G ha dX5_runTicks_48 ?_
          refine lv_if_ne (tgt := 70) C.1 C.2.1 dX5_runTicks_51 (by decide) (fun hc => ?_) (fun hc => ?_)
          · rw [if_neg hc] at h_21
            exact wc_X5_runTicks_70i4 C h_21 hP G ha (lv_sub hl_14 [1, 2, 3, 4] rfl)
          · rw [if_pos hc] at h_21
            refine lv_aload_n C.1 C.2.1 dX5_runTicks_54 rfl (lv_at hl_14 1 rfl) ?_
            refine cg_5_20 C G ha dX5_runTicks_55 (fun t_43 => ?_)
            refine lv_iload C.1 C.2.1 dX5_runTicks_58 (lv_at hl_14 0 rfl) ?_
            obtain ⟨hi, h_44⟩ := ix_some h_21
            refine cl_aald C G t_43 (by decide) (by decide) rfl hi dX5_runTicks_60 (fun t_45 => ?_)
            refine vt_r (K := 22) t_45 h_44 (fun r_46 t_47 h_48 => ?_)
            obtain ⟨a_49, rfl, h_51⟩ := nn_some h_48
            have t_50 := t_47 _ rfl
            refine cg_5_121 C G t_50 dX5_runTicks_61 (fun t_52 => ?_)
            have t_52 : (T (a_49 + 1)).1 = 18 := by rw [t_52]
            refine cg_5_125 C G t_52 dX5_runTicks_64 ?_
            refine lv_if_eq (tgt := 103) C.1 C.2.1 dX5_runTicks_67 (by decide) (fun hc => ?_) (fun hc => ?_)
            · rw [if_pos hc] at h_51
              refine lv_aload_n C.1 C.2.1 dX5_runTicks_103 rfl (lv_at hl_14 1 rfl) ?_
              refine cg_5_20 C G ha dX5_runTicks_104 (fun t_53 => ?_)
              refine lv_iload C.1 C.2.1 dX5_runTicks_107 (lv_at hl_14 0 rfl) ?_
              obtain ⟨hi, h_54⟩ := ix_some h_51
              refine cl_aald C G t_53 (by decide) (by decide) rfl hi dX5_runTicks_109 (fun t_55 => ?_)
              refine vt_r (K := 22) t_55 h_54 (fun r_56 t_57 h_58 => ?_)
              obtain ⟨a_59, rfl, h_61⟩ := nn_some h_58
              have t_60 := t_57 _ rfl
              refine cg_5_121 C G t_60 dX5_runTicks_110 (fun t_62 => ?_)
              have t_62 : (T (a_59 + 1)).1 = 18 := by rw [t_62]
              obtain ⟨r_64, σ_63, hq, h_65⟩ := bd2_some h_61
              refine cl_callV (ci := 2) (rest := []) C G rfl t_62 cw_RX5_178 [] _ (kc_X2_step l D c0 (by rw [G.1]; exact t_62) hq) (Nat.le_of_ble_eq_true rfl) (Nat.le_of_ble_eq_true rfl) rfl rfl hl_14.1 (Nat.le_of_ble_eq_true rfl) dX5_runTicks_113 (fun T_66 H locs cells slots t_67 hu G_68 => ?_)
              have ha := hu.kind ha (by decide)
              refine W.eq (g2 := F0 m 116 ls [.int r_64]) rfl ?_
              refine lv_istore (lv' := [(5, .int r_64), (4, .int x4_12), (0, .ref (c0 + a)), (1, .int x1), (2, .int x2), (3, .int x3)]) C.1 C.2.1 dX5_runTicks_116 hl_14 (by decide) rfl (fun ls hl_69 => ?_)
              refine lv_iload C.1 C.2.1 dX5_runTicks_118 (lv_at hl_69 0 rfl) ?_
              refine lv_if_lt (tgt := 150) C.1 C.2.1 dX5_runTicks_120 (by decide) (fun hc => ?_) (fun hc => ?_)
              · rw [if_pos hc] at h_65
                exact wc_X5_runTicks_150i4 C h_65 hP G_68 ha (lv_sub hl_69 [2, 3, 4, 5] rfl)
              · rw [if_neg hc] at h_65
                refine lv_aload_n C.1 C.2.1 dX5_runTicks_123 rfl (lv_at hl_69 2 rfl) ?_
                refine lv_aload_n C.1 C.2.1 dX5_runTicks_124 rfl (lv_at hl_69 2 rfl) ?_
                refine cg_5_20 C G_68 ha dX5_runTicks_125 (fun t_79 => ?_)
                refine lv_iload C.1 C.2.1 dX5_runTicks_128 (lv_at hl_69 1 rfl) ?_
                obtain ⟨hi, h_80⟩ := ix_some h_65
                refine cl_aald C G_68 t_79 (by decide) (by decide) rfl hi dX5_runTicks_130 (fun t_81 => ?_)
                refine vt_r (K := 22) t_81 h_80 (fun r_82 t_83 h_84 => ?_)
                obtain ⟨a_85, rfl, h_87⟩ := nn_some h_84
                have t_86 := t_83 _ rfl
                refine cg_5_121 C G_68 t_86 dX5_runTicks_131 (fun t_88 => ?_)
                have t_88 : (T_66 (a_85 + 1)).1 = 18 := by rw [t_88]
                refine lv_aload_n C.1 C.2.1 dX5_runTicks_134 rfl (lv_at hl_69 2 rfl) ?_
                refine lv_aload_n C.1 C.2.1 dX5_runTicks_135 rfl (lv_at hl_69 2 rfl) ?_
                refine cg_5_20 C G_68 ha dX5_runTicks_136 (fun t_89 => ?_)
                refine lv_iload C.1 C.2.1 dX5_runTicks_139 (lv_at hl_69 1 rfl) ?_
                obtain ⟨hi, h_90⟩ := ix_some h_87
                refine cl_aald C G_68 t_89 (by decide) (by decide) rfl hi dX5_runTicks_141 (fun t_91 => ?_)
                refine vt_r (K := 22) t_91 h_90 (fun r_92 t_93 h_94 => ?_)
                refine lv_iload C.1 C.2.1 dX5_runTicks_142 (lv_at hl_69 0 rfl) ?_
                obtain ⟨r_96, σ_95, hq, h_97⟩ := bd2_some h_94
                refine cl_callV (ci := 5) (rest := [.ref (c0 + (a_85 + 1)), .ref (c0 + a)]) C G_68 rfl ha cw_RX5_182 [cl_rf c0 r_92, .int r_64] _ (kc_X5_answer l D c0 (by rw [G_68.1]; exact ha) hq (by rw [G_68.1]; exact t_93)) (Nat.le_of_ble_eq_true rfl) (Nat.le_of_ble_eq_true rfl) rfl rfl hl_69.1 (Nat.le_of_ble_eq_true rfl) dX5_runTicks_144 (fun T_98 H locs cells slots t_99 hu G_100 => ?_)
                have ha := hu.kind ha (by decide)
                have t_88 := hu.kind t_88 (by decide)
                refine W.eq (g2 := F0 m 147 ls [.int r_96, .ref (c0 + (a_85 + 1)), .ref (c0 + a)]) rfl ?_
                obtain ⟨σ_101, hq, h_102⟩ := bd1_some h_97
                refine cl_callV (ci := 5) (rest := []) C G_100 rfl ha cw_RX5_186 [.ref (c0 + (a_85 + 1)), .int r_96] _ (kc_X5_endAsk l D c0 (by rw [G_100.1]; exact ha) hq (by rw [G_100.1]; exact (cl_RTs t_88))) (Nat.le_of_ble_eq_true rfl) (Nat.le_of_ble_eq_true rfl) rfl rfl hl_69.1 (Nat.le_of_ble_eq_true rfl) dX5_runTicks_147 (fun T_103 H locs cells slots t_104 hu G_105 => ?_)
                have ha := hu.kind ha (by decide)
                refine W.eq (g2 := F0 m 150 ls []) rfl ?_
                exact wc_X5_runTicks_150i4 C h_102 hP G_105 ha (lv_sub hl_69 [2, 3, 4, 5] rfl)
            · rw [if_neg hc] at h_51
              exact wc_X5_runTicks_70i4 C h_51 hP G ha (lv_sub hl_14 [1, 2, 3, 4] rfl)
noncomputable def bc_X5_runTicks_0 (a : Nat) (x1 : Int32) (σ : cl_S) : Option (Int32 × cl_S) := bc_X5_runTicks_4 a x1 (0:Int32) (0:Int32) σ
set_option maxHeartbeats 4000000 in
theorem wc_X5_runTicks_0 (C : cl_C D p s m args meth c cX5_runTicks 6 (some .int) RX5) {r : Int32} {a : Nat} {x1 : Int32} {σ0 σ σ' : cl_S} {T : Nat → Nat × Nat} {H : Heap} {locs : List Loc} {ls : Array Slot} {cells slots : Nat} (h : bc_X5_runTicks_0 a x1 σ = some (r, σ')) (G : cl_G true D c0 ({ frames := 6, cells := σ0.2.2.2.2.2.1, slots := σ0.2.2.2.2.2.2, locals := 148 }) s σ0.2.2.2.1 T σ H locs cells slots) (ha : (T a).1 = 21) (hl : lv_has ls 6 [(0, .ref (c0 + a)), (1, .int x1)]) : W p l e ({ frames := 6, cells := σ0.2.2.2.2.2.1, slots := σ0.2.2.2.2.2.2, locals := 148 }) s m args below meth c H locs cells slots (MQ below (cl_Q true D c0 (some (.int r)) cl_no σ0 σ') args s (σ0.2.2.2.2.2.1 - σ'.2.2.2.2.2.1) (σ0.2.2.2.2.2.2 - σ'.2.2.2.2.2.2) (cl_A c0 σ0.2.2.2.1 s.heap.size)) (F0 m 0 ls []) := by
  unfold bc_X5_runTicks_0 at h
  refine lv_iconst (v := (0:Int32)) C.1 C.2.1 dX5_runTicks_0 (by decide) ?_
  refine lv_istore_n (lv' := [(2, .int (0:Int32)), (0, .ref (c0 + a)), (1, .int x1)]) C.1 C.2.1 dX5_runTicks_1 rfl hl (by decide) rfl (fun ls hl_1 => ?_)
  refine lv_iconst (v := (0:Int32)) C.1 C.2.1 dX5_runTicks_2 (by decide) ?_
  refine lv_istore_n (lv' := [(3, .int (0:Int32)), (2, .int (0:Int32)), (0, .ref (c0 + a)), (1, .int x1)]) C.1 C.2.1 dX5_runTicks_3 rfl hl_1 (by decide) rfl (fun ls hl_2 => ?_)
  exact wc_X5_runTicks_4 C h G ha (lv_sub hl_2 [2, 3, 1, 0] rfl)
noncomputable def fc_X5_runTicks (a : Nat) (x1 : Int32) (σ : cl_S) : Option (Int32 × cl_S) := bc_X5_runTicks_0 a x1 σ
theorem kc_X5_runTicks (l : Launch) (D : cl_D) (c0 : Nat) {r : Int32} {a : Nat} {x1 : Int32} {σ σ' : cl_S} (ha : (σ.2.2.2.1 a).1 = 21) (h : fc_X5_runTicks a x1 σ = some (r, σ')) : cl_Met true l D c0 yX5_runTicks cX5_runTicks 6 (some .int) 6 148 [.ref (c0 + a), .int x1] σ (some (.int r)) cl_no σ' :=
  cl_of (by decide) (Nat.le_of_ble_eq_true rfl) (fun p e s m args below meth c ls C hn G hl => wc_X5_runTicks_0 C h G ha hl)
abbrev cX6_waitWord : ByteArray := prog_8_method_4_code
def yX6_waitWord : MethodName := ⟨RX6, "waitWord", "(I)I"⟩
theorem dX6_waitWord_0 : decode cX6_waitWord 0 = .ok (.aload_n 0, 1) := by decide +kernel
theorem dX6_waitWord_1 : decode cX6_waitWord 1 = .ok (.getfield 79, 3) := by decide +kernel
theorem dX6_waitWord_4 : decode cX6_waitWord 4 = .ok (.bipush 64, 2) := by decide +kernel
theorem dX6_waitWord_6 : decode cX6_waitWord 6 = .ok (.if_icmp .lt 6, 3) := by decide +kernel
theorem dX6_waitWord_9 : decode cX6_waitWord 9 = .ok (.bipush (-4), 2) := by decide +kernel
theorem dX6_waitWord_11 : decode cX6_waitWord 11 = .ok (.ireturn, 1) := by decide +kernel
theorem dX6_waitWord_12 : decode cX6_waitWord 12 = .ok (.aload_n 0, 1) := by decide +kernel
theorem dX6_waitWord_13 : decode cX6_waitWord 13 = .ok (.getfield 28, 3) := by decide +kernel
theorem dX6_waitWord_16 : decode cX6_waitWord 16 = .ok (.aload_n 0, 1) := by decide +kernel
theorem dX6_waitWord_17 : decode cX6_waitWord 17 = .ok (.getfield 79, 3) := by decide +kernel
theorem dX6_waitWord_20 : decode cX6_waitWord 20 = .ok (.iload_n 1, 1) := by decide +kernel
theorem dX6_waitWord_21 : decode cX6_waitWord 21 = .ok (.iastore, 1) := by decide +kernel
theorem dX6_waitWord_22 : decode cX6_waitWord 22 = .ok (.aload_n 0, 1) := by decide +kernel
theorem dX6_waitWord_23 : decode cX6_waitWord 23 = .ok (.dup, 1) := by decide +kernel
theorem dX6_waitWord_24 : decode cX6_waitWord 24 = .ok (.getfield 79, 3) := by decide +kernel
theorem dX6_waitWord_27 : decode cX6_waitWord 27 = .ok (.iconst 1, 1) := by decide +kernel
theorem dX6_waitWord_28 : decode cX6_waitWord 28 = .ok (.iadd, 1) := by decide +kernel
theorem dX6_waitWord_29 : decode cX6_waitWord 29 = .ok (.putfield 79, 3) := by decide +kernel
theorem dX6_waitWord_32 : decode cX6_waitWord 32 = .ok (.aload_n 0, 1) := by decide +kernel
theorem dX6_waitWord_33 : decode cX6_waitWord 33 = .ok (.getfield 79, 3) := by decide +kernel
theorem dX6_waitWord_36 : decode cX6_waitWord 36 = .ok (.ireturn, 1) := by decide +kernel
theorem cc_X6_waitWord : Cond.code yX6_waitWord cX6_waitWord 2 (some .int) ∈ rf_tb := rf_at 1341 (by decide +kernel) (by decide +kernel)
noncomputable def bc_X6_waitWord_0 (a : Nat) (x1 : Int32) (σ : cl_S) : Option (Int32 × cl_S) := (if (σ.1 a 8) < (64:Int32) then ix (σ.1 a 8) 64 (vl (cl_w σ (a + 6) (σ.1 a 8).toNatClampNeg x1) (fun σ_2 => vl (cl_w σ_2 a 8 ((σ_2.1 a 8) + (1:Int32))) (fun σ_7 => some ((σ_7.1 a 8), σ_7)))) else some ((-4:Int32), σ))
set_option maxHeartbeats 4000000 in
theorem wc_X6_waitWord_0 (C : cl_C D p s m args meth c cX6_waitWord 2 (some .int) RX6) {r : Int32} {a : Nat} {x1 : Int32} {σ0 σ σ' : cl_S} {T : Nat → Nat × Nat} {H : Heap} {locs : List Loc} {ls : Array Slot} {cells slots : Nat} (h : bc_X6_waitWord_0 a x1 σ = some (r, σ')) (G : cl_G true D c0 ({ frames := 0, cells := σ0.2.2.2.2.2.1, slots := σ0.2.2.2.2.2.2, locals := 0 }) s σ0.2.2.2.1 T σ H locs cells slots) (ha : (T a).1 = 22) (hl : lv_has ls 2 [(0, .ref (c0 + a)), (1, .int x1)]) : W p l e ({ frames := 0, cells := σ0.2.2.2.2.2.1, slots := σ0.2.2.2.2.2.2, locals := 0 }) s m args below meth c H locs cells slots (MQ below (cl_Q true D c0 (some (.int r)) cl_no σ0 σ') args s (σ0.2.2.2.2.2.1 - σ'.2.2.2.2.2.1) (σ0.2.2.2.2.2.2 - σ'.2.2.2.2.2.2) (cl_A c0 σ0.2.2.2.1 s.heap.size)) (F0 m 0 ls []) := by
  unfold bc_X6_waitWord_0 at h
  refine lv_aload_n C.1 C.2.1 dX6_waitWord_0 rfl (lv_at hl 0 rfl) ?_
  refine cg_6_79 C G ha dX6_waitWord_1 ?_
  refine lv_bipush (v := (64:Int32)) C.1 C.2.1 dX6_waitWord_4 (by decide) ?_
  refine lv_icmp_lt (tgt := 12) C.1 C.2.1 dX6_waitWord_6 (by decide) (fun hc => ?_) (fun hc => ?_)
  · rw [if_pos hc] at h
    refine lv_aload_n C.1 C.2.1 dX6_waitWord_12 rfl (lv_at hl 0 rfl) ?_
    refine cg_6_28 C G ha dX6_waitWord_13 (fun t_1 => ?_)
    refine lv_aload_n C.1 C.2.1 dX6_waitWord_16 rfl (lv_at hl 0 rfl) ?_
    refine cg_6_79 C G ha dX6_waitWord_17 ?_
    refine lv_iload_n C.1 C.2.1 dX6_waitWord_20 rfl (lv_at hl 1 rfl) ?_
    obtain ⟨hi, h_3⟩ := ix_some h
    refine cl_iast C G t_1 hi dX6_waitWord_21 (fun H locs G_4 => ?_)
    refine cl_nm G_4 h_3 (fun σ_2 G_5 h_6 => ?_)
    refine lv_aload_n C.1 C.2.1 dX6_waitWord_22 rfl (lv_at hl 0 rfl) ?_
    refine lv_dup C.1 C.2.1 dX6_waitWord_23 rfl ?_
    refine cg_6_79 C G_5 ha dX6_waitWord_24 ?_
    refine lv_iconst (v := (1:Int32)) C.1 C.2.1 dX6_waitWord_27 (by decide) ?_
    refine lv_iadd C.1 C.2.1 dX6_waitWord_28 ?_
    refine cp_6_79 C G_5 ha dX6_waitWord_29 (fun H locs G_8 => ?_)
    refine cl_nm G_8 h_6 (fun σ_7 G_9 h_10 => ?_)
    refine lv_aload_n C.1 C.2.1 dX6_waitWord_32 rfl (lv_at hl 0 rfl) ?_
    refine cg_6_79 C G_9 ha dX6_waitWord_33 ?_
    exact cl_iret ⟨rfl, rfl⟩ rfl C G_9 h_10 dX6_waitWord_36
  · rw [if_neg hc] at h
    refine lv_bipush (v := (-4:Int32)) C.1 C.2.1 dX6_waitWord_9 (by decide) ?_
    exact cl_iret ⟨rfl, rfl⟩ rfl C G h dX6_waitWord_11
noncomputable def fc_X6_waitWord (a : Nat) (x1 : Int32) (σ : cl_S) : Option (Int32 × cl_S) := bc_X6_waitWord_0 a x1 σ
theorem kc_X6_waitWord (l : Launch) (D : cl_D) (c0 : Nat) {r : Int32} {a : Nat} {x1 : Int32} {σ σ' : cl_S} (ha : (σ.2.2.2.1 a).1 = 22) (h : fc_X6_waitWord a x1 σ = some (r, σ')) : cl_Met true l D c0 yX6_waitWord cX6_waitWord 2 (some .int) 0 0 [.ref (c0 + a), .int x1] σ (some (.int r)) cl_no σ' :=
  cl_of (by decide) (Nat.le_of_ble_eq_true rfl) (fun p e s m args below meth c ls C hn G hl => wc_X6_waitWord_0 C h G ha hl)
abbrev cX6_waitTerm : ByteArray := prog_8_method_5_code
def yX6_waitTerm : MethodName := ⟨RX6, "waitTerm", "(LPartHouse$Term;)I"⟩
theorem dX6_waitTerm_0 : decode cX6_waitTerm 0 = .ok (.aload_n 0, 1) := by decide +kernel
theorem dX6_waitTerm_1 : decode cX6_waitTerm 1 = .ok (.getfield 82, 3) := by decide +kernel
theorem dX6_waitTerm_4 : decode cX6_waitTerm 4 = .ok (.bipush 64, 2) := by decide +kernel
theorem dX6_waitTerm_6 : decode cX6_waitTerm 6 = .ok (.if_icmp .lt 6, 3) := by decide +kernel
theorem dX6_waitTerm_9 : decode cX6_waitTerm 9 = .ok (.bipush (-4), 2) := by decide +kernel
theorem dX6_waitTerm_11 : decode cX6_waitTerm 11 = .ok (.ireturn, 1) := by decide +kernel
theorem dX6_waitTerm_12 : decode cX6_waitTerm 12 = .ok (.aload_n 0, 1) := by decide +kernel
theorem dX6_waitTerm_13 : decode cX6_waitTerm 13 = .ok (.getfield 31, 3) := by decide +kernel
theorem dX6_waitTerm_16 : decode cX6_waitTerm 16 = .ok (.aload_n 0, 1) := by decide +kernel
theorem dX6_waitTerm_17 : decode cX6_waitTerm 17 = .ok (.getfield 82, 3) := by decide +kernel
theorem dX6_waitTerm_20 : decode cX6_waitTerm 20 = .ok (.aload_n 1, 1) := by decide +kernel
theorem dX6_waitTerm_21 : decode cX6_waitTerm 21 = .ok (.aastore, 1) := by decide +kernel
theorem dX6_waitTerm_22 : decode cX6_waitTerm 22 = .ok (.aload_n 0, 1) := by decide +kernel
theorem dX6_waitTerm_23 : decode cX6_waitTerm 23 = .ok (.dup, 1) := by decide +kernel
theorem dX6_waitTerm_24 : decode cX6_waitTerm 24 = .ok (.getfield 82, 3) := by decide +kernel
theorem dX6_waitTerm_27 : decode cX6_waitTerm 27 = .ok (.iconst 1, 1) := by decide +kernel
theorem dX6_waitTerm_28 : decode cX6_waitTerm 28 = .ok (.iadd, 1) := by decide +kernel
theorem dX6_waitTerm_29 : decode cX6_waitTerm 29 = .ok (.putfield 82, 3) := by decide +kernel
theorem dX6_waitTerm_32 : decode cX6_waitTerm 32 = .ok (.aload_n 0, 1) := by decide +kernel
theorem dX6_waitTerm_33 : decode cX6_waitTerm 33 = .ok (.getfield 82, 3) := by decide +kernel
theorem dX6_waitTerm_36 : decode cX6_waitTerm 36 = .ok (.ireturn, 1) := by decide +kernel
theorem cc_X6_waitTerm : Cond.code yX6_waitTerm cX6_waitTerm 2 (some .int) ∈ rf_tb := rf_at 1355 (by decide +kernel) (by decide +kernel)
noncomputable def bc_X6_waitTerm_0 (a : Nat) (x1 : (Option Nat)) (σ : cl_S) : Option (Int32 × cl_S) := (if (σ.1 a 10) < (64:Int32) then ix (σ.1 a 10) 64 (vl (cl_wr σ (a + 7) (σ.1 a 10).toNatClampNeg x1) (fun σ_2 => vl (cl_w σ_2 a 10 ((σ_2.1 a 10) + (1:Int32))) (fun σ_7 => some ((σ_7.1 a 10), σ_7)))) else some ((-4:Int32), σ))
set_option maxHeartbeats 4000000 in
theorem wc_X6_waitTerm_0 (C : cl_C D p s m args meth c cX6_waitTerm 2 (some .int) RX6) {r : Int32} {a : Nat} {x1 : (Option Nat)} {σ0 σ σ' : cl_S} {T : Nat → Nat × Nat} {H : Heap} {locs : List Loc} {ls : Array Slot} {cells slots : Nat} (h : bc_X6_waitTerm_0 a x1 σ = some (r, σ')) (G : cl_G true D c0 ({ frames := 0, cells := σ0.2.2.2.2.2.1, slots := σ0.2.2.2.2.2.2, locals := 0 }) s σ0.2.2.2.1 T σ H locs cells slots) (ha : (T a).1 = 22) (f1 : cl_RT T x1 25) (hl : lv_has ls 2 [(0, .ref (c0 + a)), (1, cl_rf c0 x1)]) : W p l e ({ frames := 0, cells := σ0.2.2.2.2.2.1, slots := σ0.2.2.2.2.2.2, locals := 0 }) s m args below meth c H locs cells slots (MQ below (cl_Q true D c0 (some (.int r)) cl_no σ0 σ') args s (σ0.2.2.2.2.2.1 - σ'.2.2.2.2.2.1) (σ0.2.2.2.2.2.2 - σ'.2.2.2.2.2.2) (cl_A c0 σ0.2.2.2.1 s.heap.size)) (F0 m 0 ls []) := by
  unfold bc_X6_waitTerm_0 at h
  refine lv_aload_n C.1 C.2.1 dX6_waitTerm_0 rfl (lv_at hl 0 rfl) ?_
  refine cg_6_82 C G ha dX6_waitTerm_1 ?_
  refine lv_bipush (v := (64:Int32)) C.1 C.2.1 dX6_waitTerm_4 (by decide) ?_
  refine lv_icmp_lt (tgt := 12) C.1 C.2.1 dX6_waitTerm_6 (by decide) (fun hc => ?_) (fun hc => ?_)
  · rw [if_pos hc] at h
    refine lv_aload_n C.1 C.2.1 dX6_waitTerm_12 rfl (lv_at hl 0 rfl) ?_
    refine cg_6_31 C G ha dX6_waitTerm_13 (fun t_1 => ?_)
    refine lv_aload_n C.1 C.2.1 dX6_waitTerm_16 rfl (lv_at hl 0 rfl) ?_
    refine cg_6_82 C G ha dX6_waitTerm_17 ?_
    refine cl_aload_n C.1 C.2.1 dX6_waitTerm_20 rfl (lv_at hl 1 rfl) ?_
    obtain ⟨hi, h_3⟩ := ix_some h
    refine cl_aast (ci := 9) (x := x1) C G rfl rfl rfl t_1 (by decide) (by decide) f1 hi dX6_waitTerm_21 (fun H locs G_4 => ?_)
    refine cl_nm G_4 h_3 (fun σ_2 G_5 h_6 => ?_)
    refine lv_aload_n C.1 C.2.1 dX6_waitTerm_22 rfl (lv_at hl 0 rfl) ?_
    refine lv_dup C.1 C.2.1 dX6_waitTerm_23 rfl ?_
    refine cg_6_82 C G_5 ha dX6_waitTerm_24 ?_
    refine lv_iconst (v := (1:Int32)) C.1 C.2.1 dX6_waitTerm_27 (by decide) ?_
    refine lv_iadd C.1 C.2.1 dX6_waitTerm_28 ?_
    refine cp_6_82 C G_5 ha dX6_waitTerm_29 (fun H locs G_8 => ?_)
    refine cl_nm G_8 h_6 (fun σ_7 G_9 h_10 => ?_)
    refine lv_aload_n C.1 C.2.1 dX6_waitTerm_32 rfl (lv_at hl 0 rfl) ?_
    refine cg_6_82 C G_9 ha dX6_waitTerm_33 ?_
    exact cl_iret ⟨rfl, rfl⟩ rfl C G_9 h_10 dX6_waitTerm_36
  · rw [if_neg hc] at h
    refine lv_bipush (v := (-4:Int32)) C.1 C.2.1 dX6_waitTerm_9 (by decide) ?_
    exact cl_iret ⟨rfl, rfl⟩ rfl C G h dX6_waitTerm_11
noncomputable def fc_X6_waitTerm (a : Nat) (x1 : (Option Nat)) (σ : cl_S) : Option (Int32 × cl_S) := bc_X6_waitTerm_0 a x1 σ
theorem kc_X6_waitTerm (l : Launch) (D : cl_D) (c0 : Nat) {r : Int32} {a : Nat} {x1 : (Option Nat)} {σ σ' : cl_S} (ha : (σ.2.2.2.1 a).1 = 22) (h : fc_X6_waitTerm a x1 σ = some (r, σ')) (f1 : cl_RT σ.2.2.2.1 x1 25) : cl_Met true l D c0 yX6_waitTerm cX6_waitTerm 2 (some .int) 0 0 [.ref (c0 + a), cl_rf c0 x1] σ (some (.int r)) cl_no σ' :=
  by cases x1 <;> exact cl_of (by decide) (Nat.le_of_ble_eq_true rfl) (fun p e s m args below meth c ls C hn G hl => wc_X6_waitTerm_0 C h G ha f1 hl)
abbrev cX5_repeatInput : ByteArray := prog_7_method_5_code
def yX5_repeatInput : MethodName := ⟨RX5, "repeatInput", "(LPartHouse$Machine;I)V"⟩
theorem dX5_repeatInput_0 : decode cX5_repeatInput 0 = .ok (.aload_n 0, 1) := by decide +kernel
theorem dX5_repeatInput_1 : decode cX5_repeatInput 1 = .ok (.getfield 20, 3) := by decide +kernel
theorem dX5_repeatInput_4 : decode cX5_repeatInput 4 = .ok (.aload_n 1, 1) := by decide +kernel
theorem dX5_repeatInput_5 : decode cX5_repeatInput 5 = .ok (.getfield 42, 3) := by decide +kernel
theorem dX5_repeatInput_8 : decode cX5_repeatInput 8 = .ok (.iload_n 2, 1) := by decide +kernel
theorem dX5_repeatInput_9 : decode cX5_repeatInput 9 = .ok (.iaload, 1) := by decide +kernel
theorem dX5_repeatInput_10 : decode cX5_repeatInput 10 = .ok (.aaload, 1) := by decide +kernel
theorem dX5_repeatInput_11 : decode cX5_repeatInput 11 = .ok (.astore_n 3, 1) := by decide +kernel
theorem dX5_repeatInput_12 : decode cX5_repeatInput 12 = .ok (.aload_n 1, 1) := by decide +kernel
theorem dX5_repeatInput_13 : decode cX5_repeatInput 13 = .ok (.getfield 48, 3) := by decide +kernel
theorem dX5_repeatInput_16 : decode cX5_repeatInput 16 = .ok (.iload_n 2, 1) := by decide +kernel
theorem dX5_repeatInput_17 : decode cX5_repeatInput 17 = .ok (.aaload, 1) := by decide +kernel
theorem dX5_repeatInput_18 : decode cX5_repeatInput 18 = .ok (.aload_n 0, 1) := by decide +kernel
theorem dX5_repeatInput_19 : decode cX5_repeatInput 19 = .ok (.getfield 51, 3) := by decide +kernel
theorem dX5_repeatInput_22 : decode cX5_repeatInput 22 = .ok (.getfield 83, 3) := by decide +kernel
theorem dX5_repeatInput_25 : decode cX5_repeatInput 25 = .ok (.if_acmp .ne 17, 3) := by decide +kernel
theorem dX5_repeatInput_28 : decode cX5_repeatInput 28 = .ok (.aload_n 3, 1) := by decide +kernel
theorem dX5_repeatInput_29 : decode cX5_repeatInput 29 = .ok (.aload_n 1, 1) := by decide +kernel
theorem dX5_repeatInput_30 : decode cX5_repeatInput 30 = .ok (.getfield 45, 3) := by decide +kernel
theorem dX5_repeatInput_33 : decode cX5_repeatInput 33 = .ok (.iload_n 2, 1) := by decide +kernel
theorem dX5_repeatInput_34 : decode cX5_repeatInput 34 = .ok (.iaload, 1) := by decide +kernel
theorem dX5_repeatInput_35 : decode cX5_repeatInput 35 = .ok (.invokevirtual 144, 3) := by decide +kernel
theorem dX5_repeatInput_38 : decode cX5_repeatInput 38 = .ok (.pop, 1) := by decide +kernel
theorem dX5_repeatInput_39 : decode cX5_repeatInput 39 = .ok (.goto 14, 3) := by decide +kernel
theorem dX5_repeatInput_42 : decode cX5_repeatInput 42 = .ok (.aload_n 3, 1) := by decide +kernel
theorem dX5_repeatInput_43 : decode cX5_repeatInput 43 = .ok (.aload_n 1, 1) := by decide +kernel
theorem dX5_repeatInput_44 : decode cX5_repeatInput 44 = .ok (.getfield 48, 3) := by decide +kernel
theorem dX5_repeatInput_47 : decode cX5_repeatInput 47 = .ok (.iload_n 2, 1) := by decide +kernel
theorem dX5_repeatInput_48 : decode cX5_repeatInput 48 = .ok (.aaload, 1) := by decide +kernel
theorem dX5_repeatInput_49 : decode cX5_repeatInput 49 = .ok (.invokevirtual 147, 3) := by decide +kernel
theorem dX5_repeatInput_52 : decode cX5_repeatInput 52 = .ok (.pop, 1) := by decide +kernel
theorem dX5_repeatInput_53 : decode cX5_repeatInput 53 = .ok (.return_, 1) := by decide +kernel
theorem cc_X5_repeatInput : Cond.code yX5_repeatInput cX5_repeatInput 4 none ∈ rf_tb := rf_at 1494 (by decide +kernel) (by decide +kernel)
theorem cw_RX5_144 : cl_wV RX5 RX6 yX6_waitWord cX6_waitWord 2 (some .int) 144 1 := ⟨⟨rf_at 1495 (by decide +kernel) (by decide +kernel), rf_at 1339 (by decide +kernel) (by decide +kernel), rf_at 1340 (by decide +kernel) (by decide +kernel), cc_X6_waitWord, rf_at 15 (by decide +kernel) (by decide +kernel)⟩, ⟨by decide, by decide, by decide +kernel⟩⟩
theorem cw_RX5_147 : cl_wV RX5 RX6 yX6_waitTerm cX6_waitTerm 2 (some .int) 147 1 := ⟨⟨rf_at 1496 (by decide +kernel) (by decide +kernel), rf_at 1353 (by decide +kernel) (by decide +kernel), rf_at 1354 (by decide +kernel) (by decide +kernel), cc_X6_waitTerm, rf_at 15 (by decide +kernel) (by decide +kernel)⟩, ⟨by decide, by decide, by decide +kernel⟩⟩
noncomputable def bc_X5_repeatInput_0 (a : Nat) (x1 : (Option Nat)) (x2 : Int32) (σ : cl_S) : Option (cl_S) := nn x1 (fun a_2 => ix x2 500 (ix (σ.1 (a_2 + 33 + cl_md a_2) x2.toNatClampNeg) 8 (vl (σ.2.2.1 (a + 12 + cl_md a) (σ.1 (a_2 + 33 + cl_md a_2) x2.toNatClampNeg).toNatClampNeg) (fun r_9 => ix x2 500 (vl (σ.2.2.1 (a_2 + 35 + cl_md a_2) x2.toNatClampNeg) (fun r_16 => vl (σ.2.2.1 31 4) (fun r_21 => (if r_16 = r_21 then ix x2 500 (nn r_9 (fun a_41 => bd2 (fc_X6_waitWord a_41 (σ.1 (a_2 + 34 + cl_md a_2) x2.toNatClampNeg) σ) (fun r_45 σ_44 => some σ_44))) else ix x2 500 (vl (σ.2.2.1 (a_2 + 35 + cl_md a_2) x2.toNatClampNeg) (fun r_27 => nn r_9 (fun a_30 => bd2 (fc_X6_waitTerm a_30 r_27 σ) (fun r_34 σ_33 => some σ_33))))))))))))
set_option maxHeartbeats 4000000 in
theorem wc_X5_repeatInput_0 (C : cl_C D p s m args meth c cX5_repeatInput 4 none RX5) {a : Nat} {x1 : (Option Nat)} {x2 : Int32} {σ0 σ σ' : cl_S} {T : Nat → Nat × Nat} {H : Heap} {locs : List Loc} {ls : Array Slot} {cells slots : Nat} (h : bc_X5_repeatInput_0 a x1 x2 σ = some σ') (G : cl_G true D c0 ({ frames := 1, cells := σ0.2.2.2.2.2.1, slots := σ0.2.2.2.2.2.2, locals := 21 }) s σ0.2.2.2.1 T σ H locs cells slots) (ha : (T a).1 = 21) (f1 : cl_RT T x1 21) (hl : lv_has ls 4 [(0, .ref (c0 + a)), (1, cl_rf c0 x1), (2, .int x2)]) : W p l e ({ frames := 1, cells := σ0.2.2.2.2.2.1, slots := σ0.2.2.2.2.2.2, locals := 21 }) s m args below meth c H locs cells slots (MQ below (cl_Q true D c0 none cl_no σ0 σ') args s (σ0.2.2.2.2.2.1 - σ'.2.2.2.2.2.1) (σ0.2.2.2.2.2.2 - σ'.2.2.2.2.2.2) (cl_A c0 σ0.2.2.2.1 s.heap.size)) (F0 m 0 ls []) := by
  unfold bc_X5_repeatInput_0 at h
  refine lv_aload_n C.1 C.2.1 dX5_repeatInput_0 rfl (lv_at hl 0 rfl) ?_
  refine cg_5_20 C G ha dX5_repeatInput_1 (fun t_1 => ?_)
  refine cl_aload_n C.1 C.2.1 dX5_repeatInput_4 rfl (lv_at hl 1 rfl) ?_
  obtain ⟨a_2, rfl, h_4⟩ := nn_some h
  have t_3 := f1 _ rfl
  refine cg_5_42 C G t_3 dX5_repeatInput_5 (fun t_5 => ?_)
  refine lv_iload_n C.1 C.2.1 dX5_repeatInput_8 rfl (lv_at hl 2 rfl) ?_
  obtain ⟨hi, h_6⟩ := ix_some h_4
  refine cl_iald C G t_5 hi dX5_repeatInput_9 ?_
  obtain ⟨hi, h_7⟩ := ix_some h_6
  refine cl_aald C G t_1 (by decide) (by decide) rfl hi dX5_repeatInput_10 (fun t_8 => ?_)
  refine vt_r (K := 22) t_8 h_7 (fun r_9 t_10 h_11 => ?_)
  refine cl_astore_n (lv' := [(3, cl_rf c0 r_9), (0, .ref (c0 + a)), (1, .ref (c0 + a_2)), (2, .int x2)]) C.1 C.2.1 dX5_repeatInput_11 rfl hl (by decide) rfl (fun ls hl_12 => ?_)
  refine lv_aload_n C.1 C.2.1 dX5_repeatInput_12 rfl (lv_at hl_12 2 rfl) ?_
  refine cg_5_48 C G t_3 dX5_repeatInput_13 (fun t_13 => ?_)
  refine lv_iload_n C.1 C.2.1 dX5_repeatInput_16 rfl (lv_at hl_12 3 rfl) ?_
  obtain ⟨hi, h_14⟩ := ix_some h_11
  refine cl_aald C G t_13 (by decide) (by decide) rfl hi dX5_repeatInput_17 (fun t_15 => ?_)
  refine vt_r (K := 25) t_15 h_14 (fun r_16 t_17 h_18 => ?_)
  refine lv_aload_n C.1 C.2.1 dX5_repeatInput_18 rfl (lv_at hl_12 1 rfl) ?_
  refine cg_5_51 C G ha dX5_repeatInput_19 (fun t_19 => ?_)
  have t_19 : (T 31).1 = 26 := by rw [t_19]
  refine cg_5_83 C G t_19 dX5_repeatInput_22 (fun t_20 => ?_)
  refine vt_r (K := 25) t_20 h_18 (fun r_21 t_22 h_23 => ?_)
  refine cl_acmp_ne (rx := r_16) (ry := r_21) (tgt := 42) C.1 C.2.1 dX5_repeatInput_25 (by decide) (fun hc => ?_) (fun hc => ?_)
  · rw [if_neg hc] at h_23
    refine cl_aload_n C.1 C.2.1 dX5_repeatInput_42 rfl (lv_at hl_12 0 rfl) ?_
    refine lv_aload_n C.1 C.2.1 dX5_repeatInput_43 rfl (lv_at hl_12 2 rfl) ?_
    refine cg_5_48 C G t_3 dX5_repeatInput_44 (fun t_24 => ?_)
    refine lv_iload_n C.1 C.2.1 dX5_repeatInput_47 rfl (lv_at hl_12 3 rfl) ?_
    obtain ⟨hi, h_25⟩ := ix_some h_23
    refine cl_aald C G t_24 (by decide) (by decide) rfl hi dX5_repeatInput_48 (fun t_26 => ?_)
    refine vt_r (K := 25) t_26 h_25 (fun r_27 t_28 h_29 => ?_)
    obtain ⟨a_30, rfl, h_32⟩ := nn_some h_29
    have t_31 := t_10 _ rfl
    obtain ⟨r_34, σ_33, hq, h_35⟩ := bd2_some h_32
    refine cl_callV (ci := 6) (rest := []) C G rfl t_31 cw_RX5_147 [cl_rf c0 r_27] _ (kc_X6_waitTerm l D c0 (by rw [G.1]; exact t_31) hq (by rw [G.1]; exact t_28)) (Nat.le_of_ble_eq_true rfl) (Nat.le_of_ble_eq_true rfl) rfl rfl hl_12.1 (Nat.le_of_ble_eq_true rfl) dX5_repeatInput_49 (fun T_36 H locs cells slots t_37 hu G_38 => ?_)
    have t_31 := hu.kind t_31 (by decide)
    have ha := hu.kind ha (by decide)
    have t_3 := hu.kind t_3 (by decide)
    refine W.eq (g2 := F0 m 52 ls [.int r_34]) rfl ?_
    refine lv_pop C.1 C.2.1 dX5_repeatInput_52 rfl ?_
    exact cl_vret ⟨rfl, rfl⟩ rfl C G_38 h_35 dX5_repeatInput_53
  · rw [if_pos hc] at h_23
    refine cl_aload_n C.1 C.2.1 dX5_repeatInput_28 rfl (lv_at hl_12 0 rfl) ?_
    refine lv_aload_n C.1 C.2.1 dX5_repeatInput_29 rfl (lv_at hl_12 2 rfl) ?_
    refine cg_5_45 C G t_3 dX5_repeatInput_30 (fun t_39 => ?_)
    refine lv_iload_n C.1 C.2.1 dX5_repeatInput_33 rfl (lv_at hl_12 3 rfl) ?_
    obtain ⟨hi, h_40⟩ := ix_some h_23
    refine cl_iald C G t_39 hi dX5_repeatInput_34 ?_
    obtain ⟨a_41, rfl, h_43⟩ := nn_some h_40
    have t_42 := t_10 _ rfl
    obtain ⟨r_45, σ_44, hq, h_46⟩ := bd2_some h_43
    refine cl_callV (ci := 6) (rest := []) C G rfl t_42 cw_RX5_144 [.int (σ.1 (a_2 + 34 + cl_md a_2) x2.toNatClampNeg)] _ (kc_X6_waitWord l D c0 (by rw [G.1]; exact t_42) hq) (Nat.le_of_ble_eq_true rfl) (Nat.le_of_ble_eq_true rfl) rfl rfl hl_12.1 (Nat.le_of_ble_eq_true rfl) dX5_repeatInput_35 (fun T_47 H locs cells slots t_48 hu G_49 => ?_)
    have t_42 := hu.kind t_42 (by decide)
    have ha := hu.kind ha (by decide)
    have t_3 := hu.kind t_3 (by decide)
    refine W.eq (g2 := F0 m 38 ls [.int r_45]) rfl ?_
    refine lv_pop C.1 C.2.1 dX5_repeatInput_38 rfl ?_
    refine lv_goto (tgt := 53) C.1 C.2.1 dX5_repeatInput_39 (by decide) ?_
    exact cl_vret ⟨rfl, rfl⟩ rfl C G_49 h_46 dX5_repeatInput_53
noncomputable def fc_X5_repeatInput (a : Nat) (x1 : (Option Nat)) (x2 : Int32) (σ : cl_S) : Option (cl_S) := bc_X5_repeatInput_0 a x1 x2 σ
theorem kc_X5_repeatInput (l : Launch) (D : cl_D) (c0 : Nat) {a : Nat} {x1 : (Option Nat)} {x2 : Int32} {σ σ' : cl_S} (ha : (σ.2.2.2.1 a).1 = 21) (h : fc_X5_repeatInput a x1 x2 σ = some σ') (f1 : cl_RT σ.2.2.2.1 x1 21) : cl_Met true l D c0 yX5_repeatInput cX5_repeatInput 4 none 1 21 [.ref (c0 + a), cl_rf c0 x1, .int x2] σ none cl_no σ' :=
  by cases x1 <;> exact cl_of (by decide) (Nat.le_of_ble_eq_true rfl) (fun p e s m args below meth c ls C hn G hl => wc_X5_repeatInput_0 C h G ha f1 hl)
abbrev cX5_repeat : ByteArray := prog_7_method_4_code
def yX5_repeat : MethodName := ⟨RX5, "repeat", "(LPartHouse$Machine;LPartHouse$Disk;I)V"⟩
theorem dX5_repeat_0 : decode cX5_repeat 0 = .ok (.aload_n 0, 1) := by decide +kernel
theorem dX5_repeat_1 : decode cX5_repeat 1 = .ok (.aload_n 1, 1) := by decide +kernel
theorem dX5_repeat_2 : decode cX5_repeat 2 = .ok (.getfield 12, 3) := by decide +kernel
theorem dX5_repeat_5 : decode cX5_repeat 5 = .ok (.invokevirtual 107, 3) := by decide +kernel
theorem dX5_repeat_8 : decode cX5_repeat 8 = .ok (.aload_n 0, 1) := by decide +kernel
theorem dX5_repeat_9 : decode cX5_repeat 9 = .ok (.getfield 55, 3) := by decide +kernel
theorem dX5_repeat_12 : decode cX5_repeat 12 = .ok (.aload_n 2, 1) := by decide +kernel
theorem dX5_repeat_13 : decode cX5_repeat 13 = .ok (.invokevirtual 111, 3) := by decide +kernel
theorem dX5_repeat_16 : decode cX5_repeat 16 = .ok (.iconst 0, 1) := by decide +kernel
theorem dX5_repeat_17 : decode cX5_repeat 17 = .ok (.istore 4, 2) := by decide +kernel
theorem dX5_repeat_19 : decode cX5_repeat 19 = .ok (.iload 4, 2) := by decide +kernel
theorem dX5_repeat_21 : decode cX5_repeat 21 = .ok (.aload_n 0, 1) := by decide +kernel
theorem dX5_repeat_22 : decode cX5_repeat 22 = .ok (.getfield 12, 3) := by decide +kernel
theorem dX5_repeat_25 : decode cX5_repeat 25 = .ok (.getfield 66, 3) := by decide +kernel
theorem dX5_repeat_28 : decode cX5_repeat 28 = .ok (.if_icmp .ge 55, 3) := by decide +kernel
theorem dX5_repeat_31 : decode cX5_repeat 31 = .ok (.aload_n 0, 1) := by decide +kernel
theorem dX5_repeat_32 : decode cX5_repeat 32 = .ok (.getfield 20, 3) := by decide +kernel
theorem dX5_repeat_35 : decode cX5_repeat 35 = .ok (.iload 4, 2) := by decide +kernel
theorem dX5_repeat_37 : decode cX5_repeat 37 = .ok (.aaload, 1) := by decide +kernel
theorem dX5_repeat_38 : decode cX5_repeat 38 = .ok (.aload_n 1, 1) := by decide +kernel
theorem dX5_repeat_39 : decode cX5_repeat 39 = .ok (.getfield 20, 3) := by decide +kernel
theorem dX5_repeat_42 : decode cX5_repeat 42 = .ok (.iload 4, 2) := by decide +kernel
theorem dX5_repeat_44 : decode cX5_repeat 44 = .ok (.aaload, 1) := by decide +kernel
theorem dX5_repeat_45 : decode cX5_repeat 45 = .ok (.invokevirtual 117, 3) := by decide +kernel
theorem dX5_repeat_48 : decode cX5_repeat 48 = .ok (.iload_n 3, 1) := by decide +kernel
theorem dX5_repeat_49 : decode cX5_repeat 49 = .ok (.iload 4, 2) := by decide +kernel
theorem dX5_repeat_51 : decode cX5_repeat 51 = .ok (.ishr, 1) := by decide +kernel
theorem dX5_repeat_52 : decode cX5_repeat 52 = .ok (.iconst 1, 1) := by decide +kernel
theorem dX5_repeat_53 : decode cX5_repeat 53 = .ok (.iand, 1) := by decide +kernel
theorem dX5_repeat_54 : decode cX5_repeat 54 = .ok (.ifCond .ne 23, 3) := by decide +kernel
theorem dX5_repeat_57 : decode cX5_repeat 57 = .ok (.aload_n 0, 1) := by decide +kernel
theorem dX5_repeat_58 : decode cX5_repeat 58 = .ok (.getfield 20, 3) := by decide +kernel
theorem dX5_repeat_61 : decode cX5_repeat 61 = .ok (.iload 4, 2) := by decide +kernel
theorem dX5_repeat_63 : decode cX5_repeat 63 = .ok (.aaload, 1) := by decide +kernel
theorem dX5_repeat_64 : decode cX5_repeat 64 = .ok (.getfield 121, 3) := by decide +kernel
theorem dX5_repeat_67 : decode cX5_repeat 67 = .ok (.iconst 1, 1) := by decide +kernel
theorem dX5_repeat_68 : decode cX5_repeat 68 = .ok (.putfield 125, 3) := by decide +kernel
theorem dX5_repeat_71 : decode cX5_repeat 71 = .ok (.aload_n 0, 1) := by decide +kernel
theorem dX5_repeat_72 : decode cX5_repeat 72 = .ok (.iload 4, 2) := by decide +kernel
theorem dX5_repeat_74 : decode cX5_repeat 74 = .ok (.invokevirtual 130, 3) := by decide +kernel
theorem dX5_repeat_77 : decode cX5_repeat 77 = .ok (.iinc 4 1, 3) := by decide +kernel
theorem dX5_repeat_80 : decode cX5_repeat 80 = .ok (.goto (-61), 3) := by decide +kernel
theorem dX5_repeat_83 : decode cX5_repeat 83 = .ok (.aload_n 0, 1) := by decide +kernel
theorem dX5_repeat_84 : decode cX5_repeat 84 = .ok (.iconst 1, 1) := by decide +kernel
theorem dX5_repeat_85 : decode cX5_repeat 85 = .ok (.putfield 133, 3) := by decide +kernel
theorem dX5_repeat_88 : decode cX5_repeat 88 = .ok (.iconst 0, 1) := by decide +kernel
theorem dX5_repeat_89 : decode cX5_repeat 89 = .ok (.istore 4, 2) := by decide +kernel
theorem dX5_repeat_91 : decode cX5_repeat 91 = .ok (.iload 4, 2) := by decide +kernel
theorem dX5_repeat_93 : decode cX5_repeat 93 = .ok (.aload_n 1, 1) := by decide +kernel
theorem dX5_repeat_94 : decode cX5_repeat 94 = .ok (.getfield 104, 3) := by decide +kernel
theorem dX5_repeat_97 : decode cX5_repeat 97 = .ok (.if_icmp .ge 56, 3) := by decide +kernel
theorem dX5_repeat_100 : decode cX5_repeat 100 = .ok (.iload 4, 2) := by decide +kernel
theorem dX5_repeat_102 : decode cX5_repeat 102 = .ok (.sipush 500, 3) := by decide +kernel
theorem dX5_repeat_105 : decode cX5_repeat 105 = .ok (.if_icmp .ge 48, 3) := by decide +kernel
theorem dX5_repeat_108 : decode cX5_repeat 108 = .ok (.aload_n 0, 1) := by decide +kernel
theorem dX5_repeat_109 : decode cX5_repeat 109 = .ok (.aload_n 1, 1) := by decide +kernel
theorem dX5_repeat_110 : decode cX5_repeat 110 = .ok (.getfield 39, 3) := by decide +kernel
theorem dX5_repeat_113 : decode cX5_repeat 113 = .ok (.iload 4, 2) := by decide +kernel
theorem dX5_repeat_115 : decode cX5_repeat 115 = .ok (.iaload, 1) := by decide +kernel
theorem dX5_repeat_116 : decode cX5_repeat 116 = .ok (.aload_n 0, 1) := by decide +kernel
theorem dX5_repeat_117 : decode cX5_repeat 117 = .ok (.getfield 89, 3) := by decide +kernel
theorem dX5_repeat_120 : decode cX5_repeat 120 = .ok (.isub, 1) := by decide +kernel
theorem dX5_repeat_121 : decode cX5_repeat 121 = .ok (.invokevirtual 136, 3) := by decide +kernel
theorem dX5_repeat_124 : decode cX5_repeat 124 = .ok (.pop, 1) := by decide +kernel
theorem dX5_repeat_125 : decode cX5_repeat 125 = .ok (.iload_n 3, 1) := by decide +kernel
theorem dX5_repeat_126 : decode cX5_repeat 126 = .ok (.aload_n 1, 1) := by decide +kernel
theorem dX5_repeat_127 : decode cX5_repeat 127 = .ok (.getfield 42, 3) := by decide +kernel
theorem dX5_repeat_130 : decode cX5_repeat 130 = .ok (.iload 4, 2) := by decide +kernel
theorem dX5_repeat_132 : decode cX5_repeat 132 = .ok (.iaload, 1) := by decide +kernel
theorem dX5_repeat_133 : decode cX5_repeat 133 = .ok (.ishr, 1) := by decide +kernel
theorem dX5_repeat_134 : decode cX5_repeat 134 = .ok (.iconst 1, 1) := by decide +kernel
theorem dX5_repeat_135 : decode cX5_repeat 135 = .ok (.iand, 1) := by decide +kernel
theorem dX5_repeat_136 : decode cX5_repeat 136 = .ok (.iconst 1, 1) := by decide +kernel
theorem dX5_repeat_137 : decode cX5_repeat 137 = .ok (.if_icmp .ne 10, 3) := by decide +kernel
theorem dX5_repeat_140 : decode cX5_repeat 140 = .ok (.aload_n 0, 1) := by decide +kernel
theorem dX5_repeat_141 : decode cX5_repeat 141 = .ok (.aload_n 1, 1) := by decide +kernel
theorem dX5_repeat_142 : decode cX5_repeat 142 = .ok (.iload 4, 2) := by decide +kernel
theorem dX5_repeat_144 : decode cX5_repeat 144 = .ok (.invokevirtual 140, 3) := by decide +kernel
theorem dX5_repeat_147 : decode cX5_repeat 147 = .ok (.iinc 4 1, 3) := by decide +kernel
theorem dX5_repeat_150 : decode cX5_repeat 150 = .ok (.goto (-59), 3) := by decide +kernel
theorem dX5_repeat_153 : decode cX5_repeat 153 = .ok (.aload_n 0, 1) := by decide +kernel
theorem dX5_repeat_154 : decode cX5_repeat 154 = .ok (.aload_n 1, 1) := by decide +kernel
theorem dX5_repeat_155 : decode cX5_repeat 155 = .ok (.getfield 89, 3) := by decide +kernel
theorem dX5_repeat_158 : decode cX5_repeat 158 = .ok (.aload_n 0, 1) := by decide +kernel
theorem dX5_repeat_159 : decode cX5_repeat 159 = .ok (.getfield 89, 3) := by decide +kernel
theorem dX5_repeat_162 : decode cX5_repeat 162 = .ok (.isub, 1) := by decide +kernel
theorem dX5_repeat_163 : decode cX5_repeat 163 = .ok (.invokevirtual 136, 3) := by decide +kernel
theorem dX5_repeat_166 : decode cX5_repeat 166 = .ok (.pop, 1) := by decide +kernel
theorem dX5_repeat_167 : decode cX5_repeat 167 = .ok (.aload_n 0, 1) := by decide +kernel
theorem dX5_repeat_168 : decode cX5_repeat 168 = .ok (.iconst 0, 1) := by decide +kernel
theorem dX5_repeat_169 : decode cX5_repeat 169 = .ok (.putfield 133, 3) := by decide +kernel
theorem dX5_repeat_172 : decode cX5_repeat 172 = .ok (.return_, 1) := by decide +kernel
theorem cc_X5_repeat : Cond.code yX5_repeat cX5_repeat 5 none ∈ rf_tb := rf_at 1478 (by decide +kernel) (by decide +kernel)
theorem cw_RX5_107 : cl_wV RX5 RX5 yX5_begin cX5_begin 3 none 107 1 := ⟨⟨rf_at 1479 (by decide +kernel) (by decide +kernel), rf_at 1043 (by decide +kernel) (by decide +kernel), rf_at 1044 (by decide +kernel) (by decide +kernel), cc_X5_begin, rf_at 13 (by decide +kernel) (by decide +kernel)⟩, ⟨by decide, by decide, by decide +kernel⟩⟩
theorem cw_RX5_111 : cl_wV RX5 RX3 yX3_copyFrom cX3_copyFrom 3 none 111 1 := ⟨⟨rf_at 1480 (by decide +kernel) (by decide +kernel), rf_at 1039 (by decide +kernel) (by decide +kernel), rf_at 1040 (by decide +kernel) (by decide +kernel), cc_X3_copyFrom, rf_at 12 (by decide +kernel) (by decide +kernel)⟩, ⟨by decide, by decide, by decide +kernel⟩⟩
theorem cw_RX5_117 : cl_wV RX5 RX6 yX6_loadAs cX6_loadAs 3 none 117 1 := ⟨⟨rf_at 1481 (by decide +kernel) (by decide +kernel), rf_at 1482 (by decide +kernel) (by decide +kernel), rf_at 1483 (by decide +kernel) (by decide +kernel), cc_X6_loadAs, rf_at 15 (by decide +kernel) (by decide +kernel)⟩, ⟨by decide, by decide, by decide +kernel⟩⟩
theorem cw_RX5_130 : cl_wV RX5 RX5 yX5_emptyArea cX5_emptyArea 3 none 130 1 := ⟨⟨rf_at 1486 (by decide +kernel) (by decide +kernel), rf_at 1488 (by decide +kernel) (by decide +kernel), rf_sel (q := (yX5_emptyArea, 20)) 75 (by decide +kernel) (by decide +kernel), cc_X5_emptyArea, rf_at 13 (by decide +kernel) (by decide +kernel)⟩, ⟨by decide, by decide, by decide +kernel⟩⟩
theorem cw_RX5_136 : cl_wV RX5 RX5 yX5_runTicks cX5_runTicks 6 (some .int) 136 1 := ⟨⟨rf_at 1490 (by decide +kernel) (by decide +kernel), rf_at 1105 (by decide +kernel) (by decide +kernel), rf_at 1106 (by decide +kernel) (by decide +kernel), cc_X5_runTicks, rf_at 13 (by decide +kernel) (by decide +kernel)⟩, ⟨by decide, by decide, by decide +kernel⟩⟩
theorem cw_RX5_140 : cl_wV RX5 RX5 yX5_repeatInput cX5_repeatInput 4 none 140 2 := ⟨⟨rf_at 1491 (by decide +kernel) (by decide +kernel), rf_at 1493 (by decide +kernel) (by decide +kernel), rf_sel (q := (yX5_repeatInput, 20)) 76 (by decide +kernel) (by decide +kernel), cc_X5_repeatInput, rf_at 13 (by decide +kernel) (by decide +kernel)⟩, ⟨by decide, by decide, by decide +kernel⟩⟩
noncomputable def bc_X5_repeat_77i19 (a : Nat) (x1 : (Option Nat)) (x3 : Int32) (x4 : Int32) (σ : cl_S) : Option ((Int32 × cl_S) ⊕ (Int32 × cl_S)) := vl (x4 + (1:Int32)) (fun x4_56 => some (.inl (x4_56, σ)))
set_option maxHeartbeats 4000000 in
theorem wc_X5_repeat_77i19 (C : cl_C D p s m args meth c cX5_repeat 5 none RX5) {a : Nat} {x1 : (Option Nat)} {x3 : Int32} {x4 : Int32} {σ0 σ σ' : cl_S} {T : Nat → Nat × Nat} {H : Heap} {locs : List Loc} {ls : Array Slot} {cells slots : Nat} {o : (Int32 × cl_S) ⊕ (Int32 × cl_S)} (h : bc_X5_repeat_77i19 a x1 x3 x4 σ = some o) (hP : Sum.elim (fun z : (Int32 × cl_S) => ∀ (T : Nat → Nat × Nat) (H : Heap) (locs : List Loc) (ls : Array Slot) (cells slots : Nat), cl_G true D c0 ({ frames := 7, cells := σ0.2.2.2.2.2.1, slots := σ0.2.2.2.2.2.2, locals := 173 }) s σ0.2.2.2.1 T z.2 H locs cells slots → (T a).1 = 21 → cl_RT T x1 21 → lv_has ls 5 [(0, .ref (c0 + a)), (1, cl_rf c0 x1), (3, .int x3), (4, .int (z.1))] → W p l e ({ frames := 7, cells := σ0.2.2.2.2.2.1, slots := σ0.2.2.2.2.2.2, locals := 173 }) s m args below meth c H locs cells slots (MQ below (cl_Q true D c0 none cl_no σ0 σ') args s (σ0.2.2.2.2.2.1 - σ'.2.2.2.2.2.1) (σ0.2.2.2.2.2.2 - σ'.2.2.2.2.2.2) (cl_A c0 σ0.2.2.2.1 s.heap.size)) (F0 m 19 ls [])) (fun z : (Int32 × cl_S) => ∀ (T : Nat → Nat × Nat) (H : Heap) (locs : List Loc) (ls : Array Slot) (cells slots : Nat), cl_G true D c0 ({ frames := 7, cells := σ0.2.2.2.2.2.1, slots := σ0.2.2.2.2.2.2, locals := 173 }) s σ0.2.2.2.1 T z.2 H locs cells slots → (T a).1 = 21 → cl_RT T x1 21 → lv_has ls 5 [(0, .ref (c0 + a)), (1, cl_rf c0 x1), (3, .int x3), (4, .int (z.1))] → W p l e ({ frames := 7, cells := σ0.2.2.2.2.2.1, slots := σ0.2.2.2.2.2.2, locals := 173 }) s m args below meth c H locs cells slots (MQ below (cl_Q true D c0 none cl_no σ0 σ') args s (σ0.2.2.2.2.2.1 - σ'.2.2.2.2.2.1) (σ0.2.2.2.2.2.2 - σ'.2.2.2.2.2.2) (cl_A c0 σ0.2.2.2.1 s.heap.size)) (F0 m 83 ls [])) o) (G : cl_G true D c0 ({ frames := 7, cells := σ0.2.2.2.2.2.1, slots := σ0.2.2.2.2.2.2, locals := 173 }) s σ0.2.2.2.1 T σ H locs cells slots) (ha : (T a).1 = 21) (f1 : cl_RT T x1 21) (hl : lv_has ls 5 [(0, .ref (c0 + a)), (1, cl_rf c0 x1), (3, .int x3), (4, .int x4)]) : W p l e ({ frames := 7, cells := σ0.2.2.2.2.2.1, slots := σ0.2.2.2.2.2.2, locals := 173 }) s m args below meth c H locs cells slots (MQ below (cl_Q true D c0 none cl_no σ0 σ') args s (σ0.2.2.2.2.2.1 - σ'.2.2.2.2.2.1) (σ0.2.2.2.2.2.2 - σ'.2.2.2.2.2.2) (cl_A c0 σ0.2.2.2.1 s.heap.size)) (F0 m 77 ls []) := by
  unfold bc_X5_repeat_77i19 at h
  refine vl_ex h (fun x4_56 ey h_57 => ?_)
  refine lv_iinc (v := x4_56) (lv' := [(4, .int x4_56), (0, .ref (c0 + a)), (1, cl_rf c0 x1), (3, .int x3)]) C.1 C.2.1 dX5_repeat_77 hl (k := 3) rfl (by rw [ey]; rfl) (by decide) (by first | rfl | (cases x1 <;> rfl)) (fun ls hl_58 => ?_)
  refine lv_goto (tgt := 19) C.1 C.2.1 dX5_repeat_80 (by decide) ?_
  cases h_57
  exact hP _ _ _ _ _ _ G ha f1 (lv_sub hl_58 [1, 2, 3, 0] rfl)
noncomputable def lc_X5_repeat_19 (a : Nat) (x1 : (Option Nat)) (x3 : Int32) (x4 : Int32) (σ : cl_S) : Option ((Int32 × cl_S) ⊕ (Int32 × cl_S)) := vl (σ.2.2.1 a 3) (fun r_27 => nn r_27 (fun a_30 => (if (σ.1 a_30 0) ≤ x4 then some (.inr (x4, σ)) else ix x4 8 (vl (σ.2.2.1 (a + 12 + cl_md a) x4.toNatClampNeg) (fun r_36 => nn x1 (fun a_39 => ix x4 8 (vl (σ.2.2.1 (a_39 + 12 + cl_md a_39) x4.toNatClampNeg) (fun r_45 => nn r_36 (fun a_48 => bd1 (fc_X6_loadAs a_48 r_45 σ) (fun σ_51 => (if ((x3 >>> (x4 &&& 31)) &&& (1:Int32)) = 0 then ix x4 8 (vl (σ_51.2.2.1 (a + 12 + cl_md a) x4.toNatClampNeg) (fun r_62 => nn r_62 (fun a_65 => vl (cl_w σ_51 (a_65 + 1) 7 (1:Int32)) (fun σ_69 => bd1 (fc_X5_emptyArea a x4 σ_69) (fun σ_73 => bc_X5_repeat_77i19 a (some a_39) x3 x4 σ_73))))) else bc_X5_repeat_77i19 a (some a_39) x3 x4 σ_51)))))))))))
noncomputable def bc_X5_repeat_147i91 (a : Nat) (x1 : (Option Nat)) (x3 : Int32) (x4 : Int32) (σ : cl_S) : Option ((Int32 × cl_S) ⊕ (Int32 × cl_S)) := vl (x4 + (1:Int32)) (fun x4_96 => some (.inl (x4_96, σ)))
set_option maxHeartbeats 4000000 in
theorem wc_X5_repeat_147i91 (C : cl_C D p s m args meth c cX5_repeat 5 none RX5) {a : Nat} {x1 : (Option Nat)} {x3 : Int32} {x4 : Int32} {σ0 σ σ' : cl_S} {T : Nat → Nat × Nat} {H : Heap} {locs : List Loc} {ls : Array Slot} {cells slots : Nat} {o : (Int32 × cl_S) ⊕ (Int32 × cl_S)} (h : bc_X5_repeat_147i91 a x1 x3 x4 σ = some o) (hP : Sum.elim (fun z : (Int32 × cl_S) => ∀ (T : Nat → Nat × Nat) (H : Heap) (locs : List Loc) (ls : Array Slot) (cells slots : Nat), cl_G true D c0 ({ frames := 7, cells := σ0.2.2.2.2.2.1, slots := σ0.2.2.2.2.2.2, locals := 173 }) s σ0.2.2.2.1 T z.2 H locs cells slots → (T a).1 = 21 → cl_RT T x1 21 → lv_has ls 5 [(0, .ref (c0 + a)), (1, cl_rf c0 x1), (3, .int x3), (4, .int (z.1))] → W p l e ({ frames := 7, cells := σ0.2.2.2.2.2.1, slots := σ0.2.2.2.2.2.2, locals := 173 }) s m args below meth c H locs cells slots (MQ below (cl_Q true D c0 none cl_no σ0 σ') args s (σ0.2.2.2.2.2.1 - σ'.2.2.2.2.2.1) (σ0.2.2.2.2.2.2 - σ'.2.2.2.2.2.2) (cl_A c0 σ0.2.2.2.1 s.heap.size)) (F0 m 91 ls [])) (fun z : (Int32 × cl_S) => ∀ (T : Nat → Nat × Nat) (H : Heap) (locs : List Loc) (ls : Array Slot) (cells slots : Nat), cl_G true D c0 ({ frames := 7, cells := σ0.2.2.2.2.2.1, slots := σ0.2.2.2.2.2.2, locals := 173 }) s σ0.2.2.2.1 T z.2 H locs cells slots → (T a).1 = 21 → cl_RT T x1 21 → lv_has ls 5 [(0, .ref (c0 + a)), (1, cl_rf c0 x1), (3, .int x3), (4, .int (z.1))] → W p l e ({ frames := 7, cells := σ0.2.2.2.2.2.1, slots := σ0.2.2.2.2.2.2, locals := 173 }) s m args below meth c H locs cells slots (MQ below (cl_Q true D c0 none cl_no σ0 σ') args s (σ0.2.2.2.2.2.1 - σ'.2.2.2.2.2.1) (σ0.2.2.2.2.2.2 - σ'.2.2.2.2.2.2) (cl_A c0 σ0.2.2.2.1 s.heap.size)) (F0 m 153 ls [])) o) (G : cl_G true D c0 ({ frames := 7, cells := σ0.2.2.2.2.2.1, slots := σ0.2.2.2.2.2.2, locals := 173 }) s σ0.2.2.2.1 T σ H locs cells slots) (ha : (T a).1 = 21) (f1 : cl_RT T x1 21) (hl : lv_has ls 5 [(0, .ref (c0 + a)), (1, cl_rf c0 x1), (3, .int x3), (4, .int x4)]) : W p l e ({ frames := 7, cells := σ0.2.2.2.2.2.1, slots := σ0.2.2.2.2.2.2, locals := 173 }) s m args below meth c H locs cells slots (MQ below (cl_Q true D c0 none cl_no σ0 σ') args s (σ0.2.2.2.2.2.1 - σ'.2.2.2.2.2.1) (σ0.2.2.2.2.2.2 - σ'.2.2.2.2.2.2) (cl_A c0 σ0.2.2.2.1 s.heap.size)) (F0 m 147 ls []) := by
  unfold bc_X5_repeat_147i91 at h
  refine vl_ex h (fun x4_96 ey h_97 => ?_)
  refine lv_iinc (v := x4_96) (lv' := [(4, .int x4_96), (0, .ref (c0 + a)), (1, cl_rf c0 x1), (3, .int x3)]) C.1 C.2.1 dX5_repeat_147 hl (k := 3) rfl (by rw [ey]; rfl) (by decide) (by first | rfl | (cases x1 <;> rfl)) (fun ls hl_98 => ?_)
  refine lv_goto (tgt := 91) C.1 C.2.1 dX5_repeat_150 (by decide) ?_
  cases h_97
  exact hP _ _ _ _ _ _ G ha f1 (lv_sub hl_98 [1, 2, 3, 0] rfl)
noncomputable def lc_X5_repeat_91 (a : Nat) (x1 : (Option Nat)) (x3 : Int32) (x4 : Int32) (σ : cl_S) : Option ((Int32 × cl_S) ⊕ (Int32 × cl_S)) := nn x1 (fun a_83 => (if (σ.1 a_83 15) ≤ x4 then some (.inr (x4, σ)) else (if (500:Int32) ≤ x4 then some (.inr (x4, σ)) else ix x4 500 (bd2 (fc_X5_runTicks a ((σ.1 (a_83 + 32 + cl_md a_83) x4.toNatClampNeg) - (σ.1 a 9)) σ) (fun r_89 σ_88 => ix x4 500 ((if ((x3 >>> ((σ_88.1 (a_83 + 33 + cl_md a_83) x4.toNatClampNeg) &&& 31)) &&& (1:Int32)) = (1:Int32) then bd1 (fc_X5_repeatInput a (some a_83) x4 σ_88) (fun σ_99 => bc_X5_repeat_147i91 a (some a_83) x3 x4 σ_99) else bc_X5_repeat_147i91 a (some a_83) x3 x4 σ_88)))))))
noncomputable def bc_X5_repeat_153 (a : Nat) (x1 : (Option Nat)) (σ : cl_S) : Option (cl_S) := nn x1 (fun a_104 => bd2 (fc_X5_runTicks a ((σ.1 a_104 9) - (σ.1 a 9)) σ) (fun r_108 σ_107 => vl (cl_w σ_107 a 8 (0:Int32)) (fun σ_113 => some σ_113)))
set_option maxHeartbeats 4000000 in
theorem wc_X5_repeat_153 (C : cl_C D p s m args meth c cX5_repeat 5 none RX5) {a : Nat} {x1 : (Option Nat)} {σ0 σ σ' : cl_S} {T : Nat → Nat × Nat} {H : Heap} {locs : List Loc} {ls : Array Slot} {cells slots : Nat} (h : bc_X5_repeat_153 a x1 σ = some σ') (G : cl_G true D c0 ({ frames := 7, cells := σ0.2.2.2.2.2.1, slots := σ0.2.2.2.2.2.2, locals := 173 }) s σ0.2.2.2.1 T σ H locs cells slots) (ha : (T a).1 = 21) (f1 : cl_RT T x1 21) (hl : lv_has ls 5 [(0, .ref (c0 + a)), (1, cl_rf c0 x1)]) : W p l e ({ frames := 7, cells := σ0.2.2.2.2.2.1, slots := σ0.2.2.2.2.2.2, locals := 173 }) s m args below meth c H locs cells slots (MQ below (cl_Q true D c0 none cl_no σ0 σ') args s (σ0.2.2.2.2.2.1 - σ'.2.2.2.2.2.1) (σ0.2.2.2.2.2.2 - σ'.2.2.2.2.2.2) (cl_A c0 σ0.2.2.2.1 s.heap.size)) (F0 m 153 ls []) := by
  unfold bc_X5_repeat_153 at h
  refine lv_aload_n C.1 C.2.1 dX5_repeat_153 rfl (lv_at hl 0 rfl) ?_
  refine cl_aload_n C.1 C.2.1 dX5_repeat_154 rfl (lv_at hl 1 rfl) ?_
  obtain ⟨a_104, rfl, h_106⟩ := nn_some h
  have t_105 := f1 _ rfl
  refine cg_5_89 C G t_105 dX5_repeat_155 ?_
  refine lv_aload_n C.1 C.2.1 dX5_repeat_158 rfl (lv_at hl 0 rfl) ?_
  refine cg_5_89 C G ha dX5_repeat_159 ?_
  refine lv_isub C.1 C.2.1 dX5_repeat_162 ?_
  obtain ⟨r_108, σ_107, hq, h_109⟩ := bd2_some h_106
  refine cl_callV (ci := 5) (rest := []) C G rfl ha cw_RX5_136 [.int ((σ.1 a_104 9) - (σ.1 a 9))] _ (kc_X5_runTicks l D c0 (by rw [G.1]; exact ha) hq) (Nat.le_of_ble_eq_true rfl) (Nat.le_of_ble_eq_true rfl) rfl rfl hl.1 (Nat.le_of_ble_eq_true rfl) dX5_repeat_163 (fun T_110 H locs cells slots t_111 hu G_112 => ?_)
  have ha := hu.kind ha (by decide)
  have t_105 := hu.kind t_105 (by decide)
  refine W.eq (g2 := F0 m 166 ls [.int r_108]) rfl ?_
  refine lv_pop C.1 C.2.1 dX5_repeat_166 rfl ?_
  refine lv_aload_n C.1 C.2.1 dX5_repeat_167 rfl (lv_at hl 0 rfl) ?_
  refine lv_iconst (v := (0:Int32)) C.1 C.2.1 dX5_repeat_168 (by decide) ?_
  refine cp_5_133 C G_112 ha rfl rfl dX5_repeat_169 (fun H locs G_114 => ?_)
  refine cl_nm G_114 h_109 (fun σ_113 G_115 h_116 => ?_)
  exact cl_vret ⟨rfl, rfl⟩ rfl C G_115 h_116 dX5_repeat_172
noncomputable def ec_X5_repeat_91 (a : Nat) (x1 : (Option Nat)) (x3 : Int32) (x4 : Int32) (σ : cl_S) : Option (cl_S) := bc_X5_repeat_153 a x1 σ
noncomputable def bc_X5_repeat_91 (a : Nat) (x1 : (Option Nat)) (x3 : Int32) (x4 : Int32) (σ : cl_S) : Option (cl_S) := (lp (fun z : (Int32 × cl_S) => lc_X5_repeat_91 a x1 x3 z.1 z.2) (x4, σ)).bind (fun z => ec_X5_repeat_91 a x1 x3 z.1 z.2)
set_option maxHeartbeats 4000000 in
theorem wc_X5_repeat_91 (C : cl_C D p s m args meth c cX5_repeat 5 none RX5) {a : Nat} {x1 : (Option Nat)} {x3 : Int32} {x4 : Int32} {σ0 σ σ' : cl_S} {T : Nat → Nat × Nat} {H : Heap} {locs : List Loc} {ls : Array Slot} {cells slots : Nat} (h : bc_X5_repeat_91 a x1 x3 x4 σ = some σ') (G : cl_G true D c0 ({ frames := 7, cells := σ0.2.2.2.2.2.1, slots := σ0.2.2.2.2.2.2, locals := 173 }) s σ0.2.2.2.1 T σ H locs cells slots) (ha : (T a).1 = 21) (f1 : cl_RT T x1 21) (hl : lv_has ls 5 [(0, .ref (c0 + a)), (1, cl_rf c0 x1), (3, .int x3), (4, .int x4)]) : W p l e ({ frames := 7, cells := σ0.2.2.2.2.2.1, slots := σ0.2.2.2.2.2.2, locals := 173 }) s m args below meth c H locs cells slots (MQ below (cl_Q true D c0 none cl_no σ0 σ') args s (σ0.2.2.2.2.2.1 - σ'.2.2.2.2.2.1) (σ0.2.2.2.2.2.2 - σ'.2.2.2.2.2.2) (cl_A c0 σ0.2.2.2.1 s.heap.size)) (F0 m 91 ls []) := by
  unfold bc_X5_repeat_91 at h
  obtain ⟨y, hy, h⟩ := bd_some h
  have hE : (fun z : (Int32 × cl_S) => ∀ (T : Nat → Nat × Nat) (H : Heap) (locs : List Loc) (ls : Array Slot) (cells slots : Nat), cl_G true D c0 ({ frames := 7, cells := σ0.2.2.2.2.2.1, slots := σ0.2.2.2.2.2.2, locals := 173 }) s σ0.2.2.2.1 T z.2 H locs cells slots → (T a).1 = 21 → cl_RT T x1 21 → lv_has ls 5 [(0, .ref (c0 + a)), (1, cl_rf c0 x1), (3, .int x3), (4, .int (z.1))] → W p l e ({ frames := 7, cells := σ0.2.2.2.2.2.1, slots := σ0.2.2.2.2.2.2, locals := 173 }) s m args below meth c H locs cells slots (MQ below (cl_Q true D c0 none cl_no σ0 σ') args s (σ0.2.2.2.2.2.1 - σ'.2.2.2.2.2.1) (σ0.2.2.2.2.2.2 - σ'.2.2.2.2.2.2) (cl_A c0 σ0.2.2.2.1 s.heap.size)) (F0 m 153 ls [])) y := by
    clear hy G ha f1 hl
    intro T H locs ls cells slots G ha f1 hl
    obtain ⟨x4, σ⟩ := y
    dsimp only at h G ha f1 hl
    unfold ec_X5_repeat_91 at h
    exact wc_X5_repeat_153 C h G ha f1 (lv_sub hl [0, 1] rfl)
  refine lp_recE (fun z : (Int32 × cl_S) => ∀ (T : Nat → Nat × Nat) (H : Heap) (locs : List Loc) (ls : Array Slot) (cells slots : Nat), cl_G true D c0 ({ frames := 7, cells := σ0.2.2.2.2.2.1, slots := σ0.2.2.2.2.2.2, locals := 173 }) s σ0.2.2.2.1 T z.2 H locs cells slots → (T a).1 = 21 → cl_RT T x1 21 → lv_has ls 5 [(0, .ref (c0 + a)), (1, cl_rf c0 x1), (3, .int x3), (4, .int (z.1))] → W p l e ({ frames := 7, cells := σ0.2.2.2.2.2.1, slots := σ0.2.2.2.2.2.2, locals := 173 }) s m args below meth c H locs cells slots (MQ below (cl_Q true D c0 none cl_no σ0 σ') args s (σ0.2.2.2.2.2.1 - σ'.2.2.2.2.2.1) (σ0.2.2.2.2.2.2 - σ'.2.2.2.2.2.2) (cl_A c0 σ0.2.2.2.1 s.heap.size)) (F0 m 91 ls [])) (fun z : (Int32 × cl_S) => ∀ (T : Nat → Nat × Nat) (H : Heap) (locs : List Loc) (ls : Array Slot) (cells slots : Nat), cl_G true D c0 ({ frames := 7, cells := σ0.2.2.2.2.2.1, slots := σ0.2.2.2.2.2.2, locals := 173 }) s σ0.2.2.2.1 T z.2 H locs cells slots → (T a).1 = 21 → cl_RT T x1 21 → lv_has ls 5 [(0, .ref (c0 + a)), (1, cl_rf c0 x1), (3, .int x3), (4, .int (z.1))] → W p l e ({ frames := 7, cells := σ0.2.2.2.2.2.1, slots := σ0.2.2.2.2.2.2, locals := 173 }) s m args below meth c H locs cells slots (MQ below (cl_Q true D c0 none cl_no σ0 σ') args s (σ0.2.2.2.2.2.1 - σ'.2.2.2.2.2.1) (σ0.2.2.2.2.2.2 - σ'.2.2.2.2.2.2) (cl_A c0 σ0.2.2.2.1 s.heap.size)) (F0 m 153 ls [])) ?_ _ _ hy hE _ _ _ _ _ _ G ha f1 hl
  clear hE hy G ha f1 hl h
  intro z o h hP T H locs ls cells slots G ha f1 hl
  obtain ⟨x4, σ⟩ := z
  dsimp only at h G ha f1 hl
  unfold lc_X5_repeat_91 at h
  refine lv_iload C.1 C.2.1 dX5_repeat_91 (lv_at hl 3 rfl) ?_
  refine cl_aload_n C.1 C.2.1 dX5_repeat_93 rfl (lv_at hl 1 rfl) ?_
  obtain ⟨a_83, rfl, h_85⟩ := nn_some h
  have t_84 := f1 _ rfl
  refine cg_5_104 C G t_84 dX5_repeat_94 ?_
  refine lv_icmp_ge (tgt := 153) C.1 C.2.1 dX5_repeat_97 (by decide) (fun hc => ?_) (fun hc => ?_)
  · rw [if_pos hc] at h_85
    cases h_85
    exact hP _ _ _ _ _ _ G ha (cl_RTs t_84) (lv_sub hl [0, 1, 2, 3] rfl)
  · rw [if_neg hc] at h_85
    refine lv_iload C.1 C.2.1 dX5_repeat_100 (lv_at hl 3 rfl) ?_
    refine lv_sipush (v := (500:Int32)) C.1 C.2.1 dX5_repeat_102 (by decide) ?_
    refine lv_icmp_ge (tgt := 153) C.1 C.2.1 dX5_repeat_105 (by decide) (fun hc => ?_) (fun hc => ?_)
    · rw [if_pos hc] at h_85
      cases h_85
      exact hP _ _ _ _ _ _ G ha (cl_RTs t_84) (lv_sub hl [0, 1, 2, 3] rfl)
    · rw [if_neg hc] at h_85
      refine lv_aload_n C.1 C.2.1 dX5_repeat_108 rfl (lv_at hl 0 rfl) ?_
      refine lv_aload_n C.1 C.2.1 dX5_repeat_109 rfl (lv_at hl 1 rfl) ?_
      refine cg_5_39 C G t_84 dX5_repeat_110 (fun t_86 => ?_)
      refine lv_iload C.1 C.2.1 dX5_repeat_113 (lv_at hl 3 rfl) ?_
      obtain ⟨hi, h_87⟩ := ix_some h_85
      refine cl_iald C G t_86 hi dX5_repeat_115 ?_
      refine lv_aload_n C.1 C.2.1 dX5_repeat_116 rfl (lv_at hl 0 rfl) ?_
      refine cg_5_89 C G ha dX5_repeat_117 ?_
      refine lv_isub C.1 C.2.1 dX5_repeat_120 ?_
      obtain ⟨r_89, σ_88, hq, h_90⟩ := bd2_some h_87
      refine cl_callV (ci := 5) (rest := []) C G rfl ha cw_RX5_136 [.int ((σ.1 (a_83 + 32 + cl_md a_83) x4.toNatClampNeg) - (σ.1 a 9))] _ (kc_X5_runTicks l D c0 (by rw [G.1]; exact ha) hq) (Nat.le_of_ble_eq_true rfl) (Nat.le_of_ble_eq_true rfl) rfl rfl hl.1 (Nat.le_of_ble_eq_true rfl) dX5_repeat_121 (fun T_91 H locs cells slots t_92 hu G_93 => ?_)
      have ha := hu.kind ha (by decide)
      have t_84 := hu.kind t_84 (by decide)
      refine W.eq (g2 := F0 m 124 ls [.int r_89]) rfl ?_
      refine lv_pop C.1 C.2.1 dX5_repeat_124 rfl ?_
      refine lv_iload_n C.1 C.2.1 dX5_repeat_125 rfl (lv_at hl 2 rfl) ?_
      refine lv_aload_n C.1 C.2.1 dX5_repeat_126 rfl (lv_at hl 1 rfl) ?_
      refine cg_5_42 C G_93 t_84 dX5_repeat_127 (fun t_94 => ?_)
      refine lv_iload C.1 C.2.1 dX5_repeat_130 (lv_at hl 3 rfl) ?_
      obtain ⟨hi, h_95⟩ := ix_some h_90
      refine cl_iald C G_93 t_94 hi dX5_repeat_132 ?_
      refine lv_ishr C.1 C.2.1 dX5_repeat_133 ?_
      refine lv_iconst (v := (1:Int32)) C.1 C.2.1 dX5_repeat_134 (by decide) ?_
      refine lv_iand C.1 C.2.1 dX5_repeat_135 ?_
      refine lv_iconst (v := (1:Int32)) C.1 C.2.1 dX5_repeat_136 (by decide) ?_
      refine lv_icmp_ne (tgt := 147) C.1 C.2.1 dX5_repeat_137 (by decide) (fun hc => ?_) (fun hc => ?_)
      · rw [if_neg hc] at h_95
        exact wc_X5_repeat_147i91 C h_95 hP G_93 ha (cl_RTs t_84) (lv_sub hl [0, 1, 2, 3] rfl)
      · rw [if_pos hc] at h_95
        refine lv_aload_n C.1 C.2.1 dX5_repeat_140 rfl (lv_at hl 0 rfl) ?_
        refine lv_aload_n C.1 C.2.1 dX5_repeat_141 rfl (lv_at hl 1 rfl) ?_
        refine lv_iload C.1 C.2.1 dX5_repeat_142 (lv_at hl 3 rfl) ?_
        obtain ⟨σ_99, hq, h_100⟩ := bd1_some h_95
        refine cl_callV (ci := 5) (rest := []) C G_93 rfl ha cw_RX5_140 [.ref (c0 + a_83), .int x4] _ (kc_X5_repeatInput l D c0 (by rw [G_93.1]; exact ha) hq (by rw [G_93.1]; exact (cl_RTs t_84))) (Nat.le_of_ble_eq_true rfl) (Nat.le_of_ble_eq_true rfl) rfl rfl hl.1 (Nat.le_of_ble_eq_true rfl) dX5_repeat_144 (fun T_101 H locs cells slots t_102 hu G_103 => ?_)
        have ha := hu.kind ha (by decide)
        have t_84 := hu.kind t_84 (by decide)
        refine W.eq (g2 := F0 m 147 ls []) rfl ?_
        exact wc_X5_repeat_147i91 C h_100 hP G_103 ha (cl_RTs t_84) (lv_sub hl [0, 1, 2, 3] rfl)
noncomputable def ec_X5_repeat_19 (a : Nat) (x1 : (Option Nat)) (x3 : Int32) (x4 : Int32) (σ : cl_S) : Option (cl_S) := vl (cl_w σ a 8 (1:Int32)) (fun σ_78 => bc_X5_repeat_91 a x1 x3 (0:Int32) σ_78)
noncomputable def bc_X5_repeat_19 (a : Nat) (x1 : (Option Nat)) (x3 : Int32) (x4 : Int32) (σ : cl_S) : Option (cl_S) := (lp (fun z : (Int32 × cl_S) => lc_X5_repeat_19 a x1 x3 z.1 z.2) (x4, σ)).bind (fun z => ec_X5_repeat_19 a x1 x3 z.1 z.2)
set_option maxHeartbeats 4000000 in
theorem wc_X5_repeat_19 (C : cl_C D p s m args meth c cX5_repeat 5 none RX5) {a : Nat} {x1 : (Option Nat)} {x3 : Int32} {x4 : Int32} {σ0 σ σ' : cl_S} {T : Nat → Nat × Nat} {H : Heap} {locs : List Loc} {ls : Array Slot} {cells slots : Nat} (h : bc_X5_repeat_19 a x1 x3 x4 σ = some σ') (G : cl_G true D c0 ({ frames := 7, cells := σ0.2.2.2.2.2.1, slots := σ0.2.2.2.2.2.2, locals := 173 }) s σ0.2.2.2.1 T σ H locs cells slots) (ha : (T a).1 = 21) (f1 : cl_RT T x1 21) (hl : lv_has ls 5 [(0, .ref (c0 + a)), (1, cl_rf c0 x1), (3, .int x3), (4, .int x4)]) : W p l e ({ frames := 7, cells := σ0.2.2.2.2.2.1, slots := σ0.2.2.2.2.2.2, locals := 173 }) s m args below meth c H locs cells slots (MQ below (cl_Q true D c0 none cl_no σ0 σ') args s (σ0.2.2.2.2.2.1 - σ'.2.2.2.2.2.1) (σ0.2.2.2.2.2.2 - σ'.2.2.2.2.2.2) (cl_A c0 σ0.2.2.2.1 s.heap.size)) (F0 m 19 ls []) := by
  unfold bc_X5_repeat_19 at h
  obtain ⟨y, hy, h⟩ := bd_some h
  have hE : (fun z : (Int32 × cl_S) => ∀ (T : Nat → Nat × Nat) (H : Heap) (locs : List Loc) (ls : Array Slot) (cells slots : Nat), cl_G true D c0 ({ frames := 7, cells := σ0.2.2.2.2.2.1, slots := σ0.2.2.2.2.2.2, locals := 173 }) s σ0.2.2.2.1 T z.2 H locs cells slots → (T a).1 = 21 → cl_RT T x1 21 → lv_has ls 5 [(0, .ref (c0 + a)), (1, cl_rf c0 x1), (3, .int x3), (4, .int (z.1))] → W p l e ({ frames := 7, cells := σ0.2.2.2.2.2.1, slots := σ0.2.2.2.2.2.2, locals := 173 }) s m args below meth c H locs cells slots (MQ below (cl_Q true D c0 none cl_no σ0 σ') args s (σ0.2.2.2.2.2.1 - σ'.2.2.2.2.2.1) (σ0.2.2.2.2.2.2 - σ'.2.2.2.2.2.2) (cl_A c0 σ0.2.2.2.1 s.heap.size)) (F0 m 83 ls [])) y := by
    clear hy G ha f1 hl
    intro T H locs ls cells slots G ha f1 hl
    obtain ⟨x4, σ⟩ := y
    dsimp only at h G ha f1 hl
    unfold ec_X5_repeat_19 at h
    refine lv_aload_n C.1 C.2.1 dX5_repeat_83 rfl (lv_at hl 0 rfl) ?_
    refine lv_iconst (v := (1:Int32)) C.1 C.2.1 dX5_repeat_84 (by decide) ?_
    refine cp_5_133 C G ha rfl rfl dX5_repeat_85 (fun H locs G_79 => ?_)
    refine cl_nm G_79 h (fun σ_78 G_80 h_81 => ?_)
    refine lv_iconst (v := (0:Int32)) C.1 C.2.1 dX5_repeat_88 (by decide) ?_
    refine lv_istore (lv' := [(4, .int (0:Int32)), (0, .ref (c0 + a)), (1, cl_rf c0 x1), (3, .int x3)]) C.1 C.2.1 dX5_repeat_89 hl (by decide) (by first | rfl | (cases x1 <;> rfl)) (fun ls hl_82 => ?_)
    exact wc_X5_repeat_91 C h_81 G_80 ha f1 (lv_sub hl_82 [1, 2, 3, 0] rfl)
  refine lp_recE (fun z : (Int32 × cl_S) => ∀ (T : Nat → Nat × Nat) (H : Heap) (locs : List Loc) (ls : Array Slot) (cells slots : Nat), cl_G true D c0 ({ frames := 7, cells := σ0.2.2.2.2.2.1, slots := σ0.2.2.2.2.2.2, locals := 173 }) s σ0.2.2.2.1 T z.2 H locs cells slots → (T a).1 = 21 → cl_RT T x1 21 → lv_has ls 5 [(0, .ref (c0 + a)), (1, cl_rf c0 x1), (3, .int x3), (4, .int (z.1))] → W p l e ({ frames := 7, cells := σ0.2.2.2.2.2.1, slots := σ0.2.2.2.2.2.2, locals := 173 }) s m args below meth c H locs cells slots (MQ below (cl_Q true D c0 none cl_no σ0 σ') args s (σ0.2.2.2.2.2.1 - σ'.2.2.2.2.2.1) (σ0.2.2.2.2.2.2 - σ'.2.2.2.2.2.2) (cl_A c0 σ0.2.2.2.1 s.heap.size)) (F0 m 19 ls [])) (fun z : (Int32 × cl_S) => ∀ (T : Nat → Nat × Nat) (H : Heap) (locs : List Loc) (ls : Array Slot) (cells slots : Nat), cl_G true D c0 ({ frames := 7, cells := σ0.2.2.2.2.2.1, slots := σ0.2.2.2.2.2.2, locals := 173 }) s σ0.2.2.2.1 T z.2 H locs cells slots → (T a).1 = 21 → cl_RT T x1 21 → lv_has ls 5 [(0, .ref (c0 + a)), (1, cl_rf c0 x1), (3, .int x3), (4, .int (z.1))] → W p l e ({ frames := 7, cells := σ0.2.2.2.2.2.1, slots := σ0.2.2.2.2.2.2, locals := 173 }) s m args below meth c H locs cells slots (MQ below (cl_Q true D c0 none cl_no σ0 σ') args s (σ0.2.2.2.2.2.1 - σ'.2.2.2.2.2.1) (σ0.2.2.2.2.2.2 - σ'.2.2.2.2.2.2) (cl_A c0 σ0.2.2.2.1 s.heap.size)) (F0 m 83 ls [])) ?_ _ _ hy hE _ _ _ _ _ _ G ha f1 hl
  clear hE hy G ha f1 hl h
  intro z o h hP T H locs ls cells slots G ha f1 hl
  obtain ⟨x4, σ⟩ := z
  dsimp only at h G ha f1 hl
  unfold lc_X5_repeat_19 at h
  refine lv_iload C.1 C.2.1 dX5_repeat_19 (lv_at hl 3 rfl) ?_
  refine lv_aload_n C.1 C.2.1 dX5_repeat_21 rfl (lv_at hl 0 rfl) ?_
  refine cg_5_12 C G ha dX5_repeat_22 (fun t_26 => ?_)
  refine vt_r (K := 17) t_26 h (fun r_27 t_28 h_29 => ?_)
  obtain ⟨a_30, rfl, h_32⟩ := nn_some h_29
  have t_31 := t_28 _ rfl
  refine cg_5_66 C G t_31 dX5_repeat_25 ?_
  refine lv_icmp_ge (tgt := 83) C.1 C.2.1 dX5_repeat_28 (by decide) (fun hc => ?_) (fun hc => ?_)
  · rw [if_pos hc] at h_32
    cases h_32
    exact hP _ _ _ _ _ _ G ha f1 (lv_sub hl [0, 1, 2, 3] rfl)
  · rw [if_neg hc] at h_32
    refine lv_aload_n C.1 C.2.1 dX5_repeat_31 rfl (lv_at hl 0 rfl) ?_
    refine cg_5_20 C G ha dX5_repeat_32 (fun t_33 => ?_)
    refine lv_iload C.1 C.2.1 dX5_repeat_35 (lv_at hl 3 rfl) ?_
    obtain ⟨hi, h_34⟩ := ix_some h_32
    refine cl_aald C G t_33 (by decide) (by decide) rfl hi dX5_repeat_37 (fun t_35 => ?_)
    refine vt_r (K := 22) t_35 h_34 (fun r_36 t_37 h_38 => ?_)
    refine cl_aload_n C.1 C.2.1 dX5_repeat_38 rfl (lv_at hl 1 rfl) ?_
    obtain ⟨a_39, rfl, h_41⟩ := nn_some h_38
    have t_40 := f1 _ rfl
    refine cg_5_20 C G t_40 dX5_repeat_39 (fun t_42 => ?_)
    refine lv_iload C.1 C.2.1 dX5_repeat_42 (lv_at hl 3 rfl) ?_
    obtain ⟨hi, h_43⟩ := ix_some h_41
    refine cl_aald C G t_42 (by decide) (by decide) rfl hi dX5_repeat_44 (fun t_44 => ?_)
    refine vt_r (K := 22) t_44 h_43 (fun r_45 t_46 h_47 => ?_)
    obtain ⟨a_48, rfl, h_50⟩ := nn_some h_47
    have t_49 := t_37 _ rfl
    obtain ⟨σ_51, hq, h_52⟩ := bd1_some h_50
    refine cl_callV (ci := 6) (rest := []) C G rfl t_49 cw_RX5_117 [cl_rf c0 r_45] _ (kc_X6_loadAs l D c0 (by rw [G.1]; exact t_49) hq (by rw [G.1]; exact t_46)) (Nat.le_of_ble_eq_true rfl) (Nat.le_of_ble_eq_true rfl) rfl rfl hl.1 (Nat.le_of_ble_eq_true rfl) dX5_repeat_45 (fun T_53 H locs cells slots t_54 hu G_55 => ?_)
    have ha := hu.kind ha (by decide)
    have t_40 := hu.kind t_40 (by decide)
    refine W.eq (g2 := F0 m 48 ls []) rfl ?_
    refine lv_iload_n C.1 C.2.1 dX5_repeat_48 rfl (lv_at hl 2 rfl) ?_
    refine lv_iload C.1 C.2.1 dX5_repeat_49 (lv_at hl 3 rfl) ?_
    refine lv_ishr C.1 C.2.1 dX5_repeat_51 ?_
    refine lv_iconst (v := (1:Int32)) C.1 C.2.1 dX5_repeat_52 (by decide) ?_
    refine lv_iand C.1 C.2.1 dX5_repeat_53 ?_
    refine lv_if_ne (tgt := 77) C.1 C.2.1 dX5_repeat_54 (by decide) (fun hc => ?_) (fun hc => ?_)
    · rw [if_neg hc] at h_52
      exact wc_X5_repeat_77i19 C h_52 hP G_55 ha (cl_RTs t_40) (lv_sub hl [0, 1, 2, 3] rfl)
    · rw [if_pos hc] at h_52
      refine lv_aload_n C.1 C.2.1 dX5_repeat_57 rfl (lv_at hl 0 rfl) ?_
      refine cg_5_20 C G_55 ha dX5_repeat_58 (fun t_59 => ?_)
      refine lv_iload C.1 C.2.1 dX5_repeat_61 (lv_at hl 3 rfl) ?_
      obtain ⟨hi, h_60⟩ := ix_some h_52
      refine cl_aald C G_55 t_59 (by decide) (by decide) rfl hi dX5_repeat_63 (fun t_61 => ?_)
      refine vt_r (K := 22) t_61 h_60 (fun r_62 t_63 h_64 => ?_)
      obtain ⟨a_65, rfl, h_67⟩ := nn_some h_64
      have t_66 := t_63 _ rfl
      refine cg_5_121 C G_55 t_66 dX5_repeat_64 (fun t_68 => ?_)
      have t_68 : (T_53 (a_65 + 1)).1 = 18 := by rw [t_68]
      refine lv_iconst (v := (1:Int32)) C.1 C.2.1 dX5_repeat_67 (by decide) ?_
      refine cp_5_125 C G_55 t_68 rfl rfl dX5_repeat_68 (fun H locs G_70 => ?_)
      refine cl_nm G_70 h_67 (fun σ_69 G_71 h_72 => ?_)
      refine lv_aload_n C.1 C.2.1 dX5_repeat_71 rfl (lv_at hl 0 rfl) ?_
      refine lv_iload C.1 C.2.1 dX5_repeat_72 (lv_at hl 3 rfl) ?_
      obtain ⟨σ_73, hq, h_74⟩ := bd1_some h_72
      refine cl_callV (ci := 5) (rest := []) C G_71 rfl ha cw_RX5_130 [.int x4] _ (kc_X5_emptyArea l D c0 (by rw [G_71.1]; exact ha) hq) (Nat.le_of_ble_eq_true rfl) (Nat.le_of_ble_eq_true rfl) rfl rfl hl.1 (Nat.le_of_ble_eq_true rfl) dX5_repeat_74 (fun T_75 H locs cells slots t_76 hu G_77 => ?_)
      have ha := hu.kind ha (by decide)
      have t_40 := hu.kind t_40 (by decide)
      refine W.eq (g2 := F0 m 77 ls []) rfl ?_
      exact wc_X5_repeat_77i19 C h_74 hP G_77 ha (cl_RTs t_40) (lv_sub hl [0, 1, 2, 3] rfl)
noncomputable def bc_X5_repeat_0 (a : Nat) (x1 : (Option Nat)) (x2 : (Option Nat)) (x3 : Int32) (σ : cl_S) : Option (cl_S) := nn x1 (fun a_1 => vl (σ.2.2.1 a_1 3) (fun r_5 => bd1 (fc_X5_begin a r_5 σ) (fun σ_8 => vl (σ_8.2.2.1 a 1) (fun r_14 => nn r_14 (fun a_17 => bd1 (fc_X3_copyFrom a_17 x2 σ_8) (fun σ_20 => bc_X5_repeat_19 a (some a_1) x3 (0:Int32) σ_20))))))
set_option maxHeartbeats 4000000 in
theorem wc_X5_repeat_0 (C : cl_C D p s m args meth c cX5_repeat 5 none RX5) {a : Nat} {x1 : (Option Nat)} {x2 : (Option Nat)} {x3 : Int32} {σ0 σ σ' : cl_S} {T : Nat → Nat × Nat} {H : Heap} {locs : List Loc} {ls : Array Slot} {cells slots : Nat} (h : bc_X5_repeat_0 a x1 x2 x3 σ = some σ') (G : cl_G true D c0 ({ frames := 7, cells := σ0.2.2.2.2.2.1, slots := σ0.2.2.2.2.2.2, locals := 173 }) s σ0.2.2.2.1 T σ H locs cells slots) (ha : (T a).1 = 21) (f1 : cl_RT T x1 21) (f2 : cl_RT T x2 19) (hl : lv_has ls 5 [(0, .ref (c0 + a)), (1, cl_rf c0 x1), (2, cl_rf c0 x2), (3, .int x3)]) : W p l e ({ frames := 7, cells := σ0.2.2.2.2.2.1, slots := σ0.2.2.2.2.2.2, locals := 173 }) s m args below meth c H locs cells slots (MQ below (cl_Q true D c0 none cl_no σ0 σ') args s (σ0.2.2.2.2.2.1 - σ'.2.2.2.2.2.1) (σ0.2.2.2.2.2.2 - σ'.2.2.2.2.2.2) (cl_A c0 σ0.2.2.2.1 s.heap.size)) (F0 m 0 ls []) := by
  unfold bc_X5_repeat_0 at h
  refine lv_aload_n C.1 C.2.1 dX5_repeat_0 rfl (lv_at hl 0 rfl) ?_
  refine cl_aload_n C.1 C.2.1 dX5_repeat_1 rfl (lv_at hl 1 rfl) ?_
  obtain ⟨a_1, rfl, h_3⟩ := nn_some h
  have t_2 := f1 _ rfl
  refine cg_5_12 C G t_2 dX5_repeat_2 (fun t_4 => ?_)
  refine vt_r (K := 17) t_4 h_3 (fun r_5 t_6 h_7 => ?_)
  obtain ⟨σ_8, hq, h_9⟩ := bd1_some h_7
  refine cl_callV (ci := 5) (rest := []) C G rfl ha cw_RX5_107 [cl_rf c0 r_5] _ (kc_X5_begin l D c0 (by rw [G.1]; exact ha) hq (by rw [G.1]; exact t_6)) (Nat.le_of_ble_eq_true rfl) (Nat.le_of_ble_eq_true rfl) rfl rfl hl.1 (Nat.le_of_ble_eq_true rfl) dX5_repeat_5 (fun T_10 H locs cells slots t_11 hu G_12 => ?_)
  have ha := hu.kind ha (by decide)
  have t_2 := hu.kind t_2 (by decide)
  have f2 := f2.up hu (by decide)
  refine W.eq (g2 := F0 m 8 ls []) rfl ?_
  refine lv_aload_n C.1 C.2.1 dX5_repeat_8 rfl (lv_at hl 0 rfl) ?_
  refine cg_5_55 C G_12 ha dX5_repeat_9 (fun t_13 => ?_)
  refine vt_r (K := 19) t_13 h_9 (fun r_14 t_15 h_16 => ?_)
  refine cl_aload_n C.1 C.2.1 dX5_repeat_12 rfl (lv_at hl 2 rfl) ?_
  obtain ⟨a_17, rfl, h_19⟩ := nn_some h_16
  have t_18 := t_15 _ rfl
  obtain ⟨σ_20, hq, h_21⟩ := bd1_some h_19
  refine cl_callV (ci := 3) (rest := []) C G_12 rfl t_18 cw_RX5_111 [cl_rf c0 x2] _ (kc_X3_copyFrom l D c0 (by rw [G_12.1]; exact t_18) hq (by rw [G_12.1]; exact f2)) (Nat.le_of_ble_eq_true rfl) (Nat.le_of_ble_eq_true rfl) rfl rfl hl.1 (Nat.le_of_ble_eq_true rfl) dX5_repeat_13 (fun T_22 H locs cells slots t_23 hu G_24 => ?_)
  have ha := hu.kind ha (by decide)
  have t_2 := hu.kind t_2 (by decide)
  have f2 := f2.up hu (by decide)
  refine W.eq (g2 := F0 m 16 ls []) rfl ?_
  refine lv_iconst (v := (0:Int32)) C.1 C.2.1 dX5_repeat_16 (by decide) ?_
  refine lv_istore (lv' := [(4, .int (0:Int32)), (0, .ref (c0 + a)), (1, .ref (c0 + a_1)), (2, cl_rf c0 x2), (3, .int x3)]) C.1 C.2.1 dX5_repeat_17 hl (by decide) (by first | rfl | (cases x2 <;> rfl)) (fun ls hl_25 => ?_)
  exact wc_X5_repeat_19 C h_21 G_24 ha (cl_RTs t_2) (lv_sub hl_25 [1, 2, 4, 0] rfl)
noncomputable def fc_X5_repeat (a : Nat) (x1 : (Option Nat)) (x2 : (Option Nat)) (x3 : Int32) (σ : cl_S) : Option (cl_S) := bc_X5_repeat_0 a x1 x2 x3 σ
theorem kc_X5_repeat (l : Launch) (D : cl_D) (c0 : Nat) {a : Nat} {x1 : (Option Nat)} {x2 : (Option Nat)} {x3 : Int32} {σ σ' : cl_S} (ha : (σ.2.2.2.1 a).1 = 21) (h : fc_X5_repeat a x1 x2 x3 σ = some σ') (f1 : cl_RT σ.2.2.2.1 x1 21) (f2 : cl_RT σ.2.2.2.1 x2 19) : cl_Met true l D c0 yX5_repeat cX5_repeat 5 none 7 173 [.ref (c0 + a), cl_rf c0 x1, cl_rf c0 x2, .int x3] σ none cl_no σ' :=
  by cases x1 <;> cases x2 <;> exact cl_of (by decide) (Nat.le_of_ble_eq_true rfl) (fun p e s m args below meth c ls C hn G hl => wc_X5_repeat_0 C h G ha f1 f2 hl)
abbrev cX6_isLike : ByteArray := prog_8_method_10_code
def yX6_isLike : MethodName := ⟨RX6, "isLike", "(LPartHouse$Partition;)Z"⟩
theorem dX6_isLike_0 : decode cX6_isLike 0 = .ok (.aload_n 0, 1) := by decide +kernel
theorem dX6_isLike_1 : decode cX6_isLike 1 = .ok (.getfield 12, 3) := by decide +kernel
theorem dX6_isLike_4 : decode cX6_isLike 4 = .ok (.getfield 116, 3) := by decide +kernel
theorem dX6_isLike_7 : decode cX6_isLike 7 = .ok (.aload_n 1, 1) := by decide +kernel
theorem dX6_isLike_8 : decode cX6_isLike 8 = .ok (.getfield 12, 3) := by decide +kernel
theorem dX6_isLike_11 : decode cX6_isLike 11 = .ok (.getfield 116, 3) := by decide +kernel
theorem dX6_isLike_14 : decode cX6_isLike 14 = .ok (.if_icmp .ne 18, 3) := by decide +kernel
theorem dX6_isLike_17 : decode cX6_isLike 17 = .ok (.aload_n 0, 1) := by decide +kernel
theorem dX6_isLike_18 : decode cX6_isLike 18 = .ok (.getfield 76, 3) := by decide +kernel
theorem dX6_isLike_21 : decode cX6_isLike 21 = .ok (.aload_n 1, 1) := by decide +kernel
theorem dX6_isLike_22 : decode cX6_isLike 22 = .ok (.getfield 76, 3) := by decide +kernel
theorem dX6_isLike_25 : decode cX6_isLike 25 = .ok (.if_icmp .ne 7, 3) := by decide +kernel
theorem dX6_isLike_28 : decode cX6_isLike 28 = .ok (.iconst 1, 1) := by decide +kernel
theorem dX6_isLike_29 : decode cX6_isLike 29 = .ok (.goto 4, 3) := by decide +kernel
theorem dX6_isLike_32 : decode cX6_isLike 32 = .ok (.iconst 0, 1) := by decide +kernel
theorem dX6_isLike_33 : decode cX6_isLike 33 = .ok (.istore_n 2, 1) := by decide +kernel
theorem dX6_isLike_34 : decode cX6_isLike 34 = .ok (.iconst 0, 1) := by decide +kernel
theorem dX6_isLike_35 : decode cX6_isLike 35 = .ok (.istore_n 3, 1) := by decide +kernel
theorem dX6_isLike_36 : decode cX6_isLike 36 = .ok (.iload_n 3, 1) := by decide +kernel
theorem dX6_isLike_37 : decode cX6_isLike 37 = .ok (.bipush 16, 2) := by decide +kernel
theorem dX6_isLike_39 : decode cX6_isLike 39 = .ok (.if_icmp .ge 40, 3) := by decide +kernel
theorem dX6_isLike_42 : decode cX6_isLike 42 = .ok (.iload_n 2, 1) := by decide +kernel
theorem dX6_isLike_43 : decode cX6_isLike 43 = .ok (.ifCond .eq 36, 3) := by decide +kernel
theorem dX6_isLike_46 : decode cX6_isLike 46 = .ok (.aload_n 0, 1) := by decide +kernel
theorem dX6_isLike_47 : decode cX6_isLike 47 = .ok (.getfield 12, 3) := by decide +kernel
theorem dX6_isLike_50 : decode cX6_isLike 50 = .ok (.getfield 101, 3) := by decide +kernel
theorem dX6_isLike_53 : decode cX6_isLike 53 = .ok (.iload_n 3, 1) := by decide +kernel
theorem dX6_isLike_54 : decode cX6_isLike 54 = .ok (.iaload, 1) := by decide +kernel
theorem dX6_isLike_55 : decode cX6_isLike 55 = .ok (.aload_n 1, 1) := by decide +kernel
theorem dX6_isLike_56 : decode cX6_isLike 56 = .ok (.getfield 12, 3) := by decide +kernel
theorem dX6_isLike_59 : decode cX6_isLike 59 = .ok (.getfield 101, 3) := by decide +kernel
theorem dX6_isLike_62 : decode cX6_isLike 62 = .ok (.iload_n 3, 1) := by decide +kernel
theorem dX6_isLike_63 : decode cX6_isLike 63 = .ok (.iaload, 1) := by decide +kernel
theorem dX6_isLike_64 : decode cX6_isLike 64 = .ok (.if_icmp .ne 7, 3) := by decide +kernel
theorem dX6_isLike_67 : decode cX6_isLike 67 = .ok (.iconst 1, 1) := by decide +kernel
theorem dX6_isLike_68 : decode cX6_isLike 68 = .ok (.goto 4, 3) := by decide +kernel
theorem dX6_isLike_71 : decode cX6_isLike 71 = .ok (.iconst 0, 1) := by decide +kernel
theorem dX6_isLike_72 : decode cX6_isLike 72 = .ok (.istore_n 2, 1) := by decide +kernel
theorem dX6_isLike_73 : decode cX6_isLike 73 = .ok (.iinc 3 1, 3) := by decide +kernel
theorem dX6_isLike_76 : decode cX6_isLike 76 = .ok (.goto (-40), 3) := by decide +kernel
theorem dX6_isLike_79 : decode cX6_isLike 79 = .ok (.iconst 0, 1) := by decide +kernel
theorem dX6_isLike_80 : decode cX6_isLike 80 = .ok (.istore_n 3, 1) := by decide +kernel
theorem dX6_isLike_81 : decode cX6_isLike 81 = .ok (.iload_n 3, 1) := by decide +kernel
theorem dX6_isLike_82 : decode cX6_isLike 82 = .ok (.aload_n 0, 1) := by decide +kernel
theorem dX6_isLike_83 : decode cX6_isLike 83 = .ok (.getfield 76, 3) := by decide +kernel
theorem dX6_isLike_86 : decode cX6_isLike 86 = .ok (.if_icmp .ge 49, 3) := by decide +kernel
theorem dX6_isLike_89 : decode cX6_isLike 89 = .ok (.iload_n 2, 1) := by decide +kernel
theorem dX6_isLike_90 : decode cX6_isLike 90 = .ok (.ifCond .eq 45, 3) := by decide +kernel
theorem dX6_isLike_93 : decode cX6_isLike 93 = .ok (.aload_n 0, 1) := by decide +kernel
theorem dX6_isLike_94 : decode cX6_isLike 94 = .ok (.getfield 18, 3) := by decide +kernel
theorem dX6_isLike_97 : decode cX6_isLike 97 = .ok (.iload_n 3, 1) := by decide +kernel
theorem dX6_isLike_98 : decode cX6_isLike 98 = .ok (.iaload, 1) := by decide +kernel
theorem dX6_isLike_99 : decode cX6_isLike 99 = .ok (.aload_n 1, 1) := by decide +kernel
theorem dX6_isLike_100 : decode cX6_isLike 100 = .ok (.getfield 18, 3) := by decide +kernel
theorem dX6_isLike_103 : decode cX6_isLike 103 = .ok (.iload_n 3, 1) := by decide +kernel
theorem dX6_isLike_104 : decode cX6_isLike 104 = .ok (.iaload, 1) := by decide +kernel
theorem dX6_isLike_105 : decode cX6_isLike 105 = .ok (.if_icmp .ne 22, 3) := by decide +kernel
theorem dX6_isLike_108 : decode cX6_isLike 108 = .ok (.aload_n 0, 1) := by decide +kernel
theorem dX6_isLike_109 : decode cX6_isLike 109 = .ok (.getfield 24, 3) := by decide +kernel
theorem dX6_isLike_112 : decode cX6_isLike 112 = .ok (.iload_n 3, 1) := by decide +kernel
theorem dX6_isLike_113 : decode cX6_isLike 113 = .ok (.aaload, 1) := by decide +kernel
theorem dX6_isLike_114 : decode cX6_isLike 114 = .ok (.aload_n 1, 1) := by decide +kernel
theorem dX6_isLike_115 : decode cX6_isLike 115 = .ok (.getfield 24, 3) := by decide +kernel
theorem dX6_isLike_118 : decode cX6_isLike 118 = .ok (.iload_n 3, 1) := by decide +kernel
theorem dX6_isLike_119 : decode cX6_isLike 119 = .ok (.aaload, 1) := by decide +kernel
theorem dX6_isLike_120 : decode cX6_isLike 120 = .ok (.if_acmp .ne 7, 3) := by decide +kernel
theorem dX6_isLike_123 : decode cX6_isLike 123 = .ok (.iconst 1, 1) := by decide +kernel
theorem dX6_isLike_124 : decode cX6_isLike 124 = .ok (.goto 4, 3) := by decide +kernel
theorem dX6_isLike_127 : decode cX6_isLike 127 = .ok (.iconst 0, 1) := by decide +kernel
theorem dX6_isLike_128 : decode cX6_isLike 128 = .ok (.istore_n 2, 1) := by decide +kernel
theorem dX6_isLike_129 : decode cX6_isLike 129 = .ok (.iinc 3 1, 3) := by decide +kernel
theorem dX6_isLike_132 : decode cX6_isLike 132 = .ok (.goto (-51), 3) := by decide +kernel
theorem dX6_isLike_135 : decode cX6_isLike 135 = .ok (.iload_n 2, 1) := by decide +kernel
theorem dX6_isLike_136 : decode cX6_isLike 136 = .ok (.ireturn, 1) := by decide +kernel
theorem cc_X6_isLike : Cond.code yX6_isLike cX6_isLike 4 (some .boolean) ∈ rf_tb := rf_at 1500 (by decide +kernel) (by decide +kernel)
noncomputable def bc_X6_isLike_72i36 (a : Nat) (x1 : (Option Nat)) (x3 : Int32) (v0 : Int32) (σ : cl_S) : Option ((Int32 × Int32 × cl_S) ⊕ (Int32 × Int32 × cl_S)) := vl (x3 + (1:Int32)) (fun x3_18 => some (.inl (v0, x3_18, σ)))
set_option maxHeartbeats 4000000 in
theorem wc_X6_isLike_72i36 (C : cl_C D p s m args meth c cX6_isLike 4 (some .boolean) RX6) {r : Int32} {a : Nat} {x1 : (Option Nat)} {x3 : Int32} {v0 : Int32} {σ0 σ σ' : cl_S} {T : Nat → Nat × Nat} {H : Heap} {locs : List Loc} {ls : Array Slot} {cells slots : Nat} {o : (Int32 × Int32 × cl_S) ⊕ (Int32 × Int32 × cl_S)} (h : bc_X6_isLike_72i36 a x1 x3 v0 σ = some o) (hP : Sum.elim (fun z : (Int32 × Int32 × cl_S) => ∀ (T : Nat → Nat × Nat) (H : Heap) (locs : List Loc) (ls : Array Slot) (cells slots : Nat), cl_G true D c0 ({ frames := 0, cells := σ0.2.2.2.2.2.1, slots := σ0.2.2.2.2.2.2, locals := 0 }) s σ0.2.2.2.1 T z.2.2 H locs cells slots → (T a).1 = 22 → cl_RT T x1 22 → lv_has ls 4 [(0, .ref (c0 + a)), (1, cl_rf c0 x1), (2, .int (z.1)), (3, .int (z.2.1))] → W p l e ({ frames := 0, cells := σ0.2.2.2.2.2.1, slots := σ0.2.2.2.2.2.2, locals := 0 }) s m args below meth c H locs cells slots (MQ below (cl_Q true D c0 (some (.int r)) cl_no σ0 σ') args s (σ0.2.2.2.2.2.1 - σ'.2.2.2.2.2.1) (σ0.2.2.2.2.2.2 - σ'.2.2.2.2.2.2) (cl_A c0 σ0.2.2.2.1 s.heap.size)) (F0 m 36 ls [])) (fun z : (Int32 × Int32 × cl_S) => ∀ (T : Nat → Nat × Nat) (H : Heap) (locs : List Loc) (ls : Array Slot) (cells slots : Nat), cl_G true D c0 ({ frames := 0, cells := σ0.2.2.2.2.2.1, slots := σ0.2.2.2.2.2.2, locals := 0 }) s σ0.2.2.2.1 T z.2.2 H locs cells slots → (T a).1 = 22 → cl_RT T x1 22 → lv_has ls 4 [(0, .ref (c0 + a)), (1, cl_rf c0 x1), (2, .int (z.1)), (3, .int (z.2.1))] → W p l e ({ frames := 0, cells := σ0.2.2.2.2.2.1, slots := σ0.2.2.2.2.2.2, locals := 0 }) s m args below meth c H locs cells slots (MQ below (cl_Q true D c0 (some (.int r)) cl_no σ0 σ') args s (σ0.2.2.2.2.2.1 - σ'.2.2.2.2.2.1) (σ0.2.2.2.2.2.2 - σ'.2.2.2.2.2.2) (cl_A c0 σ0.2.2.2.1 s.heap.size)) (F0 m 79 ls [])) o) (G : cl_G true D c0 ({ frames := 0, cells := σ0.2.2.2.2.2.1, slots := σ0.2.2.2.2.2.2, locals := 0 }) s σ0.2.2.2.1 T σ H locs cells slots) (ha : (T a).1 = 22) (f1 : cl_RT T x1 22) (hl : lv_has ls 4 [(0, .ref (c0 + a)), (1, cl_rf c0 x1), (3, .int x3)]) : W p l e ({ frames := 0, cells := σ0.2.2.2.2.2.1, slots := σ0.2.2.2.2.2.2, locals := 0 }) s m args below meth c H locs cells slots (MQ below (cl_Q true D c0 (some (.int r)) cl_no σ0 σ') args s (σ0.2.2.2.2.2.1 - σ'.2.2.2.2.2.1) (σ0.2.2.2.2.2.2 - σ'.2.2.2.2.2.2) (cl_A c0 σ0.2.2.2.1 s.heap.size)) (F0 m 72 ls [.int v0]) := by
  unfold bc_X6_isLike_72i36 at h
  refine lv_istore_n (lv' := [(2, .int v0), (0, .ref (c0 + a)), (1, cl_rf c0 x1), (3, .int x3)]) C.1 C.2.1 dX6_isLike_72 rfl hl (by decide) (by first | rfl | (cases x1 <;> rfl)) (fun ls hl_17 => ?_)
  refine vl_ex h (fun x3_18 ey h_19 => ?_)
  refine lv_iinc (v := x3_18) (lv' := [(3, .int x3_18), (2, .int v0), (0, .ref (c0 + a)), (1, cl_rf c0 x1)]) C.1 C.2.1 dX6_isLike_73 hl_17 (k := 3) rfl (by rw [ey]; rfl) (by decide) (by first | rfl | (cases x1 <;> rfl)) (fun ls hl_20 => ?_)
  refine lv_goto (tgt := 36) C.1 C.2.1 dX6_isLike_76 (by decide) ?_
  cases h_19
  exact hP _ _ _ _ _ _ G ha f1 (lv_sub hl_20 [2, 3, 1, 0] rfl)
noncomputable def lc_X6_isLike_36 (a : Nat) (x1 : (Option Nat)) (x2 : Int32) (x3 : Int32) (σ : cl_S) : Option ((Int32 × Int32 × cl_S) ⊕ (Int32 × Int32 × cl_S)) := (if (16:Int32) ≤ x3 then some (.inr (x2, x3, σ)) else (if x2 = 0 then some (.inr (x2, x3, σ)) else ix x3 16 (nn x1 (fun a_11 => ix x3 16 ((if (σ.1 ((a + 1) + 2) x3.toNatClampNeg) = (σ.1 ((a_11 + 1) + 2) x3.toNatClampNeg) then bc_X6_isLike_72i36 a (some a_11) x3 (1:Int32) σ else bc_X6_isLike_72i36 a (some a_11) x3 (0:Int32) σ))))))
noncomputable def bc_X6_isLike_128i81 (a : Nat) (x1 : (Option Nat)) (x3 : Int32) (v0 : Int32) (σ : cl_S) : Option ((Int32 × Int32 × cl_S) ⊕ (Int32 × Int32 × cl_S)) := vl (x3 + (1:Int32)) (fun x3_30 => some (.inl (v0, x3_30, σ)))
set_option maxHeartbeats 4000000 in
theorem wc_X6_isLike_128i81 (C : cl_C D p s m args meth c cX6_isLike 4 (some .boolean) RX6) {r : Int32} {a : Nat} {x1 : (Option Nat)} {x3 : Int32} {v0 : Int32} {σ0 σ σ' : cl_S} {T : Nat → Nat × Nat} {H : Heap} {locs : List Loc} {ls : Array Slot} {cells slots : Nat} {o : (Int32 × Int32 × cl_S) ⊕ (Int32 × Int32 × cl_S)} (h : bc_X6_isLike_128i81 a x1 x3 v0 σ = some o) (hP : Sum.elim (fun z : (Int32 × Int32 × cl_S) => ∀ (T : Nat → Nat × Nat) (H : Heap) (locs : List Loc) (ls : Array Slot) (cells slots : Nat), cl_G true D c0 ({ frames := 0, cells := σ0.2.2.2.2.2.1, slots := σ0.2.2.2.2.2.2, locals := 0 }) s σ0.2.2.2.1 T z.2.2 H locs cells slots → (T a).1 = 22 → cl_RT T x1 22 → lv_has ls 4 [(0, .ref (c0 + a)), (1, cl_rf c0 x1), (2, .int (z.1)), (3, .int (z.2.1))] → W p l e ({ frames := 0, cells := σ0.2.2.2.2.2.1, slots := σ0.2.2.2.2.2.2, locals := 0 }) s m args below meth c H locs cells slots (MQ below (cl_Q true D c0 (some (.int r)) cl_no σ0 σ') args s (σ0.2.2.2.2.2.1 - σ'.2.2.2.2.2.1) (σ0.2.2.2.2.2.2 - σ'.2.2.2.2.2.2) (cl_A c0 σ0.2.2.2.1 s.heap.size)) (F0 m 81 ls [])) (fun z : (Int32 × Int32 × cl_S) => ∀ (T : Nat → Nat × Nat) (H : Heap) (locs : List Loc) (ls : Array Slot) (cells slots : Nat), cl_G true D c0 ({ frames := 0, cells := σ0.2.2.2.2.2.1, slots := σ0.2.2.2.2.2.2, locals := 0 }) s σ0.2.2.2.1 T z.2.2 H locs cells slots → (T a).1 = 22 → cl_RT T x1 22 → lv_has ls 4 [(0, .ref (c0 + a)), (1, cl_rf c0 x1), (2, .int (z.1)), (3, .int (z.2.1))] → W p l e ({ frames := 0, cells := σ0.2.2.2.2.2.1, slots := σ0.2.2.2.2.2.2, locals := 0 }) s m args below meth c H locs cells slots (MQ below (cl_Q true D c0 (some (.int r)) cl_no σ0 σ') args s (σ0.2.2.2.2.2.1 - σ'.2.2.2.2.2.1) (σ0.2.2.2.2.2.2 - σ'.2.2.2.2.2.2) (cl_A c0 σ0.2.2.2.1 s.heap.size)) (F0 m 135 ls [])) o) (G : cl_G true D c0 ({ frames := 0, cells := σ0.2.2.2.2.2.1, slots := σ0.2.2.2.2.2.2, locals := 0 }) s σ0.2.2.2.1 T σ H locs cells slots) (ha : (T a).1 = 22) (f1 : cl_RT T x1 22) (hl : lv_has ls 4 [(0, .ref (c0 + a)), (1, cl_rf c0 x1), (3, .int x3)]) : W p l e ({ frames := 0, cells := σ0.2.2.2.2.2.1, slots := σ0.2.2.2.2.2.2, locals := 0 }) s m args below meth c H locs cells slots (MQ below (cl_Q true D c0 (some (.int r)) cl_no σ0 σ') args s (σ0.2.2.2.2.2.1 - σ'.2.2.2.2.2.1) (σ0.2.2.2.2.2.2 - σ'.2.2.2.2.2.2) (cl_A c0 σ0.2.2.2.1 s.heap.size)) (F0 m 128 ls [.int v0]) := by
  unfold bc_X6_isLike_128i81 at h
  refine lv_istore_n (lv' := [(2, .int v0), (0, .ref (c0 + a)), (1, cl_rf c0 x1), (3, .int x3)]) C.1 C.2.1 dX6_isLike_128 rfl hl (by decide) (by first | rfl | (cases x1 <;> rfl)) (fun ls hl_29 => ?_)
  refine vl_ex h (fun x3_30 ey h_31 => ?_)
  refine lv_iinc (v := x3_30) (lv' := [(3, .int x3_30), (2, .int v0), (0, .ref (c0 + a)), (1, cl_rf c0 x1)]) C.1 C.2.1 dX6_isLike_129 hl_29 (k := 3) rfl (by rw [ey]; rfl) (by decide) (by first | rfl | (cases x1 <;> rfl)) (fun ls hl_32 => ?_)
  refine lv_goto (tgt := 81) C.1 C.2.1 dX6_isLike_132 (by decide) ?_
  cases h_31
  exact hP _ _ _ _ _ _ G ha f1 (lv_sub hl_32 [2, 3, 1, 0] rfl)
noncomputable def bc_X6_isLike_127i81 (a : Nat) (x1 : (Option Nat)) (x3 : Int32) (σ : cl_S) : Option ((Int32 × Int32 × cl_S) ⊕ (Int32 × Int32 × cl_S)) := bc_X6_isLike_128i81 a x1 x3 (0:Int32) σ
set_option maxHeartbeats 4000000 in
theorem wc_X6_isLike_127i81 (C : cl_C D p s m args meth c cX6_isLike 4 (some .boolean) RX6) {r : Int32} {a : Nat} {x1 : (Option Nat)} {x3 : Int32} {σ0 σ σ' : cl_S} {T : Nat → Nat × Nat} {H : Heap} {locs : List Loc} {ls : Array Slot} {cells slots : Nat} {o : (Int32 × Int32 × cl_S) ⊕ (Int32 × Int32 × cl_S)} (h : bc_X6_isLike_127i81 a x1 x3 σ = some o) (hP : Sum.elim (fun z : (Int32 × Int32 × cl_S) => ∀ (T : Nat → Nat × Nat) (H : Heap) (locs : List Loc) (ls : Array Slot) (cells slots : Nat), cl_G true D c0 ({ frames := 0, cells := σ0.2.2.2.2.2.1, slots := σ0.2.2.2.2.2.2, locals := 0 }) s σ0.2.2.2.1 T z.2.2 H locs cells slots → (T a).1 = 22 → cl_RT T x1 22 → lv_has ls 4 [(0, .ref (c0 + a)), (1, cl_rf c0 x1), (2, .int (z.1)), (3, .int (z.2.1))] → W p l e ({ frames := 0, cells := σ0.2.2.2.2.2.1, slots := σ0.2.2.2.2.2.2, locals := 0 }) s m args below meth c H locs cells slots (MQ below (cl_Q true D c0 (some (.int r)) cl_no σ0 σ') args s (σ0.2.2.2.2.2.1 - σ'.2.2.2.2.2.1) (σ0.2.2.2.2.2.2 - σ'.2.2.2.2.2.2) (cl_A c0 σ0.2.2.2.1 s.heap.size)) (F0 m 81 ls [])) (fun z : (Int32 × Int32 × cl_S) => ∀ (T : Nat → Nat × Nat) (H : Heap) (locs : List Loc) (ls : Array Slot) (cells slots : Nat), cl_G true D c0 ({ frames := 0, cells := σ0.2.2.2.2.2.1, slots := σ0.2.2.2.2.2.2, locals := 0 }) s σ0.2.2.2.1 T z.2.2 H locs cells slots → (T a).1 = 22 → cl_RT T x1 22 → lv_has ls 4 [(0, .ref (c0 + a)), (1, cl_rf c0 x1), (2, .int (z.1)), (3, .int (z.2.1))] → W p l e ({ frames := 0, cells := σ0.2.2.2.2.2.1, slots := σ0.2.2.2.2.2.2, locals := 0 }) s m args below meth c H locs cells slots (MQ below (cl_Q true D c0 (some (.int r)) cl_no σ0 σ') args s (σ0.2.2.2.2.2.1 - σ'.2.2.2.2.2.1) (σ0.2.2.2.2.2.2 - σ'.2.2.2.2.2.2) (cl_A c0 σ0.2.2.2.1 s.heap.size)) (F0 m 135 ls [])) o) (G : cl_G true D c0 ({ frames := 0, cells := σ0.2.2.2.2.2.1, slots := σ0.2.2.2.2.2.2, locals := 0 }) s σ0.2.2.2.1 T σ H locs cells slots) (ha : (T a).1 = 22) (f1 : cl_RT T x1 22) (hl : lv_has ls 4 [(0, .ref (c0 + a)), (1, cl_rf c0 x1), (3, .int x3)]) : W p l e ({ frames := 0, cells := σ0.2.2.2.2.2.1, slots := σ0.2.2.2.2.2.2, locals := 0 }) s m args below meth c H locs cells slots (MQ below (cl_Q true D c0 (some (.int r)) cl_no σ0 σ') args s (σ0.2.2.2.2.2.1 - σ'.2.2.2.2.2.1) (σ0.2.2.2.2.2.2 - σ'.2.2.2.2.2.2) (cl_A c0 σ0.2.2.2.1 s.heap.size)) (F0 m 127 ls []) := by
  unfold bc_X6_isLike_127i81 at h
  refine lv_iconst (v := (0:Int32)) C.1 C.2.1 dX6_isLike_127 (by decide) ?_
  exact wc_X6_isLike_128i81 C h hP G ha f1 (lv_sub hl [0, 1, 2] rfl)
noncomputable def lc_X6_isLike_81 (a : Nat) (x1 : (Option Nat)) (x2 : Int32) (x3 : Int32) (σ : cl_S) : Option ((Int32 × Int32 × cl_S) ⊕ (Int32 × Int32 × cl_S)) := (if (σ.1 a 6) ≤ x3 then some (.inr (x2, x3, σ)) else (if x2 = 0 then some (.inr (x2, x3, σ)) else ix x3 200 (nn x1 (fun a_24 => ix x3 200 ((if (σ.1 (a + 4) x3.toNatClampNeg) = (σ.1 (a_24 + 4) x3.toNatClampNeg) then ix x3 200 (vl (σ.2.2.1 (a + 5) x3.toNatClampNeg) (fun r_36 => ix x3 200 (vl (σ.2.2.1 (a_24 + 5) x3.toNatClampNeg) (fun r_42 => (if r_36 = r_42 then bc_X6_isLike_128i81 a (some a_24) x3 (1:Int32) σ else bc_X6_isLike_127i81 a (some a_24) x3 σ))))) else bc_X6_isLike_127i81 a (some a_24) x3 σ))))))
noncomputable def ec_X6_isLike_81 (a : Nat) (x1 : (Option Nat)) (x2 : Int32) (x3 : Int32) (σ : cl_S) : Option (Int32 × cl_S) := nb x2 (some (x2, σ))
noncomputable def bc_X6_isLike_81 (a : Nat) (x1 : (Option Nat)) (x2 : Int32) (x3 : Int32) (σ : cl_S) : Option (Int32 × cl_S) := (lp (fun z : (Int32 × Int32 × cl_S) => lc_X6_isLike_81 a x1 z.1 z.2.1 z.2.2) (x2, x3, σ)).bind (fun z => ec_X6_isLike_81 a x1 z.1 z.2.1 z.2.2)
set_option maxHeartbeats 4000000 in
theorem wc_X6_isLike_81 (C : cl_C D p s m args meth c cX6_isLike 4 (some .boolean) RX6) {r : Int32} {a : Nat} {x1 : (Option Nat)} {x2 : Int32} {x3 : Int32} {σ0 σ σ' : cl_S} {T : Nat → Nat × Nat} {H : Heap} {locs : List Loc} {ls : Array Slot} {cells slots : Nat} (h : bc_X6_isLike_81 a x1 x2 x3 σ = some (r, σ')) (G : cl_G true D c0 ({ frames := 0, cells := σ0.2.2.2.2.2.1, slots := σ0.2.2.2.2.2.2, locals := 0 }) s σ0.2.2.2.1 T σ H locs cells slots) (ha : (T a).1 = 22) (f1 : cl_RT T x1 22) (hl : lv_has ls 4 [(0, .ref (c0 + a)), (1, cl_rf c0 x1), (2, .int x2), (3, .int x3)]) : W p l e ({ frames := 0, cells := σ0.2.2.2.2.2.1, slots := σ0.2.2.2.2.2.2, locals := 0 }) s m args below meth c H locs cells slots (MQ below (cl_Q true D c0 (some (.int r)) cl_no σ0 σ') args s (σ0.2.2.2.2.2.1 - σ'.2.2.2.2.2.1) (σ0.2.2.2.2.2.2 - σ'.2.2.2.2.2.2) (cl_A c0 σ0.2.2.2.1 s.heap.size)) (F0 m 81 ls []) := by
  unfold bc_X6_isLike_81 at h
  obtain ⟨y, hy, h⟩ := bd_some h
  have hE : (fun z : (Int32 × Int32 × cl_S) => ∀ (T : Nat → Nat × Nat) (H : Heap) (locs : List Loc) (ls : Array Slot) (cells slots : Nat), cl_G true D c0 ({ frames := 0, cells := σ0.2.2.2.2.2.1, slots := σ0.2.2.2.2.2.2, locals := 0 }) s σ0.2.2.2.1 T z.2.2 H locs cells slots → (T a).1 = 22 → cl_RT T x1 22 → lv_has ls 4 [(0, .ref (c0 + a)), (1, cl_rf c0 x1), (2, .int (z.1)), (3, .int (z.2.1))] → W p l e ({ frames := 0, cells := σ0.2.2.2.2.2.1, slots := σ0.2.2.2.2.2.2, locals := 0 }) s m args below meth c H locs cells slots (MQ below (cl_Q true D c0 (some (.int r)) cl_no σ0 σ') args s (σ0.2.2.2.2.2.1 - σ'.2.2.2.2.2.1) (σ0.2.2.2.2.2.2 - σ'.2.2.2.2.2.2) (cl_A c0 σ0.2.2.2.1 s.heap.size)) (F0 m 135 ls [])) y := by
    clear hy G ha f1 hl
    intro T H locs ls cells slots G ha f1 hl
    obtain ⟨x2, x3, σ⟩ := y
    dsimp only at h G ha f1 hl
    unfold ec_X6_isLike_81 at h
    refine lv_iload_n C.1 C.2.1 dX6_isLike_135 rfl (lv_at hl 2 rfl) ?_
    obtain ⟨hnb, h_45⟩ := nb_some h
    exact cl_zret ⟨rfl, rfl⟩ rfl C G h_45 hnb dX6_isLike_136
  refine lp_recE (fun z : (Int32 × Int32 × cl_S) => ∀ (T : Nat → Nat × Nat) (H : Heap) (locs : List Loc) (ls : Array Slot) (cells slots : Nat), cl_G true D c0 ({ frames := 0, cells := σ0.2.2.2.2.2.1, slots := σ0.2.2.2.2.2.2, locals := 0 }) s σ0.2.2.2.1 T z.2.2 H locs cells slots → (T a).1 = 22 → cl_RT T x1 22 → lv_has ls 4 [(0, .ref (c0 + a)), (1, cl_rf c0 x1), (2, .int (z.1)), (3, .int (z.2.1))] → W p l e ({ frames := 0, cells := σ0.2.2.2.2.2.1, slots := σ0.2.2.2.2.2.2, locals := 0 }) s m args below meth c H locs cells slots (MQ below (cl_Q true D c0 (some (.int r)) cl_no σ0 σ') args s (σ0.2.2.2.2.2.1 - σ'.2.2.2.2.2.1) (σ0.2.2.2.2.2.2 - σ'.2.2.2.2.2.2) (cl_A c0 σ0.2.2.2.1 s.heap.size)) (F0 m 81 ls [])) (fun z : (Int32 × Int32 × cl_S) => ∀ (T : Nat → Nat × Nat) (H : Heap) (locs : List Loc) (ls : Array Slot) (cells slots : Nat), cl_G true D c0 ({ frames := 0, cells := σ0.2.2.2.2.2.1, slots := σ0.2.2.2.2.2.2, locals := 0 }) s σ0.2.2.2.1 T z.2.2 H locs cells slots → (T a).1 = 22 → cl_RT T x1 22 → lv_has ls 4 [(0, .ref (c0 + a)), (1, cl_rf c0 x1), (2, .int (z.1)), (3, .int (z.2.1))] → W p l e ({ frames := 0, cells := σ0.2.2.2.2.2.1, slots := σ0.2.2.2.2.2.2, locals := 0 }) s m args below meth c H locs cells slots (MQ below (cl_Q true D c0 (some (.int r)) cl_no σ0 σ') args s (σ0.2.2.2.2.2.1 - σ'.2.2.2.2.2.1) (σ0.2.2.2.2.2.2 - σ'.2.2.2.2.2.2) (cl_A c0 σ0.2.2.2.1 s.heap.size)) (F0 m 135 ls [])) ?_ _ _ hy hE _ _ _ _ _ _ G ha f1 hl
  clear hE hy G ha f1 hl h
  intro z o h hP T H locs ls cells slots G ha f1 hl
  obtain ⟨x2, x3, σ⟩ := z
  dsimp only at h G ha f1 hl
  unfold lc_X6_isLike_81 at h
  refine lv_iload_n C.1 C.2.1 dX6_isLike_81 rfl (lv_at hl 3 rfl) ?_
  refine lv_aload_n C.1 C.2.1 dX6_isLike_82 rfl (lv_at hl 0 rfl) ?_
  refine cg_6_76 C G ha dX6_isLike_83 ?_
  refine lv_icmp_ge (tgt := 135) C.1 C.2.1 dX6_isLike_86 (by decide) (fun hc => ?_) (fun hc => ?_)
  · rw [if_pos hc] at h
    cases h
    exact hP _ _ _ _ _ _ G ha f1 (lv_sub hl [0, 1, 2, 3] rfl)
  · rw [if_neg hc] at h
    refine lv_iload_n C.1 C.2.1 dX6_isLike_89 rfl (lv_at hl 2 rfl) ?_
    refine lv_if_eq (tgt := 135) C.1 C.2.1 dX6_isLike_90 (by decide) (fun hc => ?_) (fun hc => ?_)
    · rw [if_pos hc] at h
      cases h
      exact hP _ _ _ _ _ _ G ha f1 (lv_sub hl [0, 1, 2, 3] rfl)
    · rw [if_neg hc] at h
      refine lv_aload_n C.1 C.2.1 dX6_isLike_93 rfl (lv_at hl 0 rfl) ?_
      refine cg_6_18 C G ha dX6_isLike_94 (fun t_22 => ?_)
      refine lv_iload_n C.1 C.2.1 dX6_isLike_97 rfl (lv_at hl 3 rfl) ?_
      obtain ⟨hi, h_23⟩ := ix_some h
      refine cl_iald C G t_22 hi dX6_isLike_98 ?_
      refine cl_aload_n C.1 C.2.1 dX6_isLike_99 rfl (lv_at hl 1 rfl) ?_
      obtain ⟨a_24, rfl, h_26⟩ := nn_some h_23
      have t_25 := f1 _ rfl
      refine cg_6_18 C G t_25 dX6_isLike_100 (fun t_27 => ?_)
      refine lv_iload_n C.1 C.2.1 dX6_isLike_103 rfl (lv_at hl 3 rfl) ?_
      obtain ⟨hi, h_28⟩ := ix_some h_26
      refine cl_iald C G t_27 hi dX6_isLike_104 ?_
      refine lv_icmp_ne (tgt := 127) C.1 C.2.1 dX6_isLike_105 (by decide) (fun hc => ?_) (fun hc => ?_)
      · rw [if_neg hc] at h_28
        exact wc_X6_isLike_127i81 C h_28 hP G ha (cl_RTs t_25) (lv_sub hl [0, 1, 3] rfl)
      · rw [if_pos hc] at h_28
        refine lv_aload_n C.1 C.2.1 dX6_isLike_108 rfl (lv_at hl 0 rfl) ?_
        refine cg_6_24 C G ha dX6_isLike_109 (fun t_33 => ?_)
        refine lv_iload_n C.1 C.2.1 dX6_isLike_112 rfl (lv_at hl 3 rfl) ?_
        obtain ⟨hi, h_34⟩ := ix_some h_28
        refine cl_aald C G t_33 (by decide) (by decide) rfl hi dX6_isLike_113 (fun t_35 => ?_)
        refine vt_r (K := 25) t_35 h_34 (fun r_36 t_37 h_38 => ?_)
        refine lv_aload_n C.1 C.2.1 dX6_isLike_114 rfl (lv_at hl 1 rfl) ?_
        refine cg_6_24 C G t_25 dX6_isLike_115 (fun t_39 => ?_)
        refine lv_iload_n C.1 C.2.1 dX6_isLike_118 rfl (lv_at hl 3 rfl) ?_
        obtain ⟨hi, h_40⟩ := ix_some h_38
        refine cl_aald C G t_39 (by decide) (by decide) rfl hi dX6_isLike_119 (fun t_41 => ?_)
        refine vt_r (K := 25) t_41 h_40 (fun r_42 t_43 h_44 => ?_)
        refine cl_acmp_ne (rx := r_36) (ry := r_42) (tgt := 127) C.1 C.2.1 dX6_isLike_120 (by decide) (fun hc => ?_) (fun hc => ?_)
        · rw [if_neg hc] at h_44
          exact wc_X6_isLike_127i81 C h_44 hP G ha (cl_RTs t_25) (lv_sub hl [0, 1, 3] rfl)
        · rw [if_pos hc] at h_44
          refine lv_iconst (v := (1:Int32)) C.1 C.2.1 dX6_isLike_123 (by decide) ?_
          refine lv_goto (tgt := 128) C.1 C.2.1 dX6_isLike_124 (by decide) ?_
          exact wc_X6_isLike_128i81 C h_44 hP G ha (cl_RTs t_25) (lv_sub hl [0, 1, 3] rfl)
noncomputable def bc_X6_isLike_79 (a : Nat) (x1 : (Option Nat)) (x2 : Int32) (σ : cl_S) : Option (Int32 × cl_S) := bc_X6_isLike_81 a x1 x2 (0:Int32) σ
set_option maxHeartbeats 4000000 in
theorem wc_X6_isLike_79 (C : cl_C D p s m args meth c cX6_isLike 4 (some .boolean) RX6) {r : Int32} {a : Nat} {x1 : (Option Nat)} {x2 : Int32} {σ0 σ σ' : cl_S} {T : Nat → Nat × Nat} {H : Heap} {locs : List Loc} {ls : Array Slot} {cells slots : Nat} (h : bc_X6_isLike_79 a x1 x2 σ = some (r, σ')) (G : cl_G true D c0 ({ frames := 0, cells := σ0.2.2.2.2.2.1, slots := σ0.2.2.2.2.2.2, locals := 0 }) s σ0.2.2.2.1 T σ H locs cells slots) (ha : (T a).1 = 22) (f1 : cl_RT T x1 22) (hl : lv_has ls 4 [(0, .ref (c0 + a)), (1, cl_rf c0 x1), (2, .int x2)]) : W p l e ({ frames := 0, cells := σ0.2.2.2.2.2.1, slots := σ0.2.2.2.2.2.2, locals := 0 }) s m args below meth c H locs cells slots (MQ below (cl_Q true D c0 (some (.int r)) cl_no σ0 σ') args s (σ0.2.2.2.2.2.1 - σ'.2.2.2.2.2.1) (σ0.2.2.2.2.2.2 - σ'.2.2.2.2.2.2) (cl_A c0 σ0.2.2.2.1 s.heap.size)) (F0 m 79 ls []) := by
  unfold bc_X6_isLike_79 at h
  refine lv_iconst (v := (0:Int32)) C.1 C.2.1 dX6_isLike_79 (by decide) ?_
  refine lv_istore_n (lv' := [(3, .int (0:Int32)), (0, .ref (c0 + a)), (1, cl_rf c0 x1), (2, .int x2)]) C.1 C.2.1 dX6_isLike_80 rfl hl (by decide) (by first | rfl | (cases x1 <;> rfl)) (fun ls hl_21 => ?_)
  exact wc_X6_isLike_81 C h G ha f1 (lv_sub hl_21 [1, 2, 3, 0] rfl)
noncomputable def ec_X6_isLike_36 (a : Nat) (x1 : (Option Nat)) (x2 : Int32) (x3 : Int32) (σ : cl_S) : Option (Int32 × cl_S) := bc_X6_isLike_79 a x1 x2 σ
noncomputable def bc_X6_isLike_36 (a : Nat) (x1 : (Option Nat)) (x2 : Int32) (x3 : Int32) (σ : cl_S) : Option (Int32 × cl_S) := (lp (fun z : (Int32 × Int32 × cl_S) => lc_X6_isLike_36 a x1 z.1 z.2.1 z.2.2) (x2, x3, σ)).bind (fun z => ec_X6_isLike_36 a x1 z.1 z.2.1 z.2.2)
set_option maxHeartbeats 4000000 in
theorem wc_X6_isLike_36 (C : cl_C D p s m args meth c cX6_isLike 4 (some .boolean) RX6) {r : Int32} {a : Nat} {x1 : (Option Nat)} {x2 : Int32} {x3 : Int32} {σ0 σ σ' : cl_S} {T : Nat → Nat × Nat} {H : Heap} {locs : List Loc} {ls : Array Slot} {cells slots : Nat} (h : bc_X6_isLike_36 a x1 x2 x3 σ = some (r, σ')) (G : cl_G true D c0 ({ frames := 0, cells := σ0.2.2.2.2.2.1, slots := σ0.2.2.2.2.2.2, locals := 0 }) s σ0.2.2.2.1 T σ H locs cells slots) (ha : (T a).1 = 22) (f1 : cl_RT T x1 22) (hl : lv_has ls 4 [(0, .ref (c0 + a)), (1, cl_rf c0 x1), (2, .int x2), (3, .int x3)]) : W p l e ({ frames := 0, cells := σ0.2.2.2.2.2.1, slots := σ0.2.2.2.2.2.2, locals := 0 }) s m args below meth c H locs cells slots (MQ below (cl_Q true D c0 (some (.int r)) cl_no σ0 σ') args s (σ0.2.2.2.2.2.1 - σ'.2.2.2.2.2.1) (σ0.2.2.2.2.2.2 - σ'.2.2.2.2.2.2) (cl_A c0 σ0.2.2.2.1 s.heap.size)) (F0 m 36 ls []) := by
  unfold bc_X6_isLike_36 at h
  obtain ⟨y, hy, h⟩ := bd_some h
  have hE : (fun z : (Int32 × Int32 × cl_S) => ∀ (T : Nat → Nat × Nat) (H : Heap) (locs : List Loc) (ls : Array Slot) (cells slots : Nat), cl_G true D c0 ({ frames := 0, cells := σ0.2.2.2.2.2.1, slots := σ0.2.2.2.2.2.2, locals := 0 }) s σ0.2.2.2.1 T z.2.2 H locs cells slots → (T a).1 = 22 → cl_RT T x1 22 → lv_has ls 4 [(0, .ref (c0 + a)), (1, cl_rf c0 x1), (2, .int (z.1)), (3, .int (z.2.1))] → W p l e ({ frames := 0, cells := σ0.2.2.2.2.2.1, slots := σ0.2.2.2.2.2.2, locals := 0 }) s m args below meth c H locs cells slots (MQ below (cl_Q true D c0 (some (.int r)) cl_no σ0 σ') args s (σ0.2.2.2.2.2.1 - σ'.2.2.2.2.2.1) (σ0.2.2.2.2.2.2 - σ'.2.2.2.2.2.2) (cl_A c0 σ0.2.2.2.1 s.heap.size)) (F0 m 79 ls [])) y := by
    clear hy G ha f1 hl
    intro T H locs ls cells slots G ha f1 hl
    obtain ⟨x2, x3, σ⟩ := y
    dsimp only at h G ha f1 hl
    unfold ec_X6_isLike_36 at h
    exact wc_X6_isLike_79 C h G ha f1 (lv_sub hl [0, 1, 2] rfl)
  refine lp_recE (fun z : (Int32 × Int32 × cl_S) => ∀ (T : Nat → Nat × Nat) (H : Heap) (locs : List Loc) (ls : Array Slot) (cells slots : Nat), cl_G true D c0 ({ frames := 0, cells := σ0.2.2.2.2.2.1, slots := σ0.2.2.2.2.2.2, locals := 0 }) s σ0.2.2.2.1 T z.2.2 H locs cells slots → (T a).1 = 22 → cl_RT T x1 22 → lv_has ls 4 [(0, .ref (c0 + a)), (1, cl_rf c0 x1), (2, .int (z.1)), (3, .int (z.2.1))] → W p l e ({ frames := 0, cells := σ0.2.2.2.2.2.1, slots := σ0.2.2.2.2.2.2, locals := 0 }) s m args below meth c H locs cells slots (MQ below (cl_Q true D c0 (some (.int r)) cl_no σ0 σ') args s (σ0.2.2.2.2.2.1 - σ'.2.2.2.2.2.1) (σ0.2.2.2.2.2.2 - σ'.2.2.2.2.2.2) (cl_A c0 σ0.2.2.2.1 s.heap.size)) (F0 m 36 ls [])) (fun z : (Int32 × Int32 × cl_S) => ∀ (T : Nat → Nat × Nat) (H : Heap) (locs : List Loc) (ls : Array Slot) (cells slots : Nat), cl_G true D c0 ({ frames := 0, cells := σ0.2.2.2.2.2.1, slots := σ0.2.2.2.2.2.2, locals := 0 }) s σ0.2.2.2.1 T z.2.2 H locs cells slots → (T a).1 = 22 → cl_RT T x1 22 → lv_has ls 4 [(0, .ref (c0 + a)), (1, cl_rf c0 x1), (2, .int (z.1)), (3, .int (z.2.1))] → W p l e ({ frames := 0, cells := σ0.2.2.2.2.2.1, slots := σ0.2.2.2.2.2.2, locals := 0 }) s m args below meth c H locs cells slots (MQ below (cl_Q true D c0 (some (.int r)) cl_no σ0 σ') args s (σ0.2.2.2.2.2.1 - σ'.2.2.2.2.2.1) (σ0.2.2.2.2.2.2 - σ'.2.2.2.2.2.2) (cl_A c0 σ0.2.2.2.1 s.heap.size)) (F0 m 79 ls [])) ?_ _ _ hy hE _ _ _ _ _ _ G ha f1 hl
  clear hE hy G ha f1 hl h
  intro z o h hP T H locs ls cells slots G ha f1 hl
  obtain ⟨x2, x3, σ⟩ := z
  dsimp only at h G ha f1 hl
  unfold lc_X6_isLike_36 at h
  refine lv_iload_n C.1 C.2.1 dX6_isLike_36 rfl (lv_at hl 3 rfl) ?_
  refine lv_bipush (v := (16:Int32)) C.1 C.2.1 dX6_isLike_37 (by decide) ?_
  refine lv_icmp_ge (tgt := 79) C.1 C.2.1 dX6_isLike_39 (by decide) (fun hc => ?_) (fun hc => ?_)
  · rw [if_pos hc] at h
    cases h
    exact hP _ _ _ _ _ _ G ha f1 (lv_sub hl [0, 1, 2, 3] rfl)
  · rw [if_neg hc] at h
    refine lv_iload_n C.1 C.2.1 dX6_isLike_42 rfl (lv_at hl 2 rfl) ?_
    refine lv_if_eq (tgt := 79) C.1 C.2.1 dX6_isLike_43 (by decide) (fun hc => ?_) (fun hc => ?_)
    · rw [if_pos hc] at h
      cases h
      exact hP _ _ _ _ _ _ G ha f1 (lv_sub hl [0, 1, 2, 3] rfl)
    · rw [if_neg hc] at h
      refine lv_aload_n C.1 C.2.1 dX6_isLike_46 rfl (lv_at hl 0 rfl) ?_
      refine cg_6_12 C G ha dX6_isLike_47 (fun t_8 => ?_)
      have t_8 : (T (a + 1)).1 = 18 := by rw [t_8]
      refine cg_6_101 C G t_8 dX6_isLike_50 (fun t_9 => ?_)
      refine lv_iload_n C.1 C.2.1 dX6_isLike_53 rfl (lv_at hl 3 rfl) ?_
      obtain ⟨hi, h_10⟩ := ix_some h
      refine cl_iald C G t_9 hi dX6_isLike_54 ?_
      refine cl_aload_n C.1 C.2.1 dX6_isLike_55 rfl (lv_at hl 1 rfl) ?_
      obtain ⟨a_11, rfl, h_13⟩ := nn_some h_10
      have t_12 := f1 _ rfl
      refine cg_6_12 C G t_12 dX6_isLike_56 (fun t_14 => ?_)
      have t_14 : (T (a_11 + 1)).1 = 18 := by rw [t_14]
      refine cg_6_101 C G t_14 dX6_isLike_59 (fun t_15 => ?_)
      refine lv_iload_n C.1 C.2.1 dX6_isLike_62 rfl (lv_at hl 3 rfl) ?_
      obtain ⟨hi, h_16⟩ := ix_some h_13
      refine cl_iald C G t_15 hi dX6_isLike_63 ?_
      refine lv_icmp_ne (tgt := 71) C.1 C.2.1 dX6_isLike_64 (by decide) (fun hc => ?_) (fun hc => ?_)
      · rw [if_neg hc] at h_16
        refine lv_iconst (v := (0:Int32)) C.1 C.2.1 dX6_isLike_71 (by decide) ?_
        exact wc_X6_isLike_72i36 C h_16 hP G ha (cl_RTs t_12) (lv_sub hl [0, 1, 3] rfl)
      · rw [if_pos hc] at h_16
        refine lv_iconst (v := (1:Int32)) C.1 C.2.1 dX6_isLike_67 (by decide) ?_
        refine lv_goto (tgt := 72) C.1 C.2.1 dX6_isLike_68 (by decide) ?_
        exact wc_X6_isLike_72i36 C h_16 hP G ha (cl_RTs t_12) (lv_sub hl [0, 1, 3] rfl)
noncomputable def bc_X6_isLike_33 (a : Nat) (x1 : (Option Nat)) (v0 : Int32) (σ : cl_S) : Option (Int32 × cl_S) := bc_X6_isLike_36 a x1 v0 (0:Int32) σ
set_option maxHeartbeats 4000000 in
theorem wc_X6_isLike_33 (C : cl_C D p s m args meth c cX6_isLike 4 (some .boolean) RX6) {r : Int32} {a : Nat} {x1 : (Option Nat)} {v0 : Int32} {σ0 σ σ' : cl_S} {T : Nat → Nat × Nat} {H : Heap} {locs : List Loc} {ls : Array Slot} {cells slots : Nat} (h : bc_X6_isLike_33 a x1 v0 σ = some (r, σ')) (G : cl_G true D c0 ({ frames := 0, cells := σ0.2.2.2.2.2.1, slots := σ0.2.2.2.2.2.2, locals := 0 }) s σ0.2.2.2.1 T σ H locs cells slots) (ha : (T a).1 = 22) (f1 : cl_RT T x1 22) (hl : lv_has ls 4 [(0, .ref (c0 + a)), (1, cl_rf c0 x1)]) : W p l e ({ frames := 0, cells := σ0.2.2.2.2.2.1, slots := σ0.2.2.2.2.2.2, locals := 0 }) s m args below meth c H locs cells slots (MQ below (cl_Q true D c0 (some (.int r)) cl_no σ0 σ') args s (σ0.2.2.2.2.2.1 - σ'.2.2.2.2.2.1) (σ0.2.2.2.2.2.2 - σ'.2.2.2.2.2.2) (cl_A c0 σ0.2.2.2.1 s.heap.size)) (F0 m 33 ls [.int v0]) := by
  unfold bc_X6_isLike_33 at h
  refine lv_istore_n (lv' := [(2, .int v0), (0, .ref (c0 + a)), (1, cl_rf c0 x1)]) C.1 C.2.1 dX6_isLike_33 rfl hl (by decide) (by first | rfl | (cases x1 <;> rfl)) (fun ls hl_6 => ?_)
  refine lv_iconst (v := (0:Int32)) C.1 C.2.1 dX6_isLike_34 (by decide) ?_
  refine lv_istore_n (lv' := [(3, .int (0:Int32)), (2, .int v0), (0, .ref (c0 + a)), (1, cl_rf c0 x1)]) C.1 C.2.1 dX6_isLike_35 rfl hl_6 (by decide) (by first | rfl | (cases x1 <;> rfl)) (fun ls hl_7 => ?_)
  exact wc_X6_isLike_36 C h G ha f1 (lv_sub hl_7 [2, 3, 1, 0] rfl)
noncomputable def bc_X6_isLike_32 (a : Nat) (x1 : (Option Nat)) (σ : cl_S) : Option (Int32 × cl_S) := bc_X6_isLike_33 a x1 (0:Int32) σ
set_option maxHeartbeats 4000000 in
theorem wc_X6_isLike_32 (C : cl_C D p s m args meth c cX6_isLike 4 (some .boolean) RX6) {r : Int32} {a : Nat} {x1 : (Option Nat)} {σ0 σ σ' : cl_S} {T : Nat → Nat × Nat} {H : Heap} {locs : List Loc} {ls : Array Slot} {cells slots : Nat} (h : bc_X6_isLike_32 a x1 σ = some (r, σ')) (G : cl_G true D c0 ({ frames := 0, cells := σ0.2.2.2.2.2.1, slots := σ0.2.2.2.2.2.2, locals := 0 }) s σ0.2.2.2.1 T σ H locs cells slots) (ha : (T a).1 = 22) (f1 : cl_RT T x1 22) (hl : lv_has ls 4 [(0, .ref (c0 + a)), (1, cl_rf c0 x1)]) : W p l e ({ frames := 0, cells := σ0.2.2.2.2.2.1, slots := σ0.2.2.2.2.2.2, locals := 0 }) s m args below meth c H locs cells slots (MQ below (cl_Q true D c0 (some (.int r)) cl_no σ0 σ') args s (σ0.2.2.2.2.2.1 - σ'.2.2.2.2.2.1) (σ0.2.2.2.2.2.2 - σ'.2.2.2.2.2.2) (cl_A c0 σ0.2.2.2.1 s.heap.size)) (F0 m 32 ls []) := by
  unfold bc_X6_isLike_32 at h
  refine lv_iconst (v := (0:Int32)) C.1 C.2.1 dX6_isLike_32 (by decide) ?_
  exact wc_X6_isLike_33 C h G ha f1 (lv_sub hl [0, 1] rfl)
noncomputable def bc_X6_isLike_0 (a : Nat) (x1 : (Option Nat)) (σ : cl_S) : Option (Int32 × cl_S) := nn x1 (fun a_2 => (if (σ.1 (a + 1) 3) = (σ.1 (a_2 + 1) 3) then (if (σ.1 a 6) = (σ.1 a_2 6) then bc_X6_isLike_33 a (some a_2) (1:Int32) σ else bc_X6_isLike_32 a (some a_2) σ) else bc_X6_isLike_32 a (some a_2) σ))
set_option maxHeartbeats 4000000 in
theorem wc_X6_isLike_0 (C : cl_C D p s m args meth c cX6_isLike 4 (some .boolean) RX6) {r : Int32} {a : Nat} {x1 : (Option Nat)} {σ0 σ σ' : cl_S} {T : Nat → Nat × Nat} {H : Heap} {locs : List Loc} {ls : Array Slot} {cells slots : Nat} (h : bc_X6_isLike_0 a x1 σ = some (r, σ')) (G : cl_G true D c0 ({ frames := 0, cells := σ0.2.2.2.2.2.1, slots := σ0.2.2.2.2.2.2, locals := 0 }) s σ0.2.2.2.1 T σ H locs cells slots) (ha : (T a).1 = 22) (f1 : cl_RT T x1 22) (hl : lv_has ls 4 [(0, .ref (c0 + a)), (1, cl_rf c0 x1)]) : W p l e ({ frames := 0, cells := σ0.2.2.2.2.2.1, slots := σ0.2.2.2.2.2.2, locals := 0 }) s m args below meth c H locs cells slots (MQ below (cl_Q true D c0 (some (.int r)) cl_no σ0 σ') args s (σ0.2.2.2.2.2.1 - σ'.2.2.2.2.2.1) (σ0.2.2.2.2.2.2 - σ'.2.2.2.2.2.2) (cl_A c0 σ0.2.2.2.1 s.heap.size)) (F0 m 0 ls []) := by
  unfold bc_X6_isLike_0 at h
  refine lv_aload_n C.1 C.2.1 dX6_isLike_0 rfl (lv_at hl 0 rfl) ?_
  refine cg_6_12 C G ha dX6_isLike_1 (fun t_1 => ?_)
  have t_1 : (T (a + 1)).1 = 18 := by rw [t_1]
  refine cg_6_116 C G t_1 dX6_isLike_4 ?_
  refine cl_aload_n C.1 C.2.1 dX6_isLike_7 rfl (lv_at hl 1 rfl) ?_
  obtain ⟨a_2, rfl, h_4⟩ := nn_some h
  have t_3 := f1 _ rfl
  refine cg_6_12 C G t_3 dX6_isLike_8 (fun t_5 => ?_)
  have t_5 : (T (a_2 + 1)).1 = 18 := by rw [t_5]
  refine cg_6_116 C G t_5 dX6_isLike_11 ?_
  refine lv_icmp_ne (tgt := 32) C.1 C.2.1 dX6_isLike_14 (by decide) (fun hc => ?_) (fun hc => ?_)
  · rw [if_neg hc] at h_4
    exact wc_X6_isLike_32 C h_4 G ha (cl_RTs t_3) (lv_sub hl [0, 1] rfl)
  · rw [if_pos hc] at h_4
    refine lv_aload_n C.1 C.2.1 dX6_isLike_17 rfl (lv_at hl 0 rfl) ?_
    refine cg_6_76 C G ha dX6_isLike_18 ?_
    refine lv_aload_n C.1 C.2.1 dX6_isLike_21 rfl (lv_at hl 1 rfl) ?_
    refine cg_6_76 C G t_3 dX6_isLike_22 ?_
    refine lv_icmp_ne (tgt := 32) C.1 C.2.1 dX6_isLike_25 (by decide) (fun hc => ?_) (fun hc => ?_)
    · rw [if_neg hc] at h_4
      exact wc_X6_isLike_32 C h_4 G ha (cl_RTs t_3) (lv_sub hl [0, 1] rfl)
    · rw [if_pos hc] at h_4
      refine lv_iconst (v := (1:Int32)) C.1 C.2.1 dX6_isLike_28 (by decide) ?_
      refine lv_goto (tgt := 33) C.1 C.2.1 dX6_isLike_29 (by decide) ?_
      exact wc_X6_isLike_33 C h_4 G ha (cl_RTs t_3) (lv_sub hl [0, 1] rfl)
noncomputable def fc_X6_isLike (a : Nat) (x1 : (Option Nat)) (σ : cl_S) : Option (Int32 × cl_S) := bc_X6_isLike_0 a x1 σ
theorem kc_X6_isLike (l : Launch) (D : cl_D) (c0 : Nat) {r : Int32} {a : Nat} {x1 : (Option Nat)} {σ σ' : cl_S} (ha : (σ.2.2.2.1 a).1 = 22) (h : fc_X6_isLike a x1 σ = some (r, σ')) (f1 : cl_RT σ.2.2.2.1 x1 22) : cl_Met true l D c0 yX6_isLike cX6_isLike 4 (some .boolean) 0 0 [.ref (c0 + a), cl_rf c0 x1] σ (some (.int r)) cl_no σ' :=
  by cases x1 <;> exact cl_of (by decide) (Nat.le_of_ble_eq_true rfl) (fun p e s m args below meth c ls C hn G hl => wc_X6_isLike_0 C h G ha f1 hl)
abbrev cX7_init : ByteArray := prog_9_method_1_code
def yX7_init : MethodName := ⟨RX7, "<init>", "()V"⟩
theorem dX7_init_0 : decode cX7_init 0 = .ok (.aload_n 0, 1) := by decide +kernel
theorem dX7_init_1 : decode cX7_init 1 = .ok (.invokespecial 5, 3) := by decide +kernel
theorem dX7_init_4 : decode cX7_init 4 = .ok (.aload_n 0, 1) := by decide +kernel
theorem dX7_init_5 : decode cX7_init 5 = .ok (.sipush 2048, 3) := by decide +kernel
theorem dX7_init_8 : decode cX7_init 8 = .ok (.newarray .int, 2) := by decide +kernel
theorem dX7_init_10 : decode cX7_init 10 = .ok (.putfield 11, 3) := by decide +kernel
theorem dX7_init_13 : decode cX7_init 13 = .ok (.aload_n 0, 1) := by decide +kernel
theorem dX7_init_14 : decode cX7_init 14 = .ok (.sipush 2048, 3) := by decide +kernel
theorem dX7_init_17 : decode cX7_init 17 = .ok (.newarray .int, 2) := by decide +kernel
theorem dX7_init_19 : decode cX7_init 19 = .ok (.putfield 17, 3) := by decide +kernel
theorem dX7_init_22 : decode cX7_init 22 = .ok (.return_, 1) := by decide +kernel
theorem cc_X7_init : Cond.code yX7_init cX7_init 1 none ∈ rf_tb := rf_at 175 (by decide +kernel) (by decide +kernel)
theorem oi_RX7_5 : Cond.methodLink RX7 5 Lib.objectInit ∈ rf_tb := rf_at 176 (by decide +kernel) (by decide +kernel)
noncomputable def bc_X7_init_0 (a : Nat) (σ : cl_S) : Option (cl_S) := nag (2048:Int32) (al σ (2048:Int32).toNatClampNeg (vl σ.2.2.2.2.1 (fun a_1 => vl (cl_nw σ 1 (2048:Int32).toNatClampNeg (2048:Int32).toNatClampNeg) (fun σ_2 => vl (cl_wr σ_2 a 0 (some a_1)) (fun σ_11 => nag (2048:Int32) (al σ_11 (2048:Int32).toNatClampNeg (vl σ_11.2.2.2.2.1 (fun a_15 => vl (cl_nw σ_11 1 (2048:Int32).toNatClampNeg (2048:Int32).toNatClampNeg) (fun σ_16 => vl (cl_wr σ_16 a 1 (some a_15)) (fun σ_25 => some σ_25))))))))))
set_option maxHeartbeats 4000000 in
theorem wc_X7_init_0 (C : cl_C D p s m args meth c cX7_init 1 none RX7) (hn9 : meth.name = "<init>") {a : Nat} {σ0 σ σ' : cl_S} {T : Nat → Nat × Nat} {H : Heap} {locs : List Loc} {ls : Array Slot} {cells slots : Nat} (h : bc_X7_init_0 a σ = some σ') (G : cl_G true D c0 ({ frames := 1, cells := σ0.2.2.2.2.2.1, slots := σ0.2.2.2.2.2.2, locals := 20 }) s σ0.2.2.2.1 T σ H locs cells slots) (ha : (T a).1 = 123) (hl : lv_has ls 1 [(0, .ref (c0 + a))]) : W p l e ({ frames := 1, cells := σ0.2.2.2.2.2.1, slots := σ0.2.2.2.2.2.2, locals := 20 }) s m args below meth c H locs cells slots (MQ below (cl_Q true D c0 none cl_no σ0 σ') args s (σ0.2.2.2.2.2.1 - σ'.2.2.2.2.2.1) (σ0.2.2.2.2.2.2 - σ'.2.2.2.2.2.2) (cl_A c0 σ0.2.2.2.1 s.heap.size)) (F0 m 0 ls []) := by
  unfold bc_X7_init_0 at h
  refine lv_aload_n C.1 C.2.1 dX7_init_0 rfl (lv_at hl 0 rfl) ?_
  refine W.objInit (rest := []) C.1 C.2.1 C.2.2.2.1 (C.2.2.2.2.1 _ oi_RX7_5) (C.2.2.2.2.1 _ oi_i) (C.2.2.2.2.1 _ oi_c) rfl (by rw [C.2.2.1]; exact hl.1) rfl dX7_init_1 (Nat.le_of_ble_eq_true rfl) (Nat.le_of_ble_eq_true rfl) ?_
  refine W.eq (g2 := F0 m 4 ls []) rfl ?_
  refine lv_aload_n C.1 C.2.1 dX7_init_4 rfl (lv_at hl 0 rfl) ?_
  refine lv_sipush (v := (2048:Int32)) C.1 C.2.1 dX7_init_5 (by decide) ?_
  obtain ⟨hng, h_5⟩ := nag_some h
  obtain ⟨hal, h_6⟩ := al_some h_5
  refine cl_newa (t := 1) C G (by decide) (by decide) .int rfl aw_1 hng.1 rfl (cl_bytes hng.2 (by decide) (by decide)) hal dX7_init_8 (fun T_4 H cells slots t_3 hu G_7 => ?_)
  have ha := hu.kind ha (by decide)
  refine cl_nmB h_6 t_3 (fun a_1 t_3 h_8 => ?_)
  refine cl_nm G_7 h_8 (fun σ_2 G_9 h_10 => ?_)
  refine rp_7_11 (x := (some a_1)) C hn9 G_9 ha (cl_RTs (by rw [t_3])) dX7_init_10 (fun H locs G_12 => ?_)
  refine cl_nm G_12 h_10 (fun σ_11 G_13 h_14 => ?_)
  refine lv_aload_n C.1 C.2.1 dX7_init_13 rfl (lv_at hl 0 rfl) ?_
  refine lv_sipush (v := (2048:Int32)) C.1 C.2.1 dX7_init_14 (by decide) ?_
  obtain ⟨hng, h_19⟩ := nag_some h_14
  obtain ⟨hal, h_20⟩ := al_some h_19
  refine cl_newa (t := 1) C G_13 (by decide) (by decide) .int rfl aw_1 hng.1 rfl (cl_bytes hng.2 (by decide) (by decide)) hal dX7_init_17 (fun T_18 H cells slots t_17 hu G_21 => ?_)
  have ha := hu.kind ha (by decide)
  refine cl_nmB h_20 t_17 (fun a_15 t_17 h_22 => ?_)
  refine cl_nm G_21 h_22 (fun σ_16 G_23 h_24 => ?_)
  refine rp_7_17 (x := (some a_15)) C hn9 G_23 ha (cl_RTs (by rw [t_17])) dX7_init_19 (fun H locs G_26 => ?_)
  refine cl_nm G_26 h_24 (fun σ_25 G_27 h_28 => ?_)
  exact cl_vret ⟨rfl, rfl⟩ rfl C G_27 h_28 dX7_init_22
noncomputable def fc_X7_init (a : Nat) (σ : cl_S) : Option (cl_S) := bc_X7_init_0 a σ
theorem kc_X7_init (l : Launch) (D : cl_D) (c0 : Nat) {a : Nat} {σ σ' : cl_S} (ha : (σ.2.2.2.1 a).1 = 123) (h : fc_X7_init a σ = some σ') : cl_Met true l D c0 yX7_init cX7_init 1 none 1 20 [.ref (c0 + a)] σ none cl_no σ' :=
  cl_of (by decide) (Nat.le_of_ble_eq_true rfl) (fun p e s m args below meth c ls C hn G hl => wc_X7_init_0 C hn h G ha hl)
abbrev cX7_reach : ByteArray := prog_9_method_3_code
def yX7_reach : MethodName := ⟨RX7, "reach", "(I)V"⟩
theorem dX7_reach_0 : decode cX7_reach 0 = .ok (.iload_n 1, 1) := by decide +kernel
theorem dX7_reach_1 : decode cX7_reach 1 = .ok (.ifCond .lt 11, 3) := by decide +kernel
theorem dX7_reach_4 : decode cX7_reach 4 = .ok (.iload_n 1, 1) := by decide +kernel
theorem dX7_reach_5 : decode cX7_reach 5 = .ok (.aload_n 0, 1) := by decide +kernel
theorem dX7_reach_6 : decode cX7_reach 6 = .ok (.getfield 20, 3) := by decide +kernel
theorem dX7_reach_9 : decode cX7_reach 9 = .ok (.if_icmp .lt 22, 3) := by decide +kernel
theorem dX7_reach_12 : decode cX7_reach 12 = .ok (.aload_n 0, 1) := by decide +kernel
theorem dX7_reach_13 : decode cX7_reach 13 = .ok (.aload_n 0, 1) := by decide +kernel
theorem dX7_reach_14 : decode cX7_reach 14 = .ok (.getfield 25, 3) := by decide +kernel
theorem dX7_reach_17 : decode cX7_reach 17 = .ok (.iload_n 1, 1) := by decide +kernel
theorem dX7_reach_18 : decode cX7_reach 18 = .ok (.iconst 0, 1) := by decide +kernel
theorem dX7_reach_19 : decode cX7_reach 19 = .ok (.invokestatic 49, 3) := by decide +kernel
theorem dX7_reach_22 : decode cX7_reach 22 = .ok (.invokestatic 55, 3) := by decide +kernel
theorem dX7_reach_25 : decode cX7_reach 25 = .ok (.putfield 25, 3) := by decide +kernel
theorem dX7_reach_28 : decode cX7_reach 28 = .ok (.goto 39, 3) := by decide +kernel
theorem dX7_reach_31 : decode cX7_reach 31 = .ok (.aload_n 0, 1) := by decide +kernel
theorem dX7_reach_32 : decode cX7_reach 32 = .ok (.getfield 11, 3) := by decide +kernel
theorem dX7_reach_35 : decode cX7_reach 35 = .ok (.iload_n 1, 1) := by decide +kernel
theorem dX7_reach_36 : decode cX7_reach 36 = .ok (.iaload, 1) := by decide +kernel
theorem dX7_reach_37 : decode cX7_reach 37 = .ok (.ifCond .ne 30, 3) := by decide +kernel
theorem dX7_reach_40 : decode cX7_reach 40 = .ok (.aload_n 0, 1) := by decide +kernel
theorem dX7_reach_41 : decode cX7_reach 41 = .ok (.getfield 11, 3) := by decide +kernel
theorem dX7_reach_44 : decode cX7_reach 44 = .ok (.iload_n 1, 1) := by decide +kernel
theorem dX7_reach_45 : decode cX7_reach 45 = .ok (.iconst 1, 1) := by decide +kernel
theorem dX7_reach_46 : decode cX7_reach 46 = .ok (.iastore, 1) := by decide +kernel
theorem dX7_reach_47 : decode cX7_reach 47 = .ok (.aload_n 0, 1) := by decide +kernel
theorem dX7_reach_48 : decode cX7_reach 48 = .ok (.getfield 17, 3) := by decide +kernel
theorem dX7_reach_51 : decode cX7_reach 51 = .ok (.aload_n 0, 1) := by decide +kernel
theorem dX7_reach_52 : decode cX7_reach 52 = .ok (.getfield 28, 3) := by decide +kernel
theorem dX7_reach_55 : decode cX7_reach 55 = .ok (.iload_n 1, 1) := by decide +kernel
theorem dX7_reach_56 : decode cX7_reach 56 = .ok (.iastore, 1) := by decide +kernel
theorem dX7_reach_57 : decode cX7_reach 57 = .ok (.aload_n 0, 1) := by decide +kernel
theorem dX7_reach_58 : decode cX7_reach 58 = .ok (.dup, 1) := by decide +kernel
theorem dX7_reach_59 : decode cX7_reach 59 = .ok (.getfield 28, 3) := by decide +kernel
theorem dX7_reach_62 : decode cX7_reach 62 = .ok (.iconst 1, 1) := by decide +kernel
theorem dX7_reach_63 : decode cX7_reach 63 = .ok (.iadd, 1) := by decide +kernel
theorem dX7_reach_64 : decode cX7_reach 64 = .ok (.putfield 28, 3) := by decide +kernel
theorem dX7_reach_67 : decode cX7_reach 67 = .ok (.return_, 1) := by decide +kernel
theorem cc_X7_reach : Cond.code yX7_reach cX7_reach 2 none ∈ rf_tb := rf_at 981 (by decide +kernel) (by decide +kernel)
theorem mw_RX7_49 : Cond.methodLink RX7 49 Lib.Math.max.name ∈ rf_tb := rf_at 982 (by decide +kernel) (by decide +kernel)
theorem mw_max_s : Cond.static Lib.Math.max.name ∈ rf_tb := rf_at 983 (by decide +kernel) (by decide +kernel)
theorem mw_max_c : Cond.code Lib.Math.max.name Lib.Math.max.code 2 (some .int) ∈ rf_tb := rf_at 984 (by decide +kernel) (by decide +kernel)
theorem mw_RX7_55 : Cond.methodLink RX7 55 Lib.Math.min.name ∈ rf_tb := rf_at 985 (by decide +kernel) (by decide +kernel)
noncomputable def bc_X7_reach_12 (a : Nat) (x1 : Int32) (σ : cl_S) : Option (cl_S) := vl (cl_w σ a 4 (if (if x1 < (0:Int32) then (0:Int32) else x1) < (σ.1 a 4) then (if x1 < (0:Int32) then (0:Int32) else x1) else (σ.1 a 4))) (fun σ_1 => some σ_1)
set_option maxHeartbeats 4000000 in
theorem wc_X7_reach_12 (C : cl_C D p s m args meth c cX7_reach 2 none RX7) {a : Nat} {x1 : Int32} {σ0 σ σ' : cl_S} {T : Nat → Nat × Nat} {H : Heap} {locs : List Loc} {ls : Array Slot} {cells slots : Nat} (h : bc_X7_reach_12 a x1 σ = some σ') (G : cl_G true D c0 ({ frames := 1, cells := σ0.2.2.2.2.2.1, slots := σ0.2.2.2.2.2.2, locals := 21 }) s σ0.2.2.2.1 T σ H locs cells slots) (ha : (T a).1 = 23) (hl : lv_has ls 2 [(0, .ref (c0 + a)), (1, .int x1)]) : W p l e ({ frames := 1, cells := σ0.2.2.2.2.2.1, slots := σ0.2.2.2.2.2.2, locals := 21 }) s m args below meth c H locs cells slots (MQ below (cl_Q true D c0 none cl_no σ0 σ') args s (σ0.2.2.2.2.2.1 - σ'.2.2.2.2.2.1) (σ0.2.2.2.2.2.2 - σ'.2.2.2.2.2.2) (cl_A c0 σ0.2.2.2.1 s.heap.size)) (F0 m 12 ls []) := by
  unfold bc_X7_reach_12 at h
  refine lv_aload_n C.1 C.2.1 dX7_reach_12 rfl (lv_at hl 0 rfl) ?_
  refine lv_aload_n C.1 C.2.1 dX7_reach_13 rfl (lv_at hl 0 rfl) ?_
  refine cg_7_25 C G ha dX7_reach_14 ?_
  refine lv_iload_n C.1 C.2.1 dX7_reach_17 rfl (lv_at hl 1 rfl) ?_
  refine lv_iconst (v := (0:Int32)) C.1 C.2.1 dX7_reach_18 (by decide) ?_
  refine va_mmax C.1 C.2.1 (C.2.2.1.trans hl.1.symm) C.2.2.2.1 (C.2.2.2.2.1 _ mw_RX7_49) (C.2.2.2.2.1 _ mw_max_s) (C.2.2.2.2.1 _ mw_Math_i) (C.2.2.2.2.1 _ mw_max_c) (Nat.le_of_ble_eq_true rfl) (Nat.le_of_ble_eq_true rfl) (cl_le1 G) (cl_le2 G) dX7_reach_19 ?_
  refine va_mmin C.1 C.2.1 (C.2.2.1.trans hl.1.symm) C.2.2.2.1 (C.2.2.2.2.1 _ mw_RX7_55) (C.2.2.2.2.1 _ mw_min_s) (C.2.2.2.2.1 _ mw_Math_i) (C.2.2.2.2.1 _ mw_min_c) (Nat.le_of_ble_eq_true rfl) (Nat.le_of_ble_eq_true rfl) (cl_le1 G) (cl_le2 G) dX7_reach_22 ?_
  refine cp_7_25 C G ha dX7_reach_25 (fun H locs G_2 => ?_)
  refine cl_nm G_2 h (fun σ_1 G_3 h_4 => ?_)
  refine lv_goto (tgt := 67) C.1 C.2.1 dX7_reach_28 (by decide) ?_
  exact cl_vret ⟨rfl, rfl⟩ rfl C G_3 h_4 dX7_reach_67
noncomputable def bc_X7_reach_0 (a : Nat) (x1 : Int32) (σ : cl_S) : Option (cl_S) := (if x1 < 0 then bc_X7_reach_12 a x1 σ else (if x1 < (σ.1 a 3) then ix x1 2048 ((if (σ.1 (a + 1) x1.toNatClampNeg) = 0 then ix x1 2048 (vl (cl_w σ (a + 1) x1.toNatClampNeg (1:Int32)) (fun σ_8 => ix (σ_8.1 a 2) 2048 (vl (cl_w σ_8 (a + 2) (σ_8.1 a 2).toNatClampNeg x1) (fun σ_14 => vl (cl_w σ_14 a 2 ((σ_14.1 a 2) + (1:Int32))) (fun σ_19 => some σ_19))))) else some σ)) else bc_X7_reach_12 a x1 σ))
set_option maxHeartbeats 4000000 in
theorem wc_X7_reach_0 (C : cl_C D p s m args meth c cX7_reach 2 none RX7) {a : Nat} {x1 : Int32} {σ0 σ σ' : cl_S} {T : Nat → Nat × Nat} {H : Heap} {locs : List Loc} {ls : Array Slot} {cells slots : Nat} (h : bc_X7_reach_0 a x1 σ = some σ') (G : cl_G true D c0 ({ frames := 1, cells := σ0.2.2.2.2.2.1, slots := σ0.2.2.2.2.2.2, locals := 21 }) s σ0.2.2.2.1 T σ H locs cells slots) (ha : (T a).1 = 23) (hl : lv_has ls 2 [(0, .ref (c0 + a)), (1, .int x1)]) : W p l e ({ frames := 1, cells := σ0.2.2.2.2.2.1, slots := σ0.2.2.2.2.2.2, locals := 21 }) s m args below meth c H locs cells slots (MQ below (cl_Q true D c0 none cl_no σ0 σ') args s (σ0.2.2.2.2.2.1 - σ'.2.2.2.2.2.1) (σ0.2.2.2.2.2.2 - σ'.2.2.2.2.2.2) (cl_A c0 σ0.2.2.2.1 s.heap.size)) (F0 m 0 ls []) := by
  unfold bc_X7_reach_0 at h
  refine lv_iload_n C.1 C.2.1 dX7_reach_0 rfl (lv_at hl 1 rfl) ?_
  refine lv_if_lt (tgt := 12) C.1 C.2.1 dX7_reach_1 (by decide) (fun hc => ?_) (fun hc => ?_)
  · rw [if_pos hc] at h
    exact wc_X7_reach_12 C h G ha (lv_sub hl [0, 1] rfl)
  · rw [if_neg hc] at h
    refine lv_iload_n C.1 C.2.1 dX7_reach_4 rfl (lv_at hl 1 rfl) ?_
    refine lv_aload_n C.1 C.2.1 dX7_reach_5 rfl (lv_at hl 0 rfl) ?_
    refine cg_7_20 C G ha dX7_reach_6 ?_
    refine lv_icmp_lt (tgt := 31) C.1 C.2.1 dX7_reach_9 (by decide) (fun hc => ?_) (fun hc => ?_)
    · rw [if_pos hc] at h
      refine lv_aload_n C.1 C.2.1 dX7_reach_31 rfl (lv_at hl 0 rfl) ?_
      refine cg_7_11 C G ha dX7_reach_32 (fun t_5 => ?_)
      refine lv_iload_n C.1 C.2.1 dX7_reach_35 rfl (lv_at hl 1 rfl) ?_
      obtain ⟨hi, h_6⟩ := ix_some h
      refine cl_iald C G t_5 hi dX7_reach_36 ?_
      refine lv_if_ne (tgt := 67) C.1 C.2.1 dX7_reach_37 (by decide) (fun hc => ?_) (fun hc => ?_)
      · rw [if_neg hc] at h_6
        exact cl_vret ⟨rfl, rfl⟩ rfl C G h_6 dX7_reach_67
      · rw [if_pos hc] at h_6
        refine lv_aload_n C.1 C.2.1 dX7_reach_40 rfl (lv_at hl 0 rfl) ?_
        refine cg_7_11 C G ha dX7_reach_41 (fun t_7 => ?_)
        refine lv_iload_n C.1 C.2.1 dX7_reach_44 rfl (lv_at hl 1 rfl) ?_
        refine lv_iconst (v := (1:Int32)) C.1 C.2.1 dX7_reach_45 (by decide) ?_
        obtain ⟨hi, h_9⟩ := ix_some h_6
        refine cl_iast C G t_7 hi dX7_reach_46 (fun H locs G_10 => ?_)
        refine cl_nm G_10 h_9 (fun σ_8 G_11 h_12 => ?_)
        refine lv_aload_n C.1 C.2.1 dX7_reach_47 rfl (lv_at hl 0 rfl) ?_
        refine cg_7_17 C G_11 ha dX7_reach_48 (fun t_13 => ?_)
        refine lv_aload_n C.1 C.2.1 dX7_reach_51 rfl (lv_at hl 0 rfl) ?_
        refine cg_7_28 C G_11 ha dX7_reach_52 ?_
        refine lv_iload_n C.1 C.2.1 dX7_reach_55 rfl (lv_at hl 1 rfl) ?_
        obtain ⟨hi, h_15⟩ := ix_some h_12
        refine cl_iast C G_11 t_13 hi dX7_reach_56 (fun H locs G_16 => ?_)
        refine cl_nm G_16 h_15 (fun σ_14 G_17 h_18 => ?_)
        refine lv_aload_n C.1 C.2.1 dX7_reach_57 rfl (lv_at hl 0 rfl) ?_
        refine lv_dup C.1 C.2.1 dX7_reach_58 rfl ?_
        refine cg_7_28 C G_17 ha dX7_reach_59 ?_
        refine lv_iconst (v := (1:Int32)) C.1 C.2.1 dX7_reach_62 (by decide) ?_
        refine lv_iadd C.1 C.2.1 dX7_reach_63 ?_
        refine cp_7_28 C G_17 ha dX7_reach_64 (fun H locs G_20 => ?_)
        refine cl_nm G_20 h_18 (fun σ_19 G_21 h_22 => ?_)
        exact cl_vret ⟨rfl, rfl⟩ rfl C G_21 h_22 dX7_reach_67
    · rw [if_neg hc] at h
      exact wc_X7_reach_12 C h G ha (lv_sub hl [0, 1] rfl)
noncomputable def fc_X7_reach (a : Nat) (x1 : Int32) (σ : cl_S) : Option (cl_S) := bc_X7_reach_0 a x1 σ
theorem kc_X7_reach (l : Launch) (D : cl_D) (c0 : Nat) {a : Nat} {x1 : Int32} {σ σ' : cl_S} (ha : (σ.2.2.2.1 a).1 = 23) (h : fc_X7_reach a x1 σ = some σ') : cl_Met true l D c0 yX7_reach cX7_reach 2 none 1 21 [.ref (c0 + a), .int x1] σ none cl_no σ' :=
  cl_of (by decide) (Nat.le_of_ble_eq_true rfl) (fun p e s m args below meth c ls C hn G hl => wc_X7_reach_0 C h G ha hl)
abbrev cX7_follow : ByteArray := prog_9_method_4_code
def yX7_follow : MethodName := ⟨RX7, "follow", "(I[I)V"⟩
theorem dX7_follow_0 : decode cX7_follow 0 = .ok (.aload_n 2, 1) := by decide +kernel
theorem dX7_follow_1 : decode cX7_follow 1 = .ok (.iload_n 1, 1) := by decide +kernel
theorem dX7_follow_2 : decode cX7_follow 2 = .ok (.iaload, 1) := by decide +kernel
theorem dX7_follow_3 : decode cX7_follow 3 = .ok (.bipush 26, 2) := by decide +kernel
theorem dX7_follow_5 : decode cX7_follow 5 = .ok (.iushr, 1) := by decide +kernel
theorem dX7_follow_6 : decode cX7_follow 6 = .ok (.istore_n 3, 1) := by decide +kernel
theorem dX7_follow_7 : decode cX7_follow 7 = .ok (.iload_n 1, 1) := by decide +kernel
theorem dX7_follow_8 : decode cX7_follow 8 = .ok (.aload_n 2, 1) := by decide +kernel
theorem dX7_follow_9 : decode cX7_follow 9 = .ok (.iload_n 1, 1) := by decide +kernel
theorem dX7_follow_10 : decode cX7_follow 10 = .ok (.iaload, 1) := by decide +kernel
theorem dX7_follow_11 : decode cX7_follow 11 = .ok (.bipush 14, 2) := by decide +kernel
theorem dX7_follow_13 : decode cX7_follow 13 = .ok (.ishl, 1) := by decide +kernel
theorem dX7_follow_14 : decode cX7_follow 14 = .ok (.bipush 14, 2) := by decide +kernel
theorem dX7_follow_16 : decode cX7_follow 16 = .ok (.ishr, 1) := by decide +kernel
theorem dX7_follow_17 : decode cX7_follow 17 = .ok (.iadd, 1) := by decide +kernel
theorem dX7_follow_18 : decode cX7_follow 18 = .ok (.istore 4, 2) := by decide +kernel
theorem dX7_follow_20 : decode cX7_follow 20 = .ok (.iload_n 3, 1) := by decide +kernel
theorem dX7_follow_21 : decode cX7_follow 21 = .ok (.bipush 36, 2) := by decide +kernel
theorem dX7_follow_23 : decode cX7_follow 23 = .ok (.if_icmp .eq 10, 3) := by decide +kernel
theorem dX7_follow_26 : decode cX7_follow 26 = .ok (.aload_n 0, 1) := by decide +kernel
theorem dX7_follow_27 : decode cX7_follow 27 = .ok (.iload_n 1, 1) := by decide +kernel
theorem dX7_follow_28 : decode cX7_follow 28 = .ok (.iconst 1, 1) := by decide +kernel
theorem dX7_follow_29 : decode cX7_follow 29 = .ok (.iadd, 1) := by decide +kernel
theorem dX7_follow_30 : decode cX7_follow 30 = .ok (.invokevirtual 37, 3) := by decide +kernel
theorem dX7_follow_33 : decode cX7_follow 33 = .ok (.iload_n 3, 1) := by decide +kernel
theorem dX7_follow_34 : decode cX7_follow 34 = .ok (.bipush 30, 2) := by decide +kernel
theorem dX7_follow_36 : decode cX7_follow 36 = .ok (.if_icmp .lt 15, 3) := by decide +kernel
theorem dX7_follow_39 : decode cX7_follow 39 = .ok (.iload_n 3, 1) := by decide +kernel
theorem dX7_follow_40 : decode cX7_follow 40 = .ok (.bipush 36, 2) := by decide +kernel
theorem dX7_follow_42 : decode cX7_follow 42 = .ok (.if_icmp .gt 9, 3) := by decide +kernel
theorem dX7_follow_45 : decode cX7_follow 45 = .ok (.aload_n 0, 1) := by decide +kernel
theorem dX7_follow_46 : decode cX7_follow 46 = .ok (.iload 4, 2) := by decide +kernel
theorem dX7_follow_48 : decode cX7_follow 48 = .ok (.invokevirtual 37, 3) := by decide +kernel
theorem dX7_follow_51 : decode cX7_follow 51 = .ok (.return_, 1) := by decide +kernel
theorem cc_X7_follow : Cond.code yX7_follow cX7_follow 5 none ∈ rf_tb := rf_at 991 (by decide +kernel) (by decide +kernel)
theorem cw_RX7_37 : cl_wV RX7 RX7 yX7_reach cX7_reach 2 none 37 1 := ⟨⟨rf_at 978 (by decide +kernel) (by decide +kernel), rf_at 980 (by decide +kernel) (by decide +kernel), rf_sel (q := (yX7_reach, 5)) 26 (by decide +kernel) (by decide +kernel), cc_X7_reach, rf_at 8 (by decide +kernel) (by decide +kernel)⟩, ⟨by decide, by decide, by decide +kernel⟩⟩
noncomputable def bc_X7_follow_33 (a : Nat) (x3 : Int32) (x4 : Int32) (σ : cl_S) : Option (cl_S) := (if x3 < (30:Int32) then some σ else (if (36:Int32) < x3 then some σ else bd1 (fc_X7_reach a x4 σ) (fun σ_14 => some σ_14)))
set_option maxHeartbeats 4000000 in
theorem wc_X7_follow_33 (C : cl_C D p s m args meth c cX7_follow 5 none RX7) {a : Nat} {x3 : Int32} {x4 : Int32} {σ0 σ σ' : cl_S} {T : Nat → Nat × Nat} {H : Heap} {locs : List Loc} {ls : Array Slot} {cells slots : Nat} (h : bc_X7_follow_33 a x3 x4 σ = some σ') (G : cl_G true D c0 ({ frames := 2, cells := σ0.2.2.2.2.2.1, slots := σ0.2.2.2.2.2.2, locals := 42 }) s σ0.2.2.2.1 T σ H locs cells slots) (ha : (T a).1 = 23) (hl : lv_has ls 5 [(0, .ref (c0 + a)), (3, .int x3), (4, .int x4)]) : W p l e ({ frames := 2, cells := σ0.2.2.2.2.2.1, slots := σ0.2.2.2.2.2.2, locals := 42 }) s m args below meth c H locs cells slots (MQ below (cl_Q true D c0 none cl_no σ0 σ') args s (σ0.2.2.2.2.2.1 - σ'.2.2.2.2.2.1) (σ0.2.2.2.2.2.2 - σ'.2.2.2.2.2.2) (cl_A c0 σ0.2.2.2.1 s.heap.size)) (F0 m 33 ls []) := by
  unfold bc_X7_follow_33 at h
  refine lv_iload_n C.1 C.2.1 dX7_follow_33 rfl (lv_at hl 1 rfl) ?_
  refine lv_bipush (v := (30:Int32)) C.1 C.2.1 dX7_follow_34 (by decide) ?_
  refine lv_icmp_lt (tgt := 51) C.1 C.2.1 dX7_follow_36 (by decide) (fun hc => ?_) (fun hc => ?_)
  · rw [if_pos hc] at h
    exact cl_vret ⟨rfl, rfl⟩ rfl C G h dX7_follow_51
  · rw [if_neg hc] at h
    refine lv_iload_n C.1 C.2.1 dX7_follow_39 rfl (lv_at hl 1 rfl) ?_
    refine lv_bipush (v := (36:Int32)) C.1 C.2.1 dX7_follow_40 (by decide) ?_
    refine lv_icmp_gt (tgt := 51) C.1 C.2.1 dX7_follow_42 (by decide) (fun hc => ?_) (fun hc => ?_)
    · rw [if_pos hc] at h
      exact cl_vret ⟨rfl, rfl⟩ rfl C G h dX7_follow_51
    · rw [if_neg hc] at h
      refine lv_aload_n C.1 C.2.1 dX7_follow_45 rfl (lv_at hl 0 rfl) ?_
      refine lv_iload C.1 C.2.1 dX7_follow_46 (lv_at hl 2 rfl) ?_
      obtain ⟨σ_14, hq, h_15⟩ := bd1_some h
      refine cl_callV (ci := 7) (rest := []) C G rfl ha cw_RX7_37 [.int x4] _ (kc_X7_reach l D c0 (by rw [G.1]; exact ha) hq) (Nat.le_of_ble_eq_true rfl) (Nat.le_of_ble_eq_true rfl) rfl rfl hl.1 (Nat.le_of_ble_eq_true rfl) dX7_follow_48 (fun T_16 H locs cells slots t_17 hu G_18 => ?_)
      have ha := hu.kind ha (by decide)
      refine W.eq (g2 := F0 m 51 ls []) rfl ?_
      exact cl_vret ⟨rfl, rfl⟩ rfl C G_18 h_15 dX7_follow_51
noncomputable def bc_X7_follow_0 (a : Nat) (x1 : Int32) (x2 : (Option Nat)) (σ : cl_S) : Option (cl_S) := nn x2 (fun a_1 => ix x1 (σ.2.2.2.1 a_1).2 (vl (((σ.1 a_1 x1.toNatClampNeg).toUInt32 >>> ((26:Int32).toUInt32 &&& Int32.toUInt32 31)).toInt32) (fun x3_6 => ix x1 (σ.2.2.2.1 a_1).2 (vl (x1 + (((σ.1 a_1 x1.toNatClampNeg) <<< ((14:Int32) &&& 31)) >>> ((14:Int32) &&& 31))) (fun x4_11 => (if x3_6 = (36:Int32) then bc_X7_follow_33 a x3_6 x4_11 σ else bd1 (fc_X7_reach a (x1 + (1:Int32)) σ) (fun σ_19 => bc_X7_follow_33 a x3_6 x4_11 σ_19)))))))
set_option maxHeartbeats 4000000 in
theorem wc_X7_follow_0 (C : cl_C D p s m args meth c cX7_follow 5 none RX7) {a : Nat} {x1 : Int32} {x2 : (Option Nat)} {σ0 σ σ' : cl_S} {T : Nat → Nat × Nat} {H : Heap} {locs : List Loc} {ls : Array Slot} {cells slots : Nat} (h : bc_X7_follow_0 a x1 x2 σ = some σ') (G : cl_G true D c0 ({ frames := 2, cells := σ0.2.2.2.2.2.1, slots := σ0.2.2.2.2.2.2, locals := 42 }) s σ0.2.2.2.1 T σ H locs cells slots) (ha : (T a).1 = 23) (f2 : cl_RT T x2 1) (hl : lv_has ls 5 [(0, .ref (c0 + a)), (1, .int x1), (2, cl_rf c0 x2)]) : W p l e ({ frames := 2, cells := σ0.2.2.2.2.2.1, slots := σ0.2.2.2.2.2.2, locals := 42 }) s m args below meth c H locs cells slots (MQ below (cl_Q true D c0 none cl_no σ0 σ') args s (σ0.2.2.2.2.2.1 - σ'.2.2.2.2.2.1) (σ0.2.2.2.2.2.2 - σ'.2.2.2.2.2.2) (cl_A c0 σ0.2.2.2.1 s.heap.size)) (F0 m 0 ls []) := by
  unfold bc_X7_follow_0 at h
  refine cl_aload_n C.1 C.2.1 dX7_follow_0 rfl (lv_at hl 2 rfl) ?_
  refine lv_iload_n C.1 C.2.1 dX7_follow_1 rfl (lv_at hl 1 rfl) ?_
  obtain ⟨a_1, rfl, h_3⟩ := nn_some h
  have t_2 := f2 _ rfl
  have t_4 : T a_1 = (1, (σ.2.2.2.1 a_1).2) := by rw [G.1]; exact Prod.ext t_2 rfl
  obtain ⟨hi, h_5⟩ := ix_some h_3
  refine cl_iald C G t_4 hi dX7_follow_2 ?_
  refine lv_bipush (v := (26:Int32)) C.1 C.2.1 dX7_follow_3 (by decide) ?_
  refine lv_iushr C.1 C.2.1 dX7_follow_5 rfl ?_
  refine vt_i h_5 (fun x3_6 h_7 => ?_)
  refine lv_istore_n (lv' := [(3, .int x3_6), (0, .ref (c0 + a)), (1, .int x1), (2, .ref (c0 + a_1))]) C.1 C.2.1 dX7_follow_6 rfl hl (by decide) rfl (fun ls hl_8 => ?_)
  refine lv_iload_n C.1 C.2.1 dX7_follow_7 rfl (lv_at hl_8 2 rfl) ?_
  refine lv_aload_n C.1 C.2.1 dX7_follow_8 rfl (lv_at hl_8 3 rfl) ?_
  refine lv_iload_n C.1 C.2.1 dX7_follow_9 rfl (lv_at hl_8 2 rfl) ?_
  have t_9 : T a_1 = (1, (σ.2.2.2.1 a_1).2) := by rw [G.1]; exact Prod.ext t_2 rfl
  obtain ⟨hi, h_10⟩ := ix_some h_7
  refine cl_iald C G t_9 hi dX7_follow_10 ?_
  refine lv_bipush (v := (14:Int32)) C.1 C.2.1 dX7_follow_11 (by decide) ?_
  refine lv_ishl C.1 C.2.1 dX7_follow_13 ?_
  refine lv_bipush (v := (14:Int32)) C.1 C.2.1 dX7_follow_14 (by decide) ?_
  refine lv_ishr C.1 C.2.1 dX7_follow_16 ?_
  refine lv_iadd C.1 C.2.1 dX7_follow_17 ?_
  refine vt_i h_10 (fun x4_11 h_12 => ?_)
  refine lv_istore (lv' := [(4, .int x4_11), (3, .int x3_6), (0, .ref (c0 + a)), (1, .int x1), (2, .ref (c0 + a_1))]) C.1 C.2.1 dX7_follow_18 hl_8 (by decide) rfl (fun ls hl_13 => ?_)
  refine lv_iload_n C.1 C.2.1 dX7_follow_20 rfl (lv_at hl_13 1 rfl) ?_
  refine lv_bipush (v := (36:Int32)) C.1 C.2.1 dX7_follow_21 (by decide) ?_
  refine lv_icmp_eq (tgt := 33) C.1 C.2.1 dX7_follow_23 (by decide) (fun hc => ?_) (fun hc => ?_)
  · rw [if_pos hc] at h_12
    exact wc_X7_follow_33 C h_12 G ha (lv_sub hl_13 [2, 1, 0] rfl)
  · rw [if_neg hc] at h_12
    refine lv_aload_n C.1 C.2.1 dX7_follow_26 rfl (lv_at hl_13 2 rfl) ?_
    refine lv_iload_n C.1 C.2.1 dX7_follow_27 rfl (lv_at hl_13 3 rfl) ?_
    refine lv_iconst (v := (1:Int32)) C.1 C.2.1 dX7_follow_28 (by decide) ?_
    refine lv_iadd C.1 C.2.1 dX7_follow_29 ?_
    obtain ⟨σ_19, hq, h_20⟩ := bd1_some h_12
    refine cl_callV (ci := 7) (rest := []) C G rfl ha cw_RX7_37 [.int (x1 + (1:Int32))] _ (kc_X7_reach l D c0 (by rw [G.1]; exact ha) hq) (Nat.le_of_ble_eq_true rfl) (Nat.le_of_ble_eq_true rfl) rfl rfl hl_13.1 (Nat.le_of_ble_eq_true rfl) dX7_follow_30 (fun T_21 H locs cells slots t_22 hu G_23 => ?_)
    have ha := hu.kind ha (by decide)
    have t_2 := hu.kind t_2 (by decide)
    refine W.eq (g2 := F0 m 33 ls []) rfl ?_
    exact wc_X7_follow_33 C h_20 G_23 ha (lv_sub hl_13 [2, 1, 0] rfl)
noncomputable def fc_X7_follow (a : Nat) (x1 : Int32) (x2 : (Option Nat)) (σ : cl_S) : Option (cl_S) := bc_X7_follow_0 a x1 x2 σ
theorem kc_X7_follow (l : Launch) (D : cl_D) (c0 : Nat) {a : Nat} {x1 : Int32} {x2 : (Option Nat)} {σ σ' : cl_S} (ha : (σ.2.2.2.1 a).1 = 23) (h : fc_X7_follow a x1 x2 σ = some σ') (f2 : cl_RT σ.2.2.2.1 x2 1) : cl_Met true l D c0 yX7_follow cX7_follow 5 none 2 42 [.ref (c0 + a), .int x1, cl_rf c0 x2] σ none cl_no σ' :=
  by cases x2 <;> exact cl_of (by decide) (Nat.le_of_ble_eq_true rfl) (fun p e s m args below meth c ls C hn G hl => wc_X7_follow_0 C h G ha f2 hl)
end CQ11
