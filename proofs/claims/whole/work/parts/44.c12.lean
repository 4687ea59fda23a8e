section CQ11
variable {p : Program} {l : Launch} {e : Env} {s : State} {m : MethodId} {args : Array Value} {below : List Frame} {meth : Method} {c : Code} {D : cl_D} {c0 : Nat}
abbrev cX5_repeat : ByteArray := prog_7_method_4_code
def yX5_repeat : MethodName := ⟨RX5, "repeat", "(LPartHouse$Machine;LPartHouse$Disk;I)V"⟩
theorem dX5_repeat_0 : decode cX5_repeat 0 = .ok (.aload_n 0, 1) := by decide +kernel
theorem dX5_repeat_1 : decode cX5_repeat 1 = .ok (.aload_n 1, 1) := by decide +kernel
theorem dX5_repeat_2 : decode cX5_repeat 2 = .ok (.getfield 12, 3) := by decide +kernel
theorem dX5_repeat_5 : decode cX5_repeat 5 = .ok (.invokevirtual 107, 3) := by decide +kernel
theorem dX5_repeat_8 : decode cX5_repeat 8 = .ok (.aload_n 0, 1) := by decide +kernel
theorem dX5_repeat_9 : decode cX5_repeat 9 = .ok (.getfield 55, 3) := by decide +kernel
theorem dX5_repeat_12 : decode cX5_repeat 12 = .ok (.aload_n 2, 1) := by decide +kernel
theorem dX5_repeat_13 : decode cX5_repeat 13 = .ok (.invokevirtual 111, 3) := by decide +kernel
theorem dX5_repeat_16 : decode cX5_repeat 16 = .ok (.iconst 0, 1) := by decide +kernel
theorem dX5_repeat_17 : decode cX5_repeat 17 = .ok (.istore 4, 2) := by decide +kernel
theorem dX5_repeat_19 : decode cX5_repeat 19 = .ok (.iload 4, 2) := by decide +kernel
theorem dX5_repeat_21 : decode cX5_repeat 21 = .ok (.aload_n 0, 1) := by decide +kernel
theorem dX5_repeat_22 : decode cX5_repeat 22 = .ok (.getfield 12, 3) := by decide +kernel
theorem dX5_repeat_25 : decode cX5_repeat 25 = .ok (.getfield 66, 3) := by decide +kernel
theorem dX5_repeat_28 : decode cX5_repeat 28 = .ok (.if_icmp .ge 55, 3) := by decide +kernel
theorem dX5_repeat_31 : decode cX5_repeat 31 = .ok (.aload_n 0, 1) := by decide +kernel
theorem dX5_repeat_32 : decode cX5_repeat 32 = .ok (.getfield 20, 3) := by decide +kernel
theorem dX5_repeat_35 : decode cX5_repeat 35 = .ok (.iload 4, 2) := by decide +kernel
theorem dX5_repeat_37 : decode cX5_repeat 37 = .ok (.aaload, 1) := by decide +kernel
theorem dX5_repeat_38 : decode cX5_repeat 38 = .ok (.aload_n 1, 1) := by decide +kernel
theorem dX5_repeat_39 : decode cX5_repeat 39 = .ok (.getfield 20, 3) := by decide +kernel
theorem dX5_repeat_42 : decode cX5_repeat 42 = .ok (.iload 4, 2) := by decide +kernel
theorem dX5_repeat_44 : decode cX5_repeat 44 = .ok (.aaload, 1) := by decide +kernel
theorem dX5_repeat_45 : decode cX5_repeat 45 = .ok (.invokevirtual 117, 3) := by decide +kernel
theorem dX5_repeat_48 : decode cX5_repeat 48 = .ok (.iload_n 3, 1) := by decide +kernel
theorem dX5_repeat_49 : decode cX5_repeat 49 = .ok (.iload 4, 2) := by decide +kernel
theorem dX5_repeat_51 : decode cX5_repeat 51 = .ok (.ishr, 1) := by decide +kernel
theorem dX5_repeat_52 : decode cX5_repeat 52 = .ok (.iconst 1, 1) := by decide +kernel
theorem dX5_repeat_53 : decode cX5_repeat 53 = .ok (.iand, 1) := by decide +kernel
theorem dX5_repeat_54 : decode cX5_repeat 54 = .ok (.ifCond .ne 23, 3) := by decide +kernel
theorem dX5_repeat_57 : decode cX5_repeat 57 = .ok (.aload_n 0, 1) := by decide +kernel
theorem dX5_repeat_58 : decode cX5_repeat 58 = .ok (.getfield 20, 3) := by decide +kernel
theorem dX5_repeat_61 : decode cX5_repeat 61 = .ok (.iload 4, 2) := by decide +kernel
theorem dX5_repeat_63 : decode cX5_repeat 63 = .ok (.aaload, 1) := by decide +kernel
theorem dX5_repeat_64 : decode cX5_repeat 64 = .ok (.getfield 121, 3) := by decide +kernel
theorem dX5_repeat_67 : decode cX5_repeat 67 = .ok (.iconst 1, 1) := by decide +kernel
theorem dX5_repeat_68 : decode cX5_repeat 68 = .ok (.putfield 125, 3) := by decide +kernel
theorem dX5_repeat_71 : decode cX5_repeat 71 = .ok (.aload_n 0, 1) := by decide +kernel
theorem dX5_repeat_72 : decode cX5_repeat 72 = .ok (.iload 4, 2) := by decide +kernel
theorem dX5_repeat_74 : decode cX5_repeat 74 = .ok (.invokevirtual 130, 3) := by decide +kernel
theorem dX5_repeat_77 : decode cX5_repeat 77 = .ok (.iinc 4 1, 3) := by decide +kernel
theorem dX5_repeat_80 : decode cX5_repeat 80 = .ok (.goto (-61), 3) := by decide +kernel
theorem dX5_repeat_83 : decode cX5_repeat 83 = .ok (.aload_n 0, 1) := by decide +kernel
theorem dX5_repeat_84 : decode cX5_repeat 84 = .ok (.iconst 1, 1) := by decide +kernel
theorem dX5_repeat_85 : decode cX5_repeat 85 = .ok (.putfield 133, 3) := by decide +kernel
theorem dX5_repeat_88 : decode cX5_repeat 88 = .ok (.iconst 0, 1) := by decide +kernel
theorem dX5_repeat_89 : decode cX5_repeat 89 = .ok (.istore 4, 2) := by decide +kernel
theorem dX5_repeat_91 : decode cX5_repeat 91 = .ok (.iload 4, 2) := by decide +kernel
theorem dX5_repeat_93 : decode cX5_repeat 93 = .ok (.aload_n 1, 1) := by decide +kernel
theorem dX5_repeat_94 : decode cX5_repeat 94 = .ok (.getfield 104, 3) := by decide +kernel
theorem dX5_repeat_97 : decode cX5_repeat 97 = .ok (.if_icmp .ge 56, 3) := by decide +kernel
theorem dX5_repeat_100 : decode cX5_repeat 100 = .ok (.iload 4, 2) := by decide +kernel
theorem dX5_repeat_102 : decode cX5_repeat 102 = .ok (.sipush 500, 3) := by decide +kernel
theorem dX5_repeat_105 : decode cX5_repeat 105 = .ok (.if_icmp .ge 48, 3) := by decide +kernel
theorem dX5_repeat_108 : decode cX5_repeat 108 = .ok (.aload_n 0, 1) := by decide +kernel
theorem dX5_repeat_109 : decode cX5_repeat 109 = .ok (.aload_n 1, 1) := by decide +kernel
theorem dX5_repeat_110 : decode cX5_repeat 110 = .ok (.getfield 39, 3) := by decide +kernel
theorem dX5_repeat_113 : decode cX5_repeat 113 = .ok (.iload 4, 2) := by decide +kernel
theorem dX5_repeat_115 : decode cX5_repeat 115 = .ok (.iaload, 1) := by decide +kernel
theorem dX5_repeat_116 : decode cX5_repeat 116 = .ok (.aload_n 0, 1) := by decide +kernel
theorem dX5_repeat_117 : decode cX5_repeat 117 = .ok (.getfield 89, 3) := by decide +kernel
theorem dX5_repeat_120 : decode cX5_repeat 120 = .ok (.isub, 1) := by decide +kernel
theorem dX5_repeat_121 : decode cX5_repeat 121 = .ok (.invokevirtual 136, 3) := by decide +kernel
theorem dX5_repeat_124 : decode cX5_repeat 124 = .ok (.pop, 1) := by decide +kernel
theorem dX5_repeat_125 : decode cX5_repeat 125 = .ok (.iload_n 3, 1) := by decide +kernel
theorem dX5_repeat_126 : decode cX5_repeat 126 = .ok (.aload_n 1, 1) := by decide +kernel
theorem dX5_repeat_127 : decode cX5_repeat 127 = .ok (.getfield 42, 3) := by decide +kernel
theorem dX5_repeat_130 : decode cX5_repeat 130 = .ok (.iload 4, 2) := by decide +kernel
theorem dX5_repeat_132 : decode cX5_repeat 132 = .ok (.iaload, 1) := by decide +kernel
theorem dX5_repeat_133 : decode cX5_repeat 133 = .ok (.ishr, 1) := by decide +kernel
theorem dX5_repeat_134 : decode cX5_repeat 134 = .ok (.iconst 1, 1) := by decide +kernel
theorem dX5_repeat_135 : decode cX5_repeat 135 = .ok (.iand, 1) := by decide +kernel
theorem dX5_repeat_136 : decode cX5_repeat 136 = .ok (.iconst 1, 1) := by decide +kernel
theorem dX5_repeat_137 : decode cX5_repeat 137 = .ok (.if_icmp .ne 10, 3) := by decide +kernel
theorem dX5_repeat_140 : decode cX5_repeat 140 = .ok (.aload_n 0, 1) := by decide +kernel
theorem dX5_repeat_141 : decode cX5_repeat 141 = .ok (.aload_n 1, 1) := by decide +kernel
theorem dX5_repeat_142 : decode cX5_repeat 142 = .ok (.iload 4, 2) := by decide +kernel
theorem dX5_repeat_144 : decode cX5_repeat 144 = .ok (.invokevirtual 140, 3) := by decide +kernel
theorem dX5_repeat_147 : decode cX5_repeat 147 = .ok (.iinc 4 1, 3) := by decide +kernel
theorem dX5_repeat_150 : decode cX5_repeat 150 = .ok (.goto (-59), 3) := by decide +kernel
theorem dX5_repeat_153 : decode cX5_repeat 153 = .ok (.aload_n 0, 1) := by decide +kernel
theorem dX5_repeat_154 : decode cX5_repeat 154 = .ok (.aload_n 1, 1) := by decide +kernel
theorem dX5_repeat_155 : decode cX5_repeat 155 = .ok (.getfield 89, 3) := by decide +kernel
theorem dX5_repeat_158 : decode cX5_repeat 158 = .ok (.aload_n 0, 1) := by decide +kernel
theorem dX5_repeat_159 : decode cX5_repeat 159 = .ok (.getfield 89, 3) := by decide +kernel
theorem dX5_repeat_162 : decode cX5_repeat 162 = .ok (.isub, 1) := by decide +kernel
theorem dX5_repeat_163 : decode cX5_repeat 163 = .ok (.invokevirtual 136, 3) := by decide +kernel
theorem dX5_repeat_166 : decode cX5_repeat 166 = .ok (.pop, 1) := by decide +kernel
theorem dX5_repeat_167 : decode cX5_repeat 167 = .ok (.aload_n 0, 1) := by decide +kernel
theorem dX5_repeat_168 : decode cX5_repeat 168 = .ok (.iconst 0, 1) := by decide +kernel
theorem dX5_repeat_169 : decode cX5_repeat 169 = .ok (.putfield 133, 3) := by decide +kernel
theorem dX5_repeat_172 : decode cX5_repeat 172 = .ok (.return_, 1) := by decide +kernel
theorem cc_X5_repeat : Cond.code yX5_repeat cX5_repeat 5 none ∈ rf_tb := rf_at 1478 (by decide +kernel) (by decide +kernel)
theorem cw_RX5_107 : cl_wV RX5 RX5 yX5_begin cX5_begin 3 none 107 1 := ⟨⟨rf_at 1479 (by decide +kernel) (by decide +kernel), rf_at 1043 (by decide +kernel) (by decide +kernel), rf_at 1044 (by decide +kernel) (by decide +kernel), cc_X5_begin, rf_at 13 (by decide +kernel) (by decide +kernel)⟩, ⟨by decide, by decide, by decide +kernel⟩⟩
theorem cw_RX5_111 : cl_wV RX5 RX3 yX3_copyFrom cX3_copyFrom 3 none 111 1 := ⟨⟨rf_at 1480 (by decide +kernel) (by decide +kernel), rf_at 1039 (by decide +kernel) (by decide +kernel), rf_at 1040 (by decide +kernel) (by decide +kernel), cc_X3_copyFrom, rf_at 12 (by decide +kernel) (by decide +kernel)⟩, ⟨by decide, by decide, by decide +kernel⟩⟩
theorem cw_RX5_117 : cl_wV RX5 RX6 yX6_loadAs cX6_loadAs 3 none 117 1 := ⟨⟨rf_at 1481 (by decide +kernel) (by decide +kernel), rf_at 1482 (by decide +kernel) (by decide +kernel), rf_at 1483 (by decide +kernel) (by decide +kernel), cc_X6_loadAs, rf_at 15 (by decide +kernel) (by decide +kernel)⟩, ⟨by decide, by decide, by decide +kernel⟩⟩
theorem cw_RX5_130 : cl_wV RX5 RX5 yX5_emptyArea cX5_emptyArea 3 none 130 1 := ⟨⟨rf_at 1486 (by decide +kernel) (by decide +kernel), rf_at 1488 (by decide +kernel) (by decide +kernel), rf_sel (q := (yX5_emptyArea, 20)) 75 (by decide +kernel) (by decide +kernel), cc_X5_emptyArea, rf_at 13 (by decide +kernel) (by decide +kernel)⟩, ⟨by decide, by decide, by decide +kernel⟩⟩
theorem cw_RX5_136 : cl_wV RX5 RX5 yX5_runTicks cX5_runTicks 6 (some .int) 136 1 := ⟨⟨rf_at 1490 (by decide +kernel) (by decide +kernel), rf_at 1105 (by decide +kernel) (by decide +kernel), rf_at 1106 (by decide +kernel) (by decide +kernel), cc_X5_runTicks, rf_at 13 (by decide +kernel) (by decide +kernel)⟩, ⟨by decide, by decide, by decide +kernel⟩⟩
theorem cw_RX5_140 : cl_wV RX5 RX5 yX5_repeatInput cX5_repeatInput 4 none 140 2 := ⟨⟨rf_at 1491 (by decide +kernel) (by decide +kernel), rf_at 1493 (by decide +kernel) (by decide +kernel), rf_sel (q := (yX5_repeatInput, 20)) 76 (by decide +kernel) (by decide +kernel), cc_X5_repeatInput, rf_at 13 (by decide +kernel) (by decide +kernel)⟩, ⟨by decide, by decide, by decide +kernel⟩⟩
noncomputable def bc_X5_repeat_77i19 (a : Nat) (x1 : (Option Nat)) (x3 : Int32) (x4 : Int32) (σ : cl_S) : Option ((Int32 × cl_S) ⊕ (Int32 × cl_S)) := vl (x4 + (1:Int32)) (fun x4_56 => some (.inl (x4_56, σ)))
set_option maxHeartbeats 4000000 in
theorem wc_X5_repeat_77i19 (C : cl_C D p s m args meth c cX5_repeat 5 none RX5) {a : Nat} {x1 : (Option Nat)} {x3 : Int32} {x4 : Int32} {σ0 σ σ' : cl_S} {T : Nat → Nat × Nat} {H : Heap} {locs : List Loc} {ls : Array Slot} {cells slots : Nat} {o : (Int32 × cl_S) ⊕ (Int32 × cl_S)} (h : bc_X5_repeat_77i19 a x1 x3 x4 σ = some o) (hP : Sum.elim (fun z : (Int32 × cl_S) => ∀ (T : Nat → Nat × Nat) (H : Heap) (locs : List Loc) (ls : Array Slot) (cells slots : Nat), cl_G true D c0 ({ frames := 8, cells := σ0.2.2.2.2.2.1, slots := σ0.2.2.2.2.2.2, locals := 209 }) s σ0.2.2.2.1 T z.2 H locs cells slots → (T a).1 = 21 → cl_RT T x1 21 → lv_has ls 5 [(0, .ref (c0 + a)), (1, cl_rf c0 x1), (3, .int x3), (4, .int (z.1))] → W p l e ({ frames := 8, cells := σ0.2.2.2.2.2.1, slots := σ0.2.2.2.2.2.2, locals := 209 }) s m args below meth c H locs cells slots (MQ below (cl_Q true D c0 none cl_no σ0 σ') args s (σ0.2.2.2.2.2.1 - σ'.2.2.2.2.2.1) (σ0.2.2.2.2.2.2 - σ'.2.2.2.2.2.2) (cl_A c0 σ0.2.2.2.1 s.heap.size)) (F0 m 19 ls [])) (fun z : (Int32 × cl_S) => ∀ (T : Nat → Nat × Nat) (H : Heap) (locs : List Loc) (ls : Array Slot) (cells slots : Nat), cl_G true D c0 ({ frames := 8, cells := σ0.2.2.2.2.2.1, slots := σ0.2.2.2.2.2.2, locals := 209 }) s σ0.2.2.2.1 T z.2 H locs cells slots → (T a).1 = 21 → cl_RT T x1 21 → lv_has ls 5 [(0, .ref (c0 + a)), (1, cl_rf c0 x1), (3, .int x3), (4, .int (z.1))] → W p l e ({ frames := 8, cells := σ0.2.2.2.2.2.1, slots := σ0.2.2.2.2.2.2, locals := 209 }) s m args below meth c H locs cells slots (MQ below (cl_Q true D c0 none cl_no σ0 σ') args s (σ0.2.2.2.2.2.1 - σ'.2.2.2.2.2.1) (σ0.2.2.2.2.2.2 - σ'.2.2.2.2.2.2) (cl_A c0 σ0.2.2.2.1 s.heap.size)) (F0 m 83 ls [])) o) (G : cl_G true D c0 ({ frames := 8, cells := σ0.2.2.2.2.2.1, slots := σ0.2.2.2.2.2.2, locals := 209 }) s σ0.2.2.2.1 T σ H locs cells slots) (ha : (T a).1 = 21) (f1 : cl_RT T x1 21) (hl : lv_has ls 5 [(0, .ref (c0 + a)), (1, cl_rf c0 x1), (3, .int x3), (4, .int x4)]) : W p l e ({ frames := 8, cells := σ0.2.2.2.2.2.1, slots := σ0.2.2.2.2.2.2, locals := 209 }) s m args below meth c H locs cells slots (MQ below (cl_Q true D c0 none cl_no σ0 σ') args s (σ0.2.2.2.2.2.1 - σ'.2.2.2.2.2.1) (σ0.2.2.2.2.2.2 - σ'.2.2.2.2.2.2) (cl_A c0 σ0.2.2.2.1 s.heap.size)) (F0 m 77 ls []) := by
  unfold bc_X5_repeat_77i19 at h
  refine vl_ex h (fun x4_56 ey h_57 => ?_)
  refine lv_iinc (v := x4_56) (lv' := [(4, .int x4_56), (0, .ref (c0 + a)), (1, cl_rf c0 x1), (3, .int x3)]) C.1 C.2.1 dX5_repeat_77 hl (k := 3) rfl (by rw [ey]; rfl) (by decide) (by first | rfl | (cases x1 <;> rfl)) (fun ls hl_58 => ?_)
  refine lv_goto (tgt := 19) C.1 C.2.1 dX5_repeat_80 (by decide) ?_
  cases h_57
  exact hP _ _ _ _ _ _ G ha f1 (lv_sub hl_58 [1, 2, 3, 0] rfl)
noncomputable def lc_X5_repeat_19 (a : Nat) (x1 : (Option Nat)) (x3 : Int32) (x4 : Int32) (σ : cl_S) : Option ((Int32 × cl_S) ⊕ (Int32 × cl_S)) := vl (σ.2.2.1 a 3) (fun r_27 => nn r_27 (fun a_30 => (if (σ.1 a_30 0) ≤ x4 then some (.inr (x4, σ)) else ix x4 8 (vl (σ.2.2.1 (a + 12 + cl_md a) x4.toNatClampNeg) (fun r_36 => nn x1 (fun a_39 => ix x4 8 (vl (σ.2.2.1 (a_39 + 12 + cl_md a_39) x4.toNatClampNeg) (fun r_45 => nn r_36 (fun a_48 => bd1 (fc_X6_loadAs a_48 r_45 σ) (fun σ_51 => (if ((x3 >>> (x4 &&& 31)) &&& (1:Int32)) = 0 then ix x4 8 (vl (σ_51.2.2.1 (a + 12 + cl_md a) x4.toNatClampNeg) (fun r_62 => nn r_62 (fun a_65 => vl (cl_w σ_51 (a_65 + 1) 7 (1:Int32)) (fun σ_69 => bd1 (fc_X5_emptyArea a x4 σ_69) (fun σ_73 => bc_X5_repeat_77i19 a (some a_39) x3 x4 σ_73))))) else bc_X5_repeat_77i19 a (some a_39) x3 x4 σ_51)))))))))))
noncomputable def bc_X5_repeat_147i91 (a : Nat) (x1 : (Option Nat)) (x3 : Int32) (x4 : Int32) (σ : cl_S) : Option ((Int32 × cl_S) ⊕ (Int32 × cl_S)) := vl (x4 + (1:Int32)) (fun x4_96 => some (.inl (x4_96, σ)))
set_option maxHeartbeats 4000000 in
theorem wc_X5_repeat_147i91 (C : cl_C D p s m args meth c cX5_repeat 5 none RX5) {a : Nat} {x1 : (Option Nat)} {x3 : Int32} {x4 : Int32} {σ0 σ σ' : cl_S} {T : Nat → Nat × Nat} {H : Heap} {locs : List Loc} {ls : Array Slot} {cells slots : Nat} {o : (Int32 × cl_S) ⊕ (Int32 × cl_S)} (h : bc_X5_repeat_147i91 a x1 x3 x4 σ = some o) (hP : Sum.elim (fun z : (Int32 × cl_S) => ∀ (T : Nat → Nat × Nat) (H : Heap) (locs : List Loc) (ls : Array Slot) (cells slots : Nat), cl_G true D c0 ({ frames := 8, cells := σ0.2.2.2.2.2.1, slots := σ0.2.2.2.2.2.2, locals := 209 }) s σ0.2.2.2.1 T z.2 H locs cells slots → (T a).1 = 21 → cl_RT T x1 21 → lv_has ls 5 [(0, .ref (c0 + a)), (1, cl_rf c0 x1), (3, .int x3), (4, .int (z.1))] → W p l e ({ frames := 8, cells := σ0.2.2.2.2.2.1, slots := σ0.2.2.2.2.2.2, locals := 209 }) s m args below meth c H locs cells slots (MQ below (cl_Q true D c0 none cl_no σ0 σ') args s (σ0.2.2.2.2.2.1 - σ'.2.2.2.2.2.1) (σ0.2.2.2.2.2.2 - σ'.2.2.2.2.2.2) (cl_A c0 σ0.2.2.2.1 s.heap.size)) (F0 m 91 ls [])) (fun z : (Int32 × cl_S) => ∀ (T : Nat → Nat × Nat) (H : Heap) (locs : List Loc) (ls : Array Slot) (cells slots : Nat), cl_G true D c0 ({ frames := 8, cells := σ0.2.2.2.2.2.1, slots := σ0.2.2.2.2.2.2, locals := 209 }) s σ0.2.2.2.1 T z.2 H locs cells slots → (T a).1 = 21 → cl_RT T x1 21 → lv_has ls 5 [(0, .ref (c0 + a)), (1, cl_rf c0 x1), (3, .int x3), (4, .int (z.1))] → W p l e ({ frames := 8, cells := σ0.2.2.2.2.2.1, slots := σ0.2.2.2.2.2.2, locals := 209 }) s m args below meth c H locs cells slots (MQ below (cl_Q true D c0 none cl_no σ0 σ') args s (σ0.2.2.2.2.2.1 - σ'.2.2.2.2.2.1) (σ0.2.2.2.2.2.2 - σ'.2.2.2.2.2.2) (cl_A c0 σ0.2.2.2.1 s.heap.size)) (F0 m 153 ls [])) o) (G : cl_G true D c0 ({ frames := 8, cells := σ0.2.2.2.2.2.1, slots := σ0.2.2.2.2.2.2, locals := 209 }) s σ0.2.2.2.1 T σ H locs cells slots) (ha : (T a).1 = 21) (f1 : cl_RT T x1 21) (hl : lv_has ls 5 [(0, .ref (c0 + a)), (1, cl_rf c0 x1), (3, .int x3), (4, .int x4)]) : W p l e ({ frames := 8, cells := σ0.2.2.2.2.2.1, slots := σ0.2.2.2.2.2.2, locals := 209 }) s m args below meth c H locs cells slots (MQ below (cl_Q true D c0 none cl_no σ0 σ') args s (σ0.2.2.2.2.2.1 - σ'.2.2.2.2.2.1) (σ0.2.2.2.2.2.2 - σ'.2.2.2.2.2.2) (cl_A c0 σ0.2.2.2.1 s.heap.size)) (F0 m 147 ls []) := by
  unfold bc_X5_repeat_147i91 at h
  refine vl_ex h (fun x4_96 ey h_97 => ?_)
  refine lv_iinc (v := x4_96) (lv' := [(4, .int x4_96), (0, .ref (c0 + a)), (1, cl_rf c0 x1), (3, .int x3)]) C.1 C.2.1 dX5_repeat_147 hl (k := 3) rfl (by rw [ey]; rfl) (by decide) (by first | rfl | (cases x1 <;> rfl)) (fun ls hl_98 => ?_)
  refine lv_goto (tgt := 91) C.1 C.2.1 dX5_repeat_150 (by decide) ?_
  cases h_97
  exact hP _ _ _ _ _ _ G ha f1 (lv_sub hl_98 [1, 2, 3, 0] rfl)
noncomputable def lc_X5_repeat_91 (a : Nat) (x1 : (Option Nat)) (x3 : Int32) (x4 : Int32) (σ : cl_S) : Option ((Int32 × cl_S) ⊕ (Int32 × cl_S)) := nn x1 (fun a_83 => (if (σ.1 a_83 15) ≤ x4 then some (.inr (x4, σ)) else (if (500:Int32) ≤ x4 then some (.inr (x4, σ)) else ix x4 500 (bd2 (fc_X5_runTicks a ((σ.1 (a_83 + 32 + cl_md a_83) x4.toNatClampNeg) - (σ.1 a 9)) σ) (fun r_89 σ_88 => ix x4 500 ((if ((x3 >>> ((σ_88.1 (a_83 + 33 + cl_md a_83) x4.toNatClampNeg) &&& 31)) &&& (1:Int32)) = (1:Int32) then bd1 (fc_X5_repeatInput a (some a_83) x4 σ_88) (fun σ_99 => bc_X5_repeat_147i91 a (some a_83) x3 x4 σ_99) else bc_X5_repeat_147i91 a (some a_83) x3 x4 σ_88)))))))
noncomputable def bc_X5_repeat_153 (a : Nat) (x1 : (Option Nat)) (σ : cl_S) : Option (cl_S) := nn x1 (fun a_104 => bd2 (fc_X5_runTicks a ((σ.1 a_104 9) - (σ.1 a 9)) σ) (fun r_108 σ_107 => vl (cl_w σ_107 a 8 (0:Int32)) (fun σ_113 => some σ_113)))
set_option maxHeartbeats 4000000 in
theorem wc_X5_repeat_153 (C : cl_C D p s m args meth c cX5_repeat 5 none RX5) {a : Nat} {x1 : (Option Nat)} {σ0 σ σ' : cl_S} {T : Nat → Nat × Nat} {H : Heap} {locs : List Loc} {ls : Array Slot} {cells slots : Nat} (h : bc_X5_repeat_153 a x1 σ = some σ') (G : cl_G true D c0 ({ frames := 8, cells := σ0.2.2.2.2.2.1, slots := σ0.2.2.2.2.2.2, locals := 209 }) s σ0.2.2.2.1 T σ H locs cells slots) (ha : (T a).1 = 21) (f1 : cl_RT T x1 21) (hl : lv_has ls 5 [(0, .ref (c0 + a)), (1, cl_rf c0 x1)]) : W p l e ({ frames := 8, cells := σ0.2.2.2.2.2.1, slots := σ0.2.2.2.2.2.2, locals := 209 }) s m args below meth c H locs cells slots (MQ below (cl_Q true D c0 none cl_no σ0 σ') args s (σ0.2.2.2.2.2.1 - σ'.2.2.2.2.2.1) (σ0.2.2.2.2.2.2 - σ'.2.2.2.2.2.2) (cl_A c0 σ0.2.2.2.1 s.heap.size)) (F0 m 153 ls []) := by
  unfold bc_X5_repeat_153 at h
  refine lv_aload_n C.1 C.2.1 dX5_repeat_153 rfl (lv_at hl 0 rfl) ?_
  refine cl_aload_n C.1 C.2.1 dX5_repeat_154 rfl (lv_at hl 1 rfl) ?_
  obtain ⟨a_104, rfl, h_106⟩ := nn_some h
  have t_105 := f1 _ rfl
  refine cg_5_89 C G t_105 dX5_repeat_155 ?_
  refine lv_aload_n C.1 C.2.1 dX5_repeat_158 rfl (lv_at hl 0 rfl) ?_
  refine cg_5_89 C G ha dX5_repeat_159 ?_
  refine lv_isub C.1 C.2.1 dX5_repeat_162 ?_
  obtain ⟨r_108, σ_107, hq, h_109⟩ := bd2_some h_106
  refine cl_callV (ci := 5) (rest := []) C G rfl ha cw_RX5_136 [.int ((σ.1 a_104 9) - (σ.1 a 9))] _ (kc_X5_runTicks l D c0 (by rw [G.1]; exact ha) hq) (Nat.le_of_ble_eq_true rfl) (Nat.le_of_ble_eq_true rfl) rfl rfl hl.1 (Nat.le_of_ble_eq_true rfl) dX5_repeat_163 (fun T_110 H locs cells slots t_111 hu G_112 => ?_)
  have ha := hu.kind ha (by decide)
  have t_105 := hu.kind t_105 (by decide)
  refine W.eq (g2 := F0 m 166 ls [.int r_108]) rfl ?_
  refine lv_pop C.1 C.2.1 dX5_repeat_166 rfl ?_
  refine lv_aload_n C.1 C.2.1 dX5_repeat_167 rfl (lv_at hl 0 rfl) ?_
  refine lv_iconst (v := (0:Int32)) C.1 C.2.1 dX5_repeat_168 (by decide) ?_
  refine cp_5_133 C G_112 ha rfl rfl dX5_repeat_169 (fun H locs G_114 => ?_)
  refine cl_nm G_114 h_109 (fun σ_113 G_115 h_116 => ?_)
  exact cl_vret ⟨rfl, rfl⟩ rfl C G_115 h_116 dX5_repeat_172
noncomputable def ec_X5_repeat_91 (a : Nat) (x1 : (Option Nat)) (x3 : Int32) (x4 : Int32) (σ : cl_S) : Option (cl_S) := bc_X5_repeat_153 a x1 σ
noncomputable def bc_X5_repeat_91 (a : Nat) (x1 : (Option Nat)) (x3 : Int32) (x4 : Int32) (σ : cl_S) : Option (cl_S) := (lp (fun z : (Int32 × cl_S) => lc_X5_repeat_91 a x1 x3 z.1 z.2) (x4, σ)).bind (fun z => ec_X5_repeat_91 a x1 x3 z.1 z.2)
set_option maxHeartbeats 4000000 in
theorem wc_X5_repeat_91 (C : cl_C D p s m args meth c cX5_repeat 5 none RX5) {a : Nat} {x1 : (Option Nat)} {x3 : Int32} {x4 : Int32} {σ0 σ σ' : cl_S} {T : Nat → Nat × Nat} {H : Heap} {locs : List Loc} {ls : Array Slot} {cells slots : Nat} (h : bc_X5_repeat_91 a x1 x3 x4 σ = some σ') (G : cl_G true D c0 ({ frames := 8, cells := σ0.2.2.2.2.2.1, slots := σ0.2.2.2.2.2.2, locals := 209 }) s σ0.2.2.2.1 T σ H locs cells slots) (ha : (T a).1 = 21) (f1 : cl_RT T x1 21) (hl : lv_has ls 5 [(0, .ref (c0 + a)), (1, cl_rf c0 x1), (3, .int x3), (4, .int x4)]) : W p l e ({ frames := 8, cells := σ0.2.2.2.2.2.1, slots := σ0.2.2.2.2.2.2, locals := 209 }) s m args below meth c H locs cells slots (MQ below (cl_Q true D c0 none cl_no σ0 σ') args s (σ0.2.2.2.2.2.1 - σ'.2.2.2.2.2.1) (σ0.2.2.2.2.2.2 - σ'.2.2.2.2.2.2) (cl_A c0 σ0.2.2.2.1 s.heap.size)) (F0 m 91 ls []) := by
  unfold bc_X5_repeat_91 at h
  obtain ⟨y, hy, h⟩ := bd_some h
  have hE : (fun z : (Int32 × cl_S) => ∀ (T : Nat → Nat × Nat) (H : Heap) (locs : List Loc) (ls : Array Slot) (cells slots : Nat), cl_G true D c0 ({ frames := 8, cells := σ0.2.2.2.2.2.1, slots := σ0.2.2.2.2.2.2, locals := 209 }) s σ0.2.2.2.1 T z.2 H locs cells slots → (T a).1 = 21 → cl_RT T x1 21 → lv_has ls 5 [(0, .ref (c0 + a)), (1, cl_rf c0 x1), (3, .int x3), (4, .int (z.1))] → W p l e ({ frames := 8, cells := σ0.2.2.2.2.2.1, slots := σ0.2.2.2.2.2.2, locals := 209 }) s m args below meth c H locs cells slots (MQ below (cl_Q true D c0 none cl_no σ0 σ') args s (σ0.2.2.2.2.2.1 - σ'.2.2.2.2.2.1) (σ0.2.2.2.2.2.2 - σ'.2.2.2.2.2.2) (cl_A c0 σ0.2.2.2.1 s.heap.size)) (F0 m 153 ls [])) y := by
    clear hy G ha f1 hl
    intro T H locs ls cells slots G ha f1 hl
    obtain ⟨x4, σ⟩ := y
    dsimp only at h G ha f1 hl
    unfold ec_X5_repeat_91 at h
    exact wc_X5_repeat_153 C h G ha f1 (lv_sub hl [0, 1] rfl)
  refine lp_recE (fun z : (Int32 × cl_S) => ∀ (T : Nat → Nat × Nat) (H : Heap) (locs : List Loc) (ls : Array Slot) (cells slots : Nat), cl_G true D c0 ({ frames := 8, cells := σ0.2.2.2.2.2.1, slots := σ0.2.2.2.2.2.2, locals := 209 }) s σ0.2.2.2.1 T z.2 H locs cells slots → (T a).1 = 21 → cl_RT T x1 21 → lv_has ls 5 [(0, .ref (c0 + a)), (1, cl_rf c0 x1), (3, .int x3), (4, .int (z.1))] → W p l e ({ frames := 8, cells := σ0.2.2.2.2.2.1, slots := σ0.2.2.2.2.2.2, locals := 209 }) s m args below meth c H locs cells slots (MQ below (cl_Q true D c0 none cl_no σ0 σ') args s (σ0.2.2.2.2.2.1 - σ'.2.2.2.2.2.1) (σ0.2.2.2.2.2.2 - σ'.2.2.2.2.2.2) (cl_A c0 σ0.2.2.2.1 s.heap.size)) (F0 m 91 ls [])) (fun z : (Int32 × cl_S) => ∀ (T : Nat → Nat × Nat) (H : Heap) (locs : List Loc) (ls : Array Slot) (cells slots : Nat), cl_G true D c0 ({ frames := 8, cells := σ0.2.2.2.2.2.1, slots := σ0.2.2.2.2.2.2, locals := 209 }) s σ0.2.2.2.1 T z.2 H locs cells slots → (T a).1 = 21 → cl_RT T x1 21 → lv_has ls 5 [(0, .ref (c0 + a)), (1, cl_rf c0 x1), (3, .int x3), (4, .int (z.1))] → W p l e ({ frames := 8, cells := σ0.2.2.2.2.2.1, slots := σ0.2.2.2.2.2.2, locals := 209 }) s m args below meth c H locs cells slots (MQ below (cl_Q true D c0 none cl_no σ0 σ') args s (σ0.2.2.2.2.2.1 - σ'.2.2.2.2.2.1) (σ0.2.2.2.2.2.2 - σ'.2.2.2.2.2.2) (cl_A c0 σ0.2.2.2.1 s.heap.size)) (F0 m 153 ls [])) ?_ _ _ hy hE _ _ _ _ _ _ G ha f1 hl
  clear hE hy G ha f1 hl h
  intro z o h hP T H locs ls cells slots G ha f1 hl
  obtain ⟨x4, σ⟩ := z
  dsimp only at h G ha f1 hl
  unfold lc_X5_repeat_91 at h
  refine lv_iload C.1 C.2.1 dX5_repeat_91 (lv_at hl 3 rfl) ?_
  refine cl_aload_n C.1 C.2.1 dX5_repeat_93 rfl (lv_at hl 1 rfl) ?_
  obtain ⟨a_83, rfl, h_85⟩ := nn_some h
  have t_84 := f1 _ rfl
  refine cg_5_104 C G t_84 dX5_repeat_94 ?_
  refine lv_icmp_ge (tgt := 153) C.1 C.2.1 dX5_repeat_97 (by decide) (fun hc => ?_) (fun hc => ?_)
  · rw [if_pos hc] at h_85
    cases h_85
    exact hP _ _ _ _ _ _ G ha (cl_RTs t_84) (lv_sub hl [0, 1, 2, 3] rfl)
  · rw [if_neg hc] at h_85
    refine lv_iload C.1 C.2.1 dX5_repeat_100 (lv_at hl 3 rfl) ?_
    refine lv_sipush (v := (500:Int32)) C.1 C.2.1 dX5_repeat_102 (by decide) ?_
    refine lv_icmp_ge (tgt := 153) C.1 C.2.1 dX5_repeat_105 (by decide) (fun hc => ?_) (fun hc => ?_)
    · rw [if_pos hc] at h_85
      cases h_85
      exact hP _ _ _ _ _ _ G ha (cl_RTs t_84) (lv_sub hl [0, 1, 2, 3] rfl)
    · rw [if_neg hc] at h_85
      refine lv_aload_n C.1 C.2.1 dX5_repeat_108 rfl (lv_at hl 0 rfl) ?_
      refine lv_aload_n C.1 C.2.1 dX5_repeat_109 rfl (lv_at hl 1 rfl) ?_
      refine cg_5_39 C G t_84 dX5_repeat_110 (fun t_86 => ?_)
      refine lv_iload C.1 C.2.1 dX5_repeat_113 (lv_at hl 3 rfl) ?_
      obtain ⟨hi, h_87⟩ := ix_some h_85
      refine cl_iald C G t_86 hi dX5_repeat_115 ?_
      refine lv_aload_n C.1 C.2.1 dX5_repeat_116 rfl (lv_at hl 0 rfl) ?_
      refine cg_5_89 C G ha dX5_repeat_117 ?_
      refine lv_isub C.1 C.2.1 dX5_repeat_120 ?_
      obtain ⟨r_89, σ_88, hq, h_90⟩ := bd2_some h_87
      refine cl_callV (ci := 5) (rest := []) C G rfl ha cw_RX5_136 [.int ((σ.1 (a_83 + 32 + cl_md a_83) x4.toNatClampNeg) - (σ.1 a 9))] _ (kc_X5_runTicks l D c0 (by rw [G.1]; exact ha) hq) (Nat.le_of_ble_eq_true rfl) (Nat.le_of_ble_eq_true rfl) rfl rfl hl.1 (Nat.le_of_ble_eq_true rfl) dX5_repeat_121 (fun T_91 H locs cells slots t_92 hu G_93 => ?_)
      have ha := hu.kind ha (by decide)
      have t_84 := hu.kind t_84 (by decide)
      refine W.eq (g2 := F0 m 124 ls [.int r_89]) rfl ?_
      refine lv_pop C.1 C.2.1 dX5_repeat_124 rfl ?_
      refine lv_iload_n C.1 C.2.1 dX5_repeat_125 rfl (lv_at hl 2 rfl) ?_
      refine lv_aload_n C.1 C.2.1 dX5_repeat_126 rfl (lv_at hl 1 rfl) ?_
      refine cg_5_42 C G_93 t_84 dX5_repeat_127 (fun t_94 => ?_)
      refine lv_iload C.1 C.2.1 dX5_repeat_130 (lv_at hl 3 rfl) ?_
      obtain ⟨hi, h_95⟩ := ix_some h_90
      refine cl_iald C G_93 t_94 hi dX5_repeat_132 ?_
      refine lv_ishr C.1 C.2.1 dX5_repeat_133 ?_
      refine lv_iconst (v := (1:Int32)) C.1 C.2.1 dX5_repeat_134 (by decide) ?_
      refine lv_iand C.1 C.2.1 dX5_repeat_135 ?_
      refine lv_iconst (v := (1:Int32)) C.1 C.2.1 dX5_repeat_136 (by decide) ?_
      refine lv_icmp_ne (tgt := 147) C.1 C.2.1 dX5_repeat_137 (by decide) (fun hc => ?_) (fun hc => ?_)
      · rw [if_neg hc] at h_95
        exact wc_X5_repeat_147i91 C h_95 hP G_93 ha (cl_RTs t_84) (lv_sub hl [0, 1, 2, 3] rfl)
      · rw [if_pos hc] at h_95
        refine lv_aload_n C.1 C.2.1 dX5_repeat_140 rfl (lv_at hl 0 rfl) ?_
        refine lv_aload_n C.1 C.2.1 dX5_repeat_141 rfl (lv_at hl 1 rfl) ?_
        refine lv_iload C.1 C.2.1 dX5_repeat_142 (lv_at hl 3 rfl) ?_
        obtain ⟨σ_99, hq, h_100⟩ := bd1_some h_95
        refine cl_callV (ci := 5) (rest := []) C G_93 rfl ha cw_RX5_140 [.ref (c0 + a_83), .int x4] _ (kc_X5_repeatInput l D c0 (by rw [G_93.1]; exact ha) hq (by rw [G_93.1]; exact (cl_RTs t_84))) (Nat.le_of_ble_eq_true rfl) (Nat.le_of_ble_eq_true rfl) rfl rfl hl.1 (Nat.le_of_ble_eq_true rfl) dX5_repeat_144 (fun T_101 H locs cells slots t_102 hu G_103 => ?_)
        have ha := hu.kind ha (by decide)
        have t_84 := hu.kind t_84 (by decide)
        refine W.eq (g2 := F0 m 147 ls []) rfl ?_
        exact wc_X5_repeat_147i91 C h_100 hP G_103 ha (cl_RTs t_84) (lv_sub hl [0, 1, 2, 3] rfl)
noncomputable def ec_X5_repeat_19 (a : Nat) (x1 : (Option Nat)) (x3 : Int32) (x4 : Int32) (σ : cl_S) : Option (cl_S) := vl (cl_w σ a 8 (1:Int32)) (fun σ_78 => bc_X5_repeat_91 a x1 x3 (0:Int32) σ_78)
noncomputable def bc_X5_repeat_19 (a : Nat) (x1 : (Option Nat)) (x3 : Int32) (x4 : Int32) (σ : cl_S) : Option (cl_S) := (lp (fun z : (Int32 × cl_S) => lc_X5_repeat_19 a x1 x3 z.1 z.2) (x4, σ)).bind (fun z => ec_X5_repeat_19 a x1 x3 z.1 z.2)
set_option maxHeartbeats 4000000 in
theorem wc_X5_repeat_19 (C : cl_C D p s m args meth c cX5_repeat 5 none RX5) {a : Nat} {x1 : (Option Nat)} {x3 : Int32} {x4 : Int32} {σ0 σ σ' : cl_S} {T : Nat → Nat × Nat} {H : Heap} {locs : List Loc} {ls : Array Slot} {cells slots : Nat} (h : bc_X5_repeat_19 a x1 x3 x4 σ = some σ') (G : cl_G true D c0 ({ frames := 8, cells := σ0.2.2.2.2.2.1, slots := σ0.2.2.2.2.2.2, locals := 209 }) s σ0.2.2.2.1 T σ H locs cells slots) (ha : (T a).1 = 21) (f1 : cl_RT T x1 21) (hl : lv_has ls 5 [(0, .ref (c0 + a)), (1, cl_rf c0 x1), (3, .int x3), (4, .int x4)]) : W p l e ({ frames := 8, cells := σ0.2.2.2.2.2.1, slots := σ0.2.2.2.2.2.2, locals := 209 }) s m args below meth c H locs cells slots (MQ below (cl_Q true D c0 none cl_no σ0 σ') args s (σ0.2.2.2.2.2.1 - σ'.2.2.2.2.2.1) (σ0.2.2.2.2.2.2 - σ'.2.2.2.2.2.2) (cl_A c0 σ0.2.2.2.1 s.heap.size)) (F0 m 19 ls []) := by
  unfold bc_X5_repeat_19 at h
  obtain ⟨y, hy, h⟩ := bd_some h
  have hE : (fun z : (Int32 × cl_S) => ∀ (T : Nat → Nat × Nat) (H : Heap) (locs : List Loc) (ls : Array Slot) (cells slots : Nat), cl_G true D c0 ({ frames := 8, cells := σ0.2.2.2.2.2.1, slots := σ0.2.2.2.2.2.2, locals := 209 }) s σ0.2.2.2.1 T z.2 H locs cells slots → (T a).1 = 21 → cl_RT T x1 21 → lv_has ls 5 [(0, .ref (c0 + a)), (1, cl_rf c0 x1), (3, .int x3), (4, .int (z.1))] → W p l e ({ frames := 8, cells := σ0.2.2.2.2.2.1, slots := σ0.2.2.2.2.2.2, locals := 209 }) s m args below meth c H locs cells slots (MQ below (cl_Q true D c0 none cl_no σ0 σ') args s (σ0.2.2.2.2.2.1 - σ'.2.2.2.2.2.1) (σ0.2.2.2.2.2.2 - σ'.2.2.2.2.2.2) (cl_A c0 σ0.2.2.2.1 s.heap.size)) (F0 m 83 ls [])) y := by
    clear hy G ha f1 hl
    intro T H locs ls cells slots G ha f1 hl
    obtain ⟨x4, σ⟩ := y
    dsimp only at h G ha f1 hl
    unfold ec_X5_repeat_19 at h
    refine lv_aload_n C.1 C.2.1 dX5_repeat_83 rfl (lv_at hl 0 rfl) ?_
    refine lv_iconst (v := (1:Int32)) C.1 C.2.1 dX5_repeat_84 (by decide) ?_
    refine cp_5_133 C G ha rfl rfl dX5_repeat_85 (fun H locs G_79 => ?_)
    refine cl_nm G_79 h (fun σ_78 G_80 h_81 => ?_)
    refine lv_iconst (v := (0:Int32)) C.1 C.2.1 dX5_repeat_88 (by decide) ?_
    refine lv_istore (lv' := [(4, .int (0:Int32)), (0, .ref (c0 + a)), (1, cl_rf c0 x1), (3, .int x3)]) C.1 C.2.1 dX5_repeat_89 hl (by decide) (by first | rfl | (cases x1 <;> rfl)) (fun ls hl_82 => ?_)
    exact wc_X5_repeat_91 C h_81 G_80 ha f1 (lv_sub hl_82 [1, 2, 3, 0] rfl)
  refine lp_recE (fun z : (Int32 × cl_S) => ∀ (T : Nat → Nat × Nat) (H : Heap) (locs : List Loc) (ls : Array Slot) (cells slots : Nat), cl_G true D c0 ({ frames := 8, cells := σ0.2.2.2.2.2.1, slots := σ0.2.2.2.2.2.2, locals := 209 }) s σ0.2.2.2.1 T z.2 H locs cells slots → (T a).1 = 21 → cl_RT T x1 21 → lv_has ls 5 [(0, .ref (c0 + a)), (1, cl_rf c0 x1), (3, .int x3), (4, .int (z.1))] → W p l e ({ frames := 8, cells := σ0.2.2.2.2.2.1, slots := σ0.2.2.2.2.2.2, locals := 209 }) s m args below meth c H locs cells slots (MQ below (cl_Q true D c0 none cl_no σ0 σ') args s (σ0.2.2.2.2.2.1 - σ'.2.2.2.2.2.1) (σ0.2.2.2.2.2.2 - σ'.2.2.2.2.2.2) (cl_A c0 σ0.2.2.2.1 s.heap.size)) (F0 m 19 ls [])) (fun z : (Int32 × cl_S) => ∀ (T : Nat → Nat × Nat) (H : Heap) (locs : List Loc) (ls : Array Slot) (cells slots : Nat), cl_G true D c0 ({ frames := 8, cells := σ0.2.2.2.2.2.1, slots := σ0.2.2.2.2.2.2, locals := 209 }) s σ0.2.2.2.1 T z.2 H locs cells slots → (T a).1 = 21 → cl_RT T x1 21 → lv_has ls 5 [(0, .ref (c0 + a)), (1, cl_rf c0 x1), (3, .int x3), (4, .int (z.1))] → W p l e ({ frames := 8, cells := σ0.2.2.2.2.2.1, slots := σ0.2.2.2.2.2.2, locals := 209 }) s m args below meth c H locs cells slots (MQ below (cl_Q true D c0 none cl_no σ0 σ') args s (σ0.2.2.2.2.2.1 - σ'.2.2.2.2.2.1) (σ0.2.2.2.2.2.2 - σ'.2.2.2.2.2.2) (cl_A c0 σ0.2.2.2.1 s.heap.size)) (F0 m 83 ls [])) ?_ _ _ hy hE _ _ _ _ _ _ G ha f1 hl
  clear hE hy G ha f1 hl h
  intro z o h hP T H locs ls cells slots G ha f1 hl
  obtain ⟨x4, σ⟩ := z
  dsimp only at h G ha f1 hl
  unfold lc_X5_repeat_19 at h
  refine lv_iload C.1 C.2.1 dX5_repeat_19 (lv_at hl 3 rfl) ?_
  refine lv_aload_n C.1 C.2.1 dX5_repeat_21 rfl (lv_at hl 0 rfl) ?_
  refine cg_5_12 C G ha dX5_repeat_22 (fun t_26 => ?_)
  refine vt_r (K := 17) t_26 h (fun r_27 t_28 h_29 => ?_)
  obtain ⟨a_30, rfl, h_32⟩ := nn_some h_29
  have t_31 := t_28 _ rfl
  refine cg_5_66 C G t_31 dX5_repeat_25 ?_
  refine lv_icmp_ge (tgt := 83) C.1 C.2.1 dX5_repeat_28 (by decide) (fun hc => ?_) (fun hc => ?_)
  · rw [if_pos hc] at h_32
    cases h_32
    exact hP _ _ _ _ _ _ G ha f1 (lv_sub hl [0, 1, 2, 3] rfl)
  · rw [if_neg hc] at h_32
    refine lv_aload_n C.1 C.2.1 dX5_repeat_31 rfl (lv_at hl 0 rfl) ?_
    refine cg_5_20 C G ha dX5_repeat_32 (fun t_33 => ?_)
    refine lv_iload C.1 C.2.1 dX5_repeat_35 (lv_at hl 3 rfl) ?_
    obtain ⟨hi, h_34⟩ := ix_some h_32
    refine cl_aald C G t_33 (by decide) (by decide) rfl hi dX5_repeat_37 (fun t_35 => ?_)
    refine vt_r (K := 22) t_35 h_34 (fun r_36 t_37 h_38 => ?_)
    refine cl_aload_n C.1 C.2.1 dX5_repeat_38 rfl (lv_at hl 1 rfl) ?_
    obtain ⟨a_39, rfl, h_41⟩ := nn_some h_38
    have t_40 := f1 _ rfl
    refine cg_5_20 C G t_40 dX5_repeat_39 (fun t_42 => ?_)
    refine lv_iload C.1 C.2.1 dX5_repeat_42 (lv_at hl 3 rfl) ?_
    obtain ⟨hi, h_43⟩ := ix_some h_41
    refine cl_aald C G t_42 (by decide) (by decide) rfl hi dX5_repeat_44 (fun t_44 => ?_)
    refine vt_r (K := 22) t_44 h_43 (fun r_45 t_46 h_47 => ?_)
    obtain ⟨a_48, rfl, h_50⟩ := nn_some h_47
    have t_49 := t_37 _ rfl
    obtain ⟨σ_51, hq, h_52⟩ := bd1_some h_50
    refine cl_callV (ci := 6) (rest := []) C G rfl t_49 cw_RX5_117 [cl_rf c0 r_45] _ (kc_X6_loadAs l D c0 (by rw [G.1]; exact t_49) hq (by rw [G.1]; exact t_46)) (Nat.le_of_ble_eq_true rfl) (Nat.le_of_ble_eq_true rfl) rfl rfl hl.1 (Nat.le_of_ble_eq_true rfl) dX5_repeat_45 (fun T_53 H locs cells slots t_54 hu G_55 => ?_)
    have ha := hu.kind ha (by decide)
    have t_40 := hu.kind t_40 (by decide)
    refine W.eq (g2 := F0 m 48 ls []) rfl ?_
    refine lv_iload_n C.1 C.2.1 dX5_repeat_48 rfl (lv_at hl 2 rfl) ?_
    refine lv_iload C.1 C.2.1 dX5_repeat_49 (lv_at hl 3 rfl) ?_
    refine lv_ishr C.1 C.2.1 dX5_repeat_51 ?_
    refine lv_iconst (v := (1:Int32)) C.1 C.2.1 dX5_repeat_52 (by decide) ?_
    refine lv_iand C.1 C.2.1 dX5_repeat_53 ?_
    refine lv_if_ne (tgt := 77) C.1 C.2.1 dX5_repeat_54 (by decide) (fun hc => ?_) (fun hc => ?_)
    · rw [if_neg hc] at h_52
      exact wc_X5_repeat_77i19 C h_52 hP G_55 ha (cl_RTs t_40) (lv_sub hl [0, 1, 2, 3] rfl)
    · rw [if_pos hc] at h_52
      refine lv_aload_n C.1 C.2.1 dX5_repeat_57 rfl (lv_at hl 0 rfl) ?_
      refine cg_5_20 C G_55 ha dX5_repeat_58 (fun t_59 => ?_)
      refine lv_iload C.1 C.2.1 dX5_repeat_61 (lv_at hl 3 rfl) ?_
      obtain ⟨hi, h_60⟩ := ix_some h_52
      refine cl_aald C G_55 t_59 (by decide) (by decide) rfl hi dX5_repeat_63 (fun t_61 => ?_)
      refine vt_r (K := 22) t_61 h_60 (fun r_62 t_63 h_64 => ?_)
      obtain ⟨a_65, rfl, h_67⟩ := nn_some h_64
      have t_66 := t_63 _ rfl
      refine cg_5_121 C G_55 t_66 dX5_repeat_64 (fun t_68 => ?_)
      have t_68 : (T_53 (a_65 + 1)).1 = 18 := by rw [t_68]
      refine lv_iconst (v := (1:Int32)) C.1 C.2.1 dX5_repeat_67 (by decide) ?_
      refine cp_5_125 C G_55 t_68 rfl rfl dX5_repeat_68 (fun H locs G_70 => ?_)
      refine cl_nm G_70 h_67 (fun σ_69 G_71 h_72 => ?_)
      refine lv_aload_n C.1 C.2.1 dX5_repeat_71 rfl (lv_at hl 0 rfl) ?_
      refine lv_iload C.1 C.2.1 dX5_repeat_72 (lv_at hl 3 rfl) ?_
      obtain ⟨σ_73, hq, h_74⟩ := bd1_some h_72
      refine cl_callV (ci := 5) (rest := []) C G_71 rfl ha cw_RX5_130 [.int x4] _ (kc_X5_emptyArea l D c0 (by rw [G_71.1]; exact ha) hq) (Nat.le_of_ble_eq_true rfl) (Nat.le_of_ble_eq_true rfl) rfl rfl hl.1 (Nat.le_of_ble_eq_true rfl) dX5_repeat_74 (fun T_75 H locs cells slots t_76 hu G_77 => ?_)
      have ha := hu.kind ha (by decide)
      have t_40 := hu.kind t_40 (by decide)
      refine W.eq (g2 := F0 m 77 ls []) rfl ?_
      exact wc_X5_repeat_77i19 C h_74 hP G_77 ha (cl_RTs t_40) (lv_sub hl [0, 1, 2, 3] rfl)
noncomputable def bc_X5_repeat_0 (a : Nat) (x1 : (Option Nat)) (x2 : (Option Nat)) (x3 : Int32) (σ : cl_S) : Option (cl_S) := nn x1 (fun a_1 => vl (σ.2.2.1 a_1 3) (fun r_5 => bd1 (fc_X5_begin a r_5 σ) (fun σ_8 => vl (σ_8.2.2.1 a 1) (fun r_14 => nn r_14 (fun a_17 => bd1 (fc_X3_copyFrom a_17 x2 σ_8) (fun σ_20 => bc_X5_repeat_19 a (some a_1) x3 (0:Int32) σ_20))))))
set_option maxHeartbeats 4000000 in
theorem wc_X5_repeat_0 (C : cl_C D p s m args meth c cX5_repeat 5 none RX5) {a : Nat} {x1 : (Option Nat)} {x2 : (Option Nat)} {x3 : Int32} {σ0 σ σ' : cl_S} {T : Nat → Nat × Nat} {H : Heap} {locs : List Loc} {ls : Array Slot} {cells slots : Nat} (h : bc_X5_repeat_0 a x1 x2 x3 σ = some σ') (G : cl_G true D c0 ({ frames := 8, cells := σ0.2.2.2.2.2.1, slots := σ0.2.2.2.2.2.2, locals := 209 }) s σ0.2.2.2.1 T σ H locs cells slots) (ha : (T a).1 = 21) (f1 : cl_RT T x1 21) (f2 : cl_RT T x2 19) (hl : lv_has ls 5 [(0, .ref (c0 + a)), (1, cl_rf c0 x1), (2, cl_rf c0 x2), (3, .int x3)]) : W p l e ({ frames := 8, cells := σ0.2.2.2.2.2.1, slots := σ0.2.2.2.2.2.2, locals := 209 }) s m args below meth c H locs cells slots (MQ below (cl_Q true D c0 none cl_no σ0 σ') args s (σ0.2.2.2.2.2.1 - σ'.2.2.2.2.2.1) (σ0.2.2.2.2.2.2 - σ'.2.2.2.2.2.2) (cl_A c0 σ0.2.2.2.1 s.heap.size)) (F0 m 0 ls []) := by
  unfold bc_X5_repeat_0 at h
  refine lv_aload_n C.1 C.2.1 dX5_repeat_0 rfl (lv_at hl 0 rfl) ?_
  refine cl_aload_n C.1 C.2.1 dX5_repeat_1 rfl (lv_at hl 1 rfl) ?_
  obtain ⟨a_1, rfl, h_3⟩ := nn_some h
  have t_2 := f1 _ rfl
  refine cg_5_12 C G t_2 dX5_repeat_2 (fun t_4 => ?_)
  refine vt_r (K := 17) t_4 h_3 (fun r_5 t_6 h_7 => ?_)
  obtain ⟨σ_8, hq, h_9⟩ := bd1_some h_7
  refine cl_callV (ci := 5) (rest := []) C G rfl ha cw_RX5_107 [cl_rf c0 r_5] _ (kc_X5_begin l D c0 (by rw [G.1]; exact ha) hq (by rw [G.1]; exact t_6)) (Nat.le_of_ble_eq_true rfl) (Nat.le_of_ble_eq_true rfl) rfl rfl hl.1 (Nat.le_of_ble_eq_true rfl) dX5_repeat_5 (fun T_10 H locs cells slots t_11 hu G_12 => ?_)
  have ha := hu.kind ha (by decide)
  have t_2 := hu.kind t_2 (by decide)
  have f2 := f2.up hu (by decide)
  refine W.eq (g2 := F0 m 8 ls []) rfl ?_
  refine lv_aload_n C.1 C.2.1 dX5_repeat_8 rfl (lv_at hl 0 rfl) ?_
  refine cg_5_55 C G_12 ha dX5_repeat_9 (fun t_13 => ?_)
  refine vt_r (K := 19) t_13 h_9 (fun r_14 t_15 h_16 => ?_)
  refine cl_aload_n C.1 C.2.1 dX5_repeat_12 rfl (lv_at hl 2 rfl) ?_
  obtain ⟨a_17, rfl, h_19⟩ := nn_some h_16
  have t_18 := t_15 _ rfl
  obtain ⟨σ_20, hq, h_21⟩ := bd1_some h_19
  refine cl_callV (ci := 3) (rest := []) C G_12 rfl t_18 cw_RX5_111 [cl_rf c0 x2] _ (kc_X3_copyFrom l D c0 (by rw [G_12.1]; exact t_18) hq (by rw [G_12.1]; exact f2)) (Nat.le_of_ble_eq_true rfl) (Nat.le_of_ble_eq_true rfl) rfl rfl hl.1 (Nat.le_of_ble_eq_true rfl) dX5_repeat_13 (fun T_22 H locs cells slots t_23 hu G_24 => ?_)
  have ha := hu.kind ha (by decide)
  have t_2 := hu.kind t_2 (by decide)
  have f2 := f2.up hu (by decide)
  refine W.eq (g2 := F0 m 16 ls []) rfl ?_
  refine lv_iconst (v := (0:Int32)) C.1 C.2.1 dX5_repeat_16 (by decide) ?_
  refine lv_istore (lv' := [(4, .int (0:Int32)), (0, .ref (c0 + a)), (1, .ref (c0 + a_1)), (2, cl_rf c0 x2), (3, .int x3)]) C.1 C.2.1 dX5_repeat_17 hl (by decide) (by first | rfl | (cases x2 <;> rfl)) (fun ls hl_25 => ?_)
  exact wc_X5_repeat_19 C h_21 G_24 ha (cl_RTs t_2) (lv_sub hl_25 [1, 2, 4, 0] rfl)
noncomputable def fc_X5_repeat (a : Nat) (x1 : (Option Nat)) (x2 : (Option Nat)) (x3 : Int32) (σ : cl_S) : Option (cl_S) := bc_X5_repeat_0 a x1 x2 x3 σ
theorem kc_X5_repeat (l : Launch) (D : cl_D) (c0 : Nat) {a : Nat} {x1 : (Option Nat)} {x2 : (Option Nat)} {x3 : Int32} {σ σ' : cl_S} (ha : (σ.2.2.2.1 a).1 = 21) (h : fc_X5_repeat a x1 x2 x3 σ = some σ') (f1 : cl_RT σ.2.2.2.1 x1 21) (f2 : cl_RT σ.2.2.2.1 x2 19) : cl_Met true l D c0 yX5_repeat cX5_repeat 5 none 8 209 [.ref (c0 + a), cl_rf c0 x1, cl_rf c0 x2, .int x3] σ none cl_no σ' :=
  by cases x1 <;> cases x2 <;> exact cl_of (by decide) (Nat.le_of_ble_eq_true rfl) (fun p e s m args below meth c ls C hn G hl => wc_X5_repeat_0 C h G ha f1 f2 hl)
abbrev cX6_isLike : ByteArray := prog_8_method_10_code
def yX6_isLike : MethodName := ⟨RX6, "isLike", "(LPartHouse$Partition;)Z"⟩
theorem dX6_isLike_0 : decode cX6_isLike 0 = .ok (.aload_n 0, 1) := by decide +kernel
theorem dX6_isLike_1 : decode cX6_isLike 1 = .ok (.getfield 12, 3) := by decide +kernel
theorem dX6_isLike_4 : decode cX6_isLike 4 = .ok (.getfield 116, 3) := by decide +kernel
theorem dX6_isLike_7 : decode cX6_isLike 7 = .ok (.aload_n 1, 1) := by decide +kernel
theorem dX6_isLike_8 : decode cX6_isLike 8 = .ok (.getfield 12, 3) := by decide +kernel
theorem dX6_isLike_11 : decode cX6_isLike 11 = .ok (.getfield 116, 3) := by decide +kernel
theorem dX6_isLike_14 : decode cX6_isLike 14 = .ok (.if_icmp .ne 18, 3) := by decide +kernel
theorem dX6_isLike_17 : decode cX6_isLike 17 = .ok (.aload_n 0, 1) := by decide +kernel
theorem dX6_isLike_18 : decode cX6_isLike 18 = .ok (.getfield 76, 3) := by decide +kernel
theorem dX6_isLike_21 : decode cX6_isLike 21 = .ok (.aload_n 1, 1) := by decide +kernel
theorem dX6_isLike_22 : decode cX6_isLike 22 = .ok (.getfield 76, 3) := by decide +kernel
theorem dX6_isLike_25 : decode cX6_isLike 25 = .ok (.if_icmp .ne 7, 3) := by decide +kernel
theorem dX6_isLike_28 : decode cX6_isLike 28 = .ok (.iconst 1, 1) := by decide +kernel
theorem dX6_isLike_29 : decode cX6_isLike 29 = .ok (.goto 4, 3) := by decide +kernel
theorem dX6_isLike_32 : decode cX6_isLike 32 = .ok (.iconst 0, 1) := by decide +kernel
theorem dX6_isLike_33 : decode cX6_isLike 33 = .ok (.istore_n 2, 1) := by decide +kernel
theorem dX6_isLike_34 : decode cX6_isLike 34 = .ok (.iconst 0, 1) := by decide +kernel
theorem dX6_isLike_35 : decode cX6_isLike 35 = .ok (.istore_n 3, 1) := by decide +kernel
theorem dX6_isLike_36 : decode cX6_isLike 36 = .ok (.iload_n 3, 1) := by decide +kernel
theorem dX6_isLike_37 : decode cX6_isLike 37 = .ok (.bipush 16, 2) := by decide +kernel
theorem dX6_isLike_39 : decode cX6_isLike 39 = .ok (.if_icmp .ge 40, 3) := by decide +kernel
theorem dX6_isLike_42 : decode cX6_isLike 42 = .ok (.iload_n 2, 1) := by decide +kernel
theorem dX6_isLike_43 : decode cX6_isLike 43 = .ok (.ifCond .eq 36, 3) := by decide +kernel
theorem dX6_isLike_46 : decode cX6_isLike 46 = .ok (.aload_n 0, 1) := by decide +kernel
theorem dX6_isLike_47 : decode cX6_isLike 47 = .ok (.getfield 12, 3) := by decide +kernel
theorem dX6_isLike_50 : decode cX6_isLike 50 = .ok (.getfield 101, 3) := by decide +kernel
theorem dX6_isLike_53 : decode cX6_isLike 53 = .ok (.iload_n 3, 1) := by decide +kernel
theorem dX6_isLike_54 : decode cX6_isLike 54 = .ok (.iaload, 1) := by decide +kernel
theorem dX6_isLike_55 : decode cX6_isLike 55 = .ok (.aload_n 1, 1) := by decide +kernel
theorem dX6_isLike_56 : decode cX6_isLike 56 = .ok (.getfield 12, 3) := by decide +kernel
theorem dX6_isLike_59 : decode cX6_isLike 59 = .ok (.getfield 101, 3) := by decide +kernel
theorem dX6_isLike_62 : decode cX6_isLike 62 = .ok (.iload_n 3, 1) := by decide +kernel
theorem dX6_isLike_63 : decode cX6_isLike 63 = .ok (.iaload, 1) := by decide +kernel
theorem dX6_isLike_64 : decode cX6_isLike 64 = .ok (.if_icmp .ne 7, 3) := by decide +kernel
theorem dX6_isLike_67 : decode cX6_isLike 67 = .ok (.iconst 1, 1) := by decide +kernel
theorem dX6_isLike_68 : decode cX6_isLike 68 = .ok (.goto 4, 3) := by decide +kernel
theorem dX6_isLike_71 : decode cX6_isLike 71 = .ok (.iconst 0, 1) := by decide +kernel
theorem dX6_isLike_72 : decode cX6_isLike 72 = .ok (.istore_n 2, 1) := by decide +kernel
theorem dX6_isLike_73 : decode cX6_isLike 73 = .ok (.iinc 3 1, 3) := by decide +kernel
theorem dX6_isLike_76 : decode cX6_isLike 76 = .ok (.goto (-40), 3) := by decide +kernel
theorem dX6_isLike_79 : decode cX6_isLike 79 = .ok (.iconst 0, 1) := by decide +kernel
theorem dX6_isLike_80 : decode cX6_isLike 80 = .ok (.istore_n 3, 1) := by decide +kernel
theorem dX6_isLike_81 : decode cX6_isLike 81 = .ok (.iload_n 3, 1) := by decide +kernel
theorem dX6_isLike_82 : decode cX6_isLike 82 = .ok (.aload_n 0, 1) := by decide +kernel
theorem dX6_isLike_83 : decode cX6_isLike 83 = .ok (.getfield 76, 3) := by decide +kernel
theorem dX6_isLike_86 : decode cX6_isLike 86 = .ok (.if_icmp .ge 49, 3) := by decide +kernel
theorem dX6_isLike_89 : decode cX6_isLike 89 = .ok (.iload_n 2, 1) := by decide +kernel
theorem dX6_isLike_90 : decode cX6_isLike 90 = .ok (.ifCond .eq 45, 3) := by decide +kernel
theorem dX6_isLike_93 : decode cX6_isLike 93 = .ok (.aload_n 0, 1) := by decide +kernel
theorem dX6_isLike_94 : decode cX6_isLike 94 = .ok (.getfield 18, 3) := by decide +kernel
theorem dX6_isLike_97 : decode cX6_isLike 97 = .ok (.iload_n 3, 1) := by decide +kernel
theorem dX6_isLike_98 : decode cX6_isLike 98 = .ok (.iaload, 1) := by decide +kernel
theorem dX6_isLike_99 : decode cX6_isLike 99 = .ok (.aload_n 1, 1) := by decide +kernel
theorem dX6_isLike_100 : decode cX6_isLike 100 = .ok (.getfield 18, 3) := by decide +kernel
theorem dX6_isLike_103 : decode cX6_isLike 103 = .ok (.iload_n 3, 1) := by decide +kernel
theorem dX6_isLike_104 : decode cX6_isLike 104 = .ok (.iaload, 1) := by decide +kernel
theorem dX6_isLike_105 : decode cX6_isLike 105 = .ok (.if_icmp .ne 22, 3) := by decide +kernel
theorem dX6_isLike_108 : decode cX6_isLike 108 = .ok (.aload_n 0, 1) := by decide +kernel
theorem dX6_isLike_109 : decode cX6_isLike 109 = .ok (.getfield 24, 3) := by decide +kernel
theorem dX6_isLike_112 : decode cX6_isLike 112 = .ok (.iload_n 3, 1) := by decide +kernel
theorem dX6_isLike_113 : decode cX6_isLike 113 = .ok (.aaload, 1) := by decide +kernel
theorem dX6_isLike_114 : decode cX6_isLike 114 = .ok (.aload_n 1, 1) := by decide +kernel
theorem dX6_isLike_115 : decode cX6_isLike 115 = .ok (.getfield 24, 3) := by decide +kernel
theorem dX6_isLike_118 : decode cX6_isLike 118 = .ok (.iload_n 3, 1) := by decide +kernel
theorem dX6_isLike_119 : decode cX6_isLike 119 = .ok (.aaload, 1) := by decide +kernel
theorem dX6_isLike_120 : decode cX6_isLike 120 = .ok (.if_acmp .ne 7, 3) := by decide +kernel
theorem dX6_isLike_123 : decode cX6_isLike 123 = .ok (.iconst 1, 1) := by decide +kernel
theorem dX6_isLike_124 : decode cX6_isLike 124 = .ok (.goto 4, 3) := by decide +kernel
theorem dX6_isLike_127 : decode cX6_isLike 127 = .ok (.iconst 0, 1) := by decide +kernel
theorem dX6_isLike_128 : decode cX6_isLike 128 = .ok (.istore_n 2, 1) := by decide +kernel
theorem dX6_isLike_129 : decode cX6_isLike 129 = .ok (.iinc 3 1, 3) := by decide +kernel
theorem dX6_isLike_132 : decode cX6_isLike 132 = .ok (.goto (-51), 3) := by decide +kernel
theorem dX6_isLike_135 : decode cX6_isLike 135 = .ok (.iload_n 2, 1) := by decide +kernel
theorem dX6_isLike_136 : decode cX6_isLike 136 = .ok (.ireturn, 1) := by decide +kernel
theorem cc_X6_isLike : Cond.code yX6_isLike cX6_isLike 4 (some .boolean) ∈ rf_tb := rf_at 1500 (by decide +kernel) (by decide +kernel)
noncomputable def bc_X6_isLike_72i36 (a : Nat) (x1 : (Option Nat)) (x3 : Int32) (v0 : Int32) (σ : cl_S) : Option ((Int32 × Int32 × cl_S) ⊕ (Int32 × Int32 × cl_S)) := vl (x3 + (1:Int32)) (fun x3_18 => some (.inl (v0, x3_18, σ)))
set_option maxHeartbeats 4000000 in
theorem wc_X6_isLike_72i36 (C : cl_C D p s m args meth c cX6_isLike 4 (some .boolean) RX6) {r : Int32} {a : Nat} {x1 : (Option Nat)} {x3 : Int32} {v0 : Int32} {σ0 σ σ' : cl_S} {T : Nat → Nat × Nat} {H : Heap} {locs : List Loc} {ls : Array Slot} {cells slots : Nat} {o : (Int32 × Int32 × cl_S) ⊕ (Int32 × Int32 × cl_S)} (h : bc_X6_isLike_72i36 a x1 x3 v0 σ = some o) (hP : Sum.elim (fun z : (Int32 × Int32 × cl_S) => ∀ (T : Nat → Nat × Nat) (H : Heap) (locs : List Loc) (ls : Array Slot) (cells slots : Nat), cl_G true D c0 ({ frames := 0, cells := σ0.2.2.2.2.2.1, slots := σ0.2.2.2.2.2.2, locals := 0 }) s σ0.2.2.2.1 T z.2.2 H locs cells slots → (T a).1 = 22 → cl_RT T x1 22 → lv_has ls 4 [(0, .ref (c0 + a)), (1, cl_rf c0 x1), (2, .int (z.1)), (3, .int (z.2.1))] → W p l e ({ frames := 0, cells := σ0.2.2.2.2.2.1, slots := σ0.2.2.2.2.2.2, locals := 0 }) s m args below meth c H locs cells slots (MQ below (cl_Q true D c0 (some (.int r)) cl_no σ0 σ') args s (σ0.2.2.2.2.2.1 - σ'.2.2.2.2.2.1) (σ0.2.2.2.2.2.2 - σ'.2.2.2.2.2.2) (cl_A c0 σ0.2.2.2.1 s.heap.size)) (F0 m 36 ls [])) (fun z : (Int32 × Int32 × cl_S) => ∀ (T : Nat → Nat × Nat) (H : Heap) (locs : List Loc) (ls : Array Slot) (cells slots : Nat), cl_G true D c0 ({ frames := 0, cells := σ0.2.2.2.2.2.1, slots := σ0.2.2.2.2.2.2, locals := 0 }) s σ0.2.2.2.1 T z.2.2 H locs cells slots → (T a).1 = 22 → cl_RT T x1 22 → lv_has ls 4 [(0, .ref (c0 + a)), (1, cl_rf c0 x1), (2, .int (z.1)), (3, .int (z.2.1))] → W p l e ({ frames := 0, cells := σ0.2.2.2.2.2.1, slots := σ0.2.2.2.2.2.2, locals := 0 }) s m args below meth c H locs cells slots (MQ below (cl_Q true D c0 (some (.int r)) cl_no σ0 σ') args s (σ0.2.2.2.2.2.1 - σ'.2.2.2.2.2.1) (σ0.2.2.2.2.2.2 - σ'.2.2.2.2.2.2) (cl_A c0 σ0.2.2.2.1 s.heap.size)) (F0 m 79 ls [])) o) (G : cl_G true D c0 ({ frames := 0, cells := σ0.2.2.2.2.2.1, slots := σ0.2.2.2.2.2.2, locals := 0 }) s σ0.2.2.2.1 T σ H locs cells slots) (ha : (T a).1 = 22) (f1 : cl_RT T x1 22) (hl : lv_has ls 4 [(0, .ref (c0 + a)), (1, cl_rf c0 x1), (3, .int x3)]) : W p l e ({ frames := 0, cells := σ0.2.2.2.2.2.1, slots := σ0.2.2.2.2.2.2, locals := 0 }) s m args below meth c H locs cells slots (MQ below (cl_Q true D c0 (some (.int r)) cl_no σ0 σ') args s (σ0.2.2.2.2.2.1 - σ'.2.2.2.2.2.1) (σ0.2.2.2.2.2.2 - σ'.2.2.2.2.2.2) (cl_A c0 σ0.2.2.2.1 s.heap.size)) (F0 m 72 ls [.int v0]) := by
  unfold bc_X6_isLike_72i36 at h
  refine lv_istore_n (lv' := [(2, .int v0), (0, .ref (c0 + a)), (1, cl_rf c0 x1), (3, .int x3)]) C.1 C.2.1 dX6_isLike_72 rfl hl (by decide) (by first | rfl | (cases x1 <;> rfl)) (fun ls hl_17 => ?_)
  refine vl_ex h (fun x3_18 ey h_19 => ?_)
  refine lv_iinc (v := x3_18) (lv' := [(3, .int x3_18), (2, .int v0), (0, .ref (c0 + a)), (1, cl_rf c0 x1)]) C.1 C.2.1 dX6_isLike_73 hl_17 (k := 3) rfl (by rw [ey]; rfl) (by decide) (by first | rfl | (cases x1 <;> rfl)) (fun ls hl_20 => ?_)
  refine lv_goto (tgt := 36) C.1 C.2.1 dX6_isLike_76 (by decide) ?_
  cases h_19
  exact hP _ _ _ _ _ _ G ha f1 (lv_sub hl_20 [2, 3, 1, 0] rfl)
noncomputable def lc_X6_isLike_36 (a : Nat) (x1 : (Option Nat)) (x2 : Int32) (x3 : Int32) (σ : cl_S) : Option ((Int32 × Int32 × cl_S) ⊕ (Int32 × Int32 × cl_S)) := (if (16:Int32) ≤ x3 then some (.inr (x2, x3, σ)) else (if x2 = 0 then some (.inr (x2, x3, σ)) else ix x3 16 (nn x1 (fun a_11 => ix x3 16 ((if (σ.1 ((a + 1) + 2) x3.toNatClampNeg) = (σ.1 ((a_11 + 1) + 2) x3.toNatClampNeg) then bc_X6_isLike_72i36 a (some a_11) x3 (1:Int32) σ else bc_X6_isLike_72i36 a (some a_11) x3 (0:Int32) σ))))))
noncomputable def bc_X6_isLike_128i81 (a : Nat) (x1 : (Option Nat)) (x3 : Int32) (v0 : Int32) (σ : cl_S) : Option ((Int32 × Int32 × cl_S) ⊕ (Int32 × Int32 × cl_S)) := vl (x3 + (1:Int32)) (fun x3_30 => some (.inl (v0, x3_30, σ)))
set_option maxHeartbeats 4000000 in
theorem wc_X6_isLike_128i81 (C : cl_C D p s m args meth c cX6_isLike 4 (some .boolean) RX6) {r : Int32} {a : Nat} {x1 : (Option Nat)} {x3 : Int32} {v0 : Int32} {σ0 σ σ' : cl_S} {T : Nat → Nat × Nat} {H : Heap} {locs : List Loc} {ls : Array Slot} {cells slots : Nat} {o : (Int32 × Int32 × cl_S) ⊕ (Int32 × Int32 × cl_S)} (h : bc_X6_isLike_128i81 a x1 x3 v0 σ = some o) (hP : Sum.elim (fun z : (Int32 × Int32 × cl_S) => ∀ (T : Nat → Nat × Nat) (H : Heap) (locs : List Loc) (ls : Array Slot) (cells slots : Nat), cl_G true D c0 ({ frames := 0, cells := σ0.2.2.2.2.2.1, slots := σ0.2.2.2.2.2.2, locals := 0 }) s σ0.2.2.2.1 T z.2.2 H locs cells slots → (T a).1 = 22 → cl_RT T x1 22 → lv_has ls 4 [(0, .ref (c0 + a)), (1, cl_rf c0 x1), (2, .int (z.1)), (3, .int (z.2.1))] → W p l e ({ frames := 0, cells := σ0.2.2.2.2.2.1, slots := σ0.2.2.2.2.2.2, locals := 0 }) s m args below meth c H locs cells slots (MQ below (cl_Q true D c0 (some (.int r)) cl_no σ0 σ') args s (σ0.2.2.2.2.2.1 - σ'.2.2.2.2.2.1) (σ0.2.2.2.2.2.2 - σ'.2.2.2.2.2.2) (cl_A c0 σ0.2.2.2.1 s.heap.size)) (F0 m 81 ls [])) (fun z : (Int32 × Int32 × cl_S) => ∀ (T : Nat → Nat × Nat) (H : Heap) (locs : List Loc) (ls : Array Slot) (cells slots : Nat), cl_G true D c0 ({ frames := 0, cells := σ0.2.2.2.2.2.1, slots := σ0.2.2.2.2.2.2, locals := 0 }) s σ0.2.2.2.1 T z.2.2 H locs cells slots → (T a).1 = 22 → cl_RT T x1 22 → lv_has ls 4 [(0, .ref (c0 + a)), (1, cl_rf c0 x1), (2, .int (z.1)), (3, .int (z.2.1))] → W p l e ({ frames := 0, cells := σ0.2.2.2.2.2.1, slots := σ0.2.2.2.2.2.2, locals := 0 }) s m args below meth c H locs cells slots (MQ below (cl_Q true D c0 (some (.int r)) cl_no σ0 σ') args s (σ0.2.2.2.2.2.1 - σ'.2.2.2.2.2.1) (σ0.2.2.2.2.2.2 - σ'.2.2.2.2.2.2) (cl_A c0 σ0.2.2.2.1 s.heap.size)) (F0 m 135 ls [])) o) (G : cl_G true D c0 ({ frames := 0, cells := σ0.2.2.2.2.2.1, slots := σ0.2.2.2.2.2.2, locals := 0 }) s σ0.2.2.2.1 T σ H locs cells slots) (ha : (T a).1 = 22) (f1 : cl_RT T x1 22) (hl : lv_has ls 4 [(0, .ref (c0 + a)), (1, cl_rf c0 x1), (3, .int x3)]) : W p l e ({ frames := 0, cells := σ0.2.2.2.2.2.1, slots := σ0.2.2.2.2.2.2, locals := 0 }) s m args below meth c H locs cells slots (MQ below (cl_Q true D c0 (some (.int r)) cl_no σ0 σ') args s (σ0.2.2.2.2.2.1 - σ'.2.2.2.2.2.1) (σ0.2.2.2.2.2.2 - σ'.2.2.2.2.2.2) (cl_A c0 σ0.2.2.2.1 s.heap.size)) (F0 m 128 ls [.int v0]) := by
  unfold bc_X6_isLike_128i81 at h
  refine lv_istore_n (lv' := [(2, .int v0), (0, .ref (c0 + a)), (1, cl_rf c0 x1), (3, .int x3)]) C.1 C.2.1 dX6_isLike_128 rfl hl (by decide) (by first | rfl | (cases x1 <;> rfl)) (fun ls hl_29 => ?_)
  refine vl_ex h (fun x3_30 ey h_31 => ?_)
  refine lv_iinc (v := x3_30) (lv' := [(3, .int x3_30), (2, .int v0), (0, .ref (c0 + a)), (1, cl_rf c0 x1)]) C.1 C.2.1 dX6_isLike_129 hl_29 (k := 3) rfl (by rw [ey]; rfl) (by decide) (by first | rfl | (cases x1 <;> rfl)) (fun ls hl_32 => ?_)
  refine lv_goto (tgt := 81) C.1 C.2.1 dX6_isLike_132 (by decide) ?_
  cases h_31
  exact hP _ _ _ _ _ _ G ha f1 (lv_sub hl_32 [2, 3, 1, 0] rfl)
noncomputable def bc_X6_isLike_127i81 (a : Nat) (x1 : (Option Nat)) (x3 : Int32) (σ : cl_S) : Option ((Int32 × Int32 × cl_S) ⊕ (Int32 × Int32 × cl_S)) := bc_X6_isLike_128i81 a x1 x3 (0:Int32) σ
set_option maxHeartbeats 4000000 in
theorem wc_X6_isLike_127i81 (C : cl_C D p s m args meth c cX6_isLike 4 (some .boolean) RX6) {r : Int32} {a : Nat} {x1 : (Option Nat)} {x3 : Int32} {σ0 σ σ' : cl_S} {T : Nat → Nat × Nat} {H : Heap} {locs : List Loc} {ls : Array Slot} {cells slots : Nat} {o : (Int32 × Int32 × cl_S) ⊕ (Int32 × Int32 × cl_S)} (h : bc_X6_isLike_127i81 a x1 x3 σ = some o) (hP : Sum.elim (fun z : (Int32 × Int32 × cl_S) => ∀ (T : Nat → Nat × Nat) (H : Heap) (locs : List Loc) (ls : Array Slot) (cells slots : Nat), cl_G true D c0 ({ frames := 0, cells := σ0.2.2.2.2.2.1, slots := σ0.2.2.2.2.2.2, locals := 0 }) s σ0.2.2.2.1 T z.2.2 H locs cells slots → (T a).1 = 22 → cl_RT T x1 22 → lv_has ls 4 [(0, .ref (c0 + a)), (1, cl_rf c0 x1), (2, .int (z.1)), (3, .int (z.2.1))] → W p l e ({ frames := 0, cells := σ0.2.2.2.2.2.1, slots := σ0.2.2.2.2.2.2, locals := 0 }) s m args below meth c H locs cells slots (MQ below (cl_Q true D c0 (some (.int r)) cl_no σ0 σ') args s (σ0.2.2.2.2.2.1 - σ'.2.2.2.2.2.1) (σ0.2.2.2.2.2.2 - σ'.2.2.2.2.2.2) (cl_A c0 σ0.2.2.2.1 s.heap.size)) (F0 m 81 ls [])) (fun z : (Int32 × Int32 × cl_S) => ∀ (T : Nat → Nat × Nat) (H : Heap) (locs : List Loc) (ls : Array Slot) (cells slots : Nat), cl_G true D c0 ({ frames := 0, cells := σ0.2.2.2.2.2.1, slots := σ0.2.2.2.2.2.2, locals := 0 }) s σ0.2.2.2.1 T z.2.2 H locs cells slots → (T a).1 = 22 → cl_RT T x1 22 → lv_has ls 4 [(0, .ref (c0 + a)), (1, cl_rf c0 x1), (2, .int (z.1)), (3, .int (z.2.1))] → W p l e ({ frames := 0, cells := σ0.2.2.2.2.2.1, slots := σ0.2.2.2.2.2.2, locals := 0 }) s m args below meth c H locs cells slots (MQ below (cl_Q true D c0 (some (.int r)) cl_no σ0 σ') args s (σ0.2.2.2.2.2.1 - σ'.2.2.2.2.2.1) (σ0.2.2.2.2.2.2 - σ'.2.2.2.2.2.2) (cl_A c0 σ0.2.2.2.1 s.heap.size)) (F0 m 135 ls [])) o) (G : cl_G true D c0 ({ frames := 0, cells := σ0.2.2.2.2.2.1, slots := σ0.2.2.2.2.2.2, locals := 0 }) s σ0.2.2.2.1 T σ H locs cells slots) (ha : (T a).1 = 22) (f1 : cl_RT T x1 22) (hl : lv_has ls 4 [(0, .ref (c0 + a)), (1, cl_rf c0 x1), (3, .int x3)]) : W p l e ({ frames := 0, cells := σ0.2.2.2.2.2.1, slots := σ0.2.2.2.2.2.2, locals := 0 }) s m args below meth c H locs cells slots (MQ below (cl_Q true D c0 (some (.int r)) cl_no σ0 σ') args s (σ0.2.2.2.2.2.1 - σ'.2.2.2.2.2.1) (σ0.2.2.2.2.2.2 - σ'.2.2.2.2.2.2) (cl_A c0 σ0.2.2.2.1 s.heap.size)) (F0 m 127 ls []) := by
  unfold bc_X6_isLike_127i81 at h
  refine lv_iconst (v := (0:Int32)) C.1 C.2.1 dX6_isLike_127 (by decide) ?_
  exact wc_X6_isLike_128i81 C h hP G ha f1 (lv_sub hl [0, 1, 2] rfl)
noncomputable def lc_X6_isLike_81 (a : Nat) (x1 : (Option Nat)) (x2 : Int32) (x3 : Int32) (σ : cl_S) : Option ((Int32 × Int32 × cl_S) ⊕ (Int32 × Int32 × cl_S)) := (if (σ.1 a 6) ≤ x3 then some (.inr (x2, x3, σ)) else (if x2 = 0 then some (.inr (x2, x3, σ)) else ix x3 200 (nn x1 (fun a_24 => ix x3 200 ((if (σ.1 (a + 4) x3.toNatClampNeg) = (σ.1 (a_24 + 4) x3.toNatClampNeg) then ix x3 200 (vl (σ.2.2.1 (a + 5) x3.toNatClampNeg) (fun r_36 => ix x3 200 (vl (σ.2.2.1 (a_24 + 5) x3.toNatClampNeg) (fun r_42 => (if r_36 = r_42 then bc_X6_isLike_128i81 a (some a_24) x3 (1:Int32) σ else bc_X6_isLike_127i81 a (some a_24) x3 σ))))) else bc_X6_isLike_127i81 a (some a_24) x3 σ))))))
noncomputable def ec_X6_isLike_81 (a : Nat) (x1 : (Option Nat)) (x2 : Int32) (x3 : Int32) (σ : cl_S) : Option (Int32 × cl_S) := nb x2 (some (x2, σ))
noncomputable def bc_X6_isLike_81 (a : Nat) (x1 : (Option Nat)) (x2 : Int32) (x3 : Int32) (σ : cl_S) : Option (Int32 × cl_S) := (lp (fun z : (Int32 × Int32 × cl_S) => lc_X6_isLike_81 a x1 z.1 z.2.1 z.2.2) (x2, x3, σ)).bind (fun z => ec_X6_isLike_81 a x1 z.1 z.2.1 z.2.2)
set_option maxHeartbeats 4000000 in
theorem wc_X6_isLike_81 (C : cl_C D p s m args meth c cX6_isLike 4 (some .boolean) RX6) {r : Int32} {a : Nat} {x1 : (Option Nat)} {x2 : Int32} {x3 : Int32} {σ0 σ σ' : cl_S} {T : Nat → Nat × Nat} {H : Heap} {locs : List Loc} {ls : Array Slot} {cells slots : Nat} (h : bc_X6_isLike_81 a x1 x2 x3 σ = some (r, σ')) (G : cl_G true D c0 ({ frames := 0, cells := σ0.2.2.2.2.2.1, slots := σ0.2.2.2.2.2.2, locals := 0 }) s σ0.2.2.2.1 T σ H locs cells slots) (ha : (T a).1 = 22) (f1 : cl_RT T x1 22) (hl : lv_has ls 4 [(0, .ref (c0 + a)), (1, cl_rf c0 x1), (2, .int x2), (3, .int x3)]) : W p l e ({ frames := 0, cells := σ0.2.2.2.2.2.1, slots := σ0.2.2.2.2.2.2, locals := 0 }) s m args below meth c H locs cells slots (MQ below (cl_Q true D c0 (some (.int r)) cl_no σ0 σ') args s (σ0.2.2.2.2.2.1 - σ'.2.2.2.2.2.1) (σ0.2.2.2.2.2.2 - σ'.2.2.2.2.2.2) (cl_A c0 σ0.2.2.2.1 s.heap.size)) (F0 m 81 ls []) := by
  unfold bc_X6_isLike_81 at h
  obtain ⟨y, hy, h⟩ := bd_some h
  have hE : (fun z : (Int32 × Int32 × cl_S) => ∀ (T : Nat → Nat × Nat) (H : Heap) (locs : List Loc) (ls : Array Slot) (cells slots : Nat), cl_G true D c0 ({ frames := 0, cells := σ0.2.2.2.2.2.1, slots := σ0.2.2.2.2.2.2, locals := 0 }) s σ0.2.2.2.1 T z.2.2 H locs cells slots → (T a).1 = 22 → cl_RT T x1 22 → lv_has ls 4 [(0, .ref (c0 + a)), (1, cl_rf c0 x1), (2, .int (z.1)), (3, .int (z.2.1))] → W p l e ({ frames := 0, cells := σ0.2.2.2.2.2.1, slots := σ0.2.2.2.2.2.2, locals := 0 }) s m args below meth c H locs cells slots (MQ below (cl_Q true D c0 (some (.int r)) cl_no σ0 σ') args s (σ0.2.2.2.2.2.1 - σ'.2.2.2.2.2.1) (σ0.2.2.2.2.2.2 - σ'.2.2.2.2.2.2) (cl_A c0 σ0.2.2.2.1 s.heap.size)) (F0 m 135 ls [])) y := by
    clear hy G ha f1 hl
    intro T H locs ls cells slots G ha f1 hl
    obtain ⟨x2, x3, σ⟩ := y
    dsimp only at h G ha f1 hl
    unfold ec_X6_isLike_81 at h
    refine lv_iload_n C.1 C.2.1 dX6_isLike_135 rfl (lv_at hl 2 rfl) ?_
    obtain ⟨hnb, h_45⟩ := nb_some h
    exact cl_zret ⟨rfl, rfl⟩ rfl C G h_45 hnb dX6_isLike_136
  refine lp_recE (fun z : (Int32 × Int32 × cl_S) => ∀ (T : Nat → Nat × Nat) (H : Heap) (locs : List Loc) (ls : Array Slot) (cells slots : Nat), cl_G true D c0 ({ frames := 0, cells := σ0.2.2.2.2.2.1, slots := σ0.2.2.2.2.2.2, locals := 0 }) s σ0.2.2.2.1 T z.2.2 H locs cells slots → (T a).1 = 22 → cl_RT T x1 22 → lv_has ls 4 [(0, .ref (c0 + a)), (1, cl_rf c0 x1), (2, .int (z.1)), (3, .int (z.2.1))] → W p l e ({ frames := 0, cells := σ0.2.2.2.2.2.1, slots := σ0.2.2.2.2.2.2, locals := 0 }) s m args below meth c H locs cells slots (MQ below (cl_Q true D c0 (some (.int r)) cl_no σ0 σ') args s (σ0.2.2.2.2.2.1 - σ'.2.2.2.2.2.1) (σ0.2.2.2.2.2.2 - σ'.2.2.2.2.2.2) (cl_A c0 σ0.2.2.2.1 s.heap.size)) (F0 m 81 ls [])) (fun z : (Int32 × Int32 × cl_S) => ∀ (T : Nat → Nat × Nat) (H : Heap) (locs : List Loc) (ls : Array Slot) (cells slots : Nat), cl_G true D c0 ({ frames := 0, cells := σ0.2.2.2.2.2.1, slots := σ0.2.2.2.2.2.2, locals := 0 }) s σ0.2.2.2.1 T z.2.2 H locs cells slots → (T a).1 = 22 → cl_RT T x1 22 → lv_has ls 4 [(0, .ref (c0 + a)), (1, cl_rf c0 x1), (2, .int (z.1)), (3, .int (z.2.1))] → W p l e ({ frames := 0, cells := σ0.2.2.2.2.2.1, slots := σ0.2.2.2.2.2.2, locals := 0 }) s m args below meth c H locs cells slots (MQ below (cl_Q true D c0 (some (.int r)) cl_no σ0 σ') args s (σ0.2.2.2.2.2.1 - σ'.2.2.2.2.2.1) (σ0.2.2.2.2.2.2 - σ'.2.2.2.2.2.2) (cl_A c0 σ0.2.2.2.1 s.heap.size)) (F0 m 135 ls [])) ?_ _ _ hy hE _ _ _ _ _ _ G ha f1 hl
  clear hE hy G ha f1 hl h
  intro z o h hP T H locs ls cells slots G ha f1 hl
  obtain ⟨x2, x3, σ⟩ := z
  dsimp only at h G ha f1 hl
  unfold lc_X6_isLike_81 at h
  refine lv_iload_n C.1 C.2.1 dX6_isLike_81 rfl (lv_at hl 3 rfl) ?_
  refine lv_aload_n C.1 C.2.1 dX6_isLike_82 rfl (lv_at hl 0 rfl) ?_
  refine cg_6_76 C G ha dX6_isLike_83 ?_
  refine lv_icmp_ge (tgt := 135) C.1 C.2.1 dX6_isLike_86 (by decide) (fun hc => ?_) (fun hc => ?_)
  · rw [if_pos hc] at h
    cases h
    exact hP _ _ _ _ _ _ G ha f1 (lv_sub hl [0, 1, 2, 3] rfl)
  · rw [if_neg hc] at h
    refine lv_iload_n C.1 C.2.1 dX6_isLike_89 rfl (lv_at hl 2 rfl) ?_
    refine lv_if_eq (tgt := 135) C.1 C.2.1 dX6_isLike_90 (by decide) (fun hc => ?_) (fun hc => ?_)
    · rw [if_pos hc] at h
      cases h
      exact hP _ _ _ _ _ _ G ha f1 (lv_sub hl [0, 1, 2, 3] rfl)
    · rw [if_neg hc] at h
      refine lv_aload_n C.1 C.2.1 dX6_isLike_93 rfl (lv_at hl 0 rfl) ?_
      refine cg_6_18 C G ha dX6_isLike_94 (fun t_22 => ?_)
      refine lv_iload_n C.1 C.2.1 dX6_isLike_97 rfl (lv_at hl 3 rfl) ?_
      obtain ⟨hi, h_23⟩ := ix_some h
      refine cl_iald C G t_22 hi dX6_isLike_98 ?_
      refine cl_aload_n C.1 C.2.1 dX6_isLike_99 rfl (lv_at hl 1 rfl) ?_
      obtain ⟨a_24, rfl, h_26⟩ := nn_some h_23
      have t_25 := f1 _ rfl
      refine cg_6_18 C G t_25 dX6_isLike_100 (fun t_27 => ?_)
      refine lv_iload_n C.1 C.2.1 dX6_isLike_103 rfl (lv_at hl 3 rfl) ?_
      obtain ⟨hi, h_28⟩ := ix_some h_26
      refine cl_iald C G t_27 hi dX6_isLike_104 ?_
      refine lv_icmp_ne (tgt := 127) C.1 C.2.1 dX6_isLike_105 (by decide) (fun hc => ?_) (fun hc => ?_)
      · rw [if_neg hc] at h_28
        exact wc_X6_isLike_127i81 C h_28 hP G ha (cl_RTs t_25) (lv_sub hl [0, 1, 3] rfl)
      · rw [if_pos hc] at h_28
        refine lv_aload_n C.1 C.2.1 dX6_isLike_108 rfl (lv_at hl 0 rfl) ?_
        refine cg_6_24 C G ha dX6_isLike_109 (fun t_33 => ?_)
        refine lv_iload_n C.1 C.2.1 dX6_isLike_112 rfl (lv_at hl 3 rfl) ?_
        obtain ⟨hi, h_34⟩ := ix_some h_28
        refine cl_aald C G t_33 (by decide) (by decide) rfl hi dX6_isLike_113 (fun t_35 => ?_)
        refine vt_r (K := 25) t_35 h_34 (fun r_36 t_37 h_38 => ?_)
        refine lv_aload_n C.1 C.2.1 dX6_isLike_114 rfl (lv_at hl 1 rfl) ?_
        refine cg_6_24 C G t_25 dX6_isLike_115 (fun t_39 => ?_)
        refine lv_iload_n C.1 C.2.1 dX6_isLike_118 rfl (lv_at hl 3 rfl) ?_
        obtain ⟨hi, h_40⟩ := ix_some h_38
        refine cl_aald C G t_39 (by decide) (by decide) rfl hi dX6_isLike_119 (fun t_41 => ?_)
        refine vt_r (K := 25) t_41 h_40 (fun r_42 t_43 h_44 => ?_)
        refine cl_acmp_ne (rx := r_36) (ry := r_42) (tgt := 127) C.1 C.2.1 dX6_isLike_120 (by decide) (fun hc => ?_) (fun hc => ?_)
        · rw [if_neg hc] at h_44
          exact wc_X6_isLike_127i81 C h_44 hP G ha (cl_RTs t_25) (lv_sub hl [0, 1, 3] rfl)
        · rw [if_pos hc] at h_44
          refine lv_iconst (v := (1:Int32)) C.1 C.2.1 dX6_isLike_123 (by decide) ?_
          refine lv_goto (tgt := 128) C.1 C.2.1 dX6_isLike_124 (by decide) ?_
          exact wc_X6_isLike_128i81 C h_44 hP G ha (cl_RTs t_25) (lv_sub hl [0, 1, 3] rfl)
noncomputable def bc_X6_isLike_79 (a : Nat) (x1 : (Option Nat)) (x2 : Int32) (σ : cl_S) : Option (Int32 × cl_S) := bc_X6_isLike_81 a x1 x2 (0:Int32) σ
set_option maxHeartbeats 4000000 in
theorem wc_X6_isLike_79 (C : cl_C D p s m args meth c cX6_isLike 4 (some .boolean) RX6) {r : Int32} {a : Nat} {x1 : (Option Nat)} {x2 : Int32} {σ0 σ σ' : cl_S} {T : Nat → Nat × Nat} {H : Heap} {locs : List Loc} {ls : Array Slot} {cells slots : Nat} (h : bc_X6_isLike_79 a x1 x2 σ = some (r, σ')) (G : cl_G true D c0 ({ frames := 0, cells := σ0.2.2.2.2.2.1, slots := σ0.2.2.2.2.2.2, locals := 0 }) s σ0.2.2.2.1 T σ H locs cells slots) (ha : (T a).1 = 22) (f1 : cl_RT T x1 22) (hl : lv_has ls 4 [(0, .ref (c0 + a)), (1, cl_rf c0 x1), (2, .int x2)]) : W p l e ({ frames := 0, cells := σ0.2.2.2.2.2.1, slots := σ0.2.2.2.2.2.2, locals := 0 }) s m args below meth c H locs cells slots (MQ below (cl_Q true D c0 (some (.int r)) cl_no σ0 σ') args s (σ0.2.2.2.2.2.1 - σ'.2.2.2.2.2.1) (σ0.2.2.2.2.2.2 - σ'.2.2.2.2.2.2) (cl_A c0 σ0.2.2.2.1 s.heap.size)) (F0 m 79 ls []) := by
  unfold bc_X6_isLike_79 at h
  refine lv_iconst (v := (0:Int32)) C.1 C.2.1 dX6_isLike_79 (by decide) ?_
  refine lv_istore_n (lv' := [(3, .int (0:Int32)), (0, .ref (c0 + a)), (1, cl_rf c0 x1), (2, .int x2)]) C.1 C.2.1 dX6_isLike_80 rfl hl (by decide) (by first | rfl | (cases x1 <;> rfl)) (fun ls hl_21 => ?_)
  exact wc_X6_isLike_81 C h G ha f1 (lv_sub hl_21 [1, 2, 3, 0] rfl)
noncomputable def ec_X6_isLike_36 (a : Nat) (x1 : (Option Nat)) (x2 : Int32) (x3 : Int32) (σ : cl_S) : Option (Int32 × cl_S) := bc_X6_isLike_79 a x1 x2 σ
noncomputable def bc_X6_isLike_36 (a : Nat) (x1 : (Option Nat)) (x2 : Int32) (x3 : Int32) (σ : cl_S) : Option (Int32 × cl_S) := (lp (fun z : (Int32 × Int32 × cl_S) => lc_X6_isLike_36 a x1 z.1 z.2.1 z.2.2) (x2, x3, σ)).bind (fun z => ec_X6_isLike_36 a x1 z.1 z.2.1 z.2.2)
set_option maxHeartbeats 4000000 in
theorem wc_X6_isLike_36 (C : cl_C D p s m args meth c cX6_isLike 4 (some .boolean) RX6) {r : Int32} {a : Nat} {x1 : (Option Nat)} {x2 : Int32} {x3 : Int32} {σ0 σ σ' : cl_S} {T : Nat → Nat × Nat} {H : Heap} {locs : List Loc} {ls : Array Slot} {cells slots : Nat} (h : bc_X6_isLike_36 a x1 x2 x3 σ = some (r, σ')) (G : cl_G true D c0 ({ frames := 0, cells := σ0.2.2.2.2.2.1, slots := σ0.2.2.2.2.2.2, locals := 0 }) s σ0.2.2.2.1 T σ H locs cells slots) (ha : (T a).1 = 22) (f1 : cl_RT T x1 22) (hl : lv_has ls 4 [(0, .ref (c0 + a)), (1, cl_rf c0 x1), (2, .int x2), (3, .int x3)]) : W p l e ({ frames := 0, cells := σ0.2.2.2.2.2.1, slots := σ0.2.2.2.2.2.2, locals := 0 }) s m args below meth c H locs cells slots (MQ below (cl_Q true D c0 (some (.int r)) cl_no σ0 σ') args s (σ0.2.2.2.2.2.1 - σ'.2.2.2.2.2.1) (σ0.2.2.2.2.2.2 - σ'.2.2.2.2.2.2) (cl_A c0 σ0.2.2.2.1 s.heap.size)) (F0 m 36 ls []) := by
  unfold bc_X6_isLike_36 at h
  obtain ⟨y, hy, h⟩ := bd_some h
  have hE : (fun z : (Int32 × Int32 × cl_S) => ∀ (T : Nat → Nat × Nat) (H : Heap) (locs : List Loc) (ls : Array Slot) (cells slots : Nat), cl_G true D c0 ({ frames := 0, cells := σ0.2.2.2.2.2.1, slots := σ0.2.2.2.2.2.2, locals := 0 }) s σ0.2.2.2.1 T z.2.2 H locs cells slots → (T a).1 = 22 → cl_RT T x1 22 → lv_has ls 4 [(0, .ref (c0 + a)), (1, cl_rf c0 x1), (2, .int (z.1)), (3, .int (z.2.1))] → W p l e ({ frames := 0, cells := σ0.2.2.2.2.2.1, slots := σ0.2.2.2.2.2.2, locals := 0 }) s m args below meth c H locs cells slots (MQ below (cl_Q true D c0 (some (.int r)) cl_no σ0 σ') args s (σ0.2.2.2.2.2.1 - σ'.2.2.2.2.2.1) (σ0.2.2.2.2.2.2 - σ'.2.2.2.2.2.2) (cl_A c0 σ0.2.2.2.1 s.heap.size)) (F0 m 79 ls [])) y := by
    clear hy G ha f1 hl
    intro T H locs ls cells slots G ha f1 hl
    obtain ⟨x2, x3, σ⟩ := y
    dsimp only at h G ha f1 hl
    unfold ec_X6_isLike_36 at h
    exact wc_X6_isLike_79 C h G ha f1 (lv_sub hl [0, 1, 2] rfl)
  refine lp_recE (fun z : (Int32 × Int32 × cl_S) => ∀ (T : Nat → Nat × Nat) (H : Heap) (locs : List Loc) (ls : Array Slot) (cells slots : Nat), cl_G true D c0 ({ frames := 0, cells := σ0.2.2.2.2.2.1, slots := σ0.2.2.2.2.2.2, locals := 0 }) s σ0.2.2.2.1 T z.2.2 H locs cells slots → (T a).1 = 22 → cl_RT T x1 22 → lv_has ls 4 [(0, .ref (c0 + a)), (1, cl_rf c0 x1), (2, .int (z.1)), (3, .int (z.2.1))] → W p l e ({ frames := 0, cells := σ0.2.2.2.2.2.1, slots := σ0.2.2.2.2.2.2, locals := 0 }) s m args below meth c H locs cells slots (MQ below (cl_Q true D c0 (some (.int r)) cl_no σ0 σ') args s (σ0.2.2.2.2.2.1 - σ'.2.2.2.2.2.1) (σ0.2.2.2.2.2.2 - σ'.2.2.2.2.2.2) (cl_A c0 σ0.2.2.2.1 s.heap.size)) (F0 m 36 ls [])) (fun z : (Int32 × Int32 × cl_S) => ∀ (T : Nat → Nat × Nat) (H : Heap) (locs : List Loc) (ls : Array Slot) (cells slots : Nat), cl_G true D c0 ({ frames := 0, cells := σ0.2.2.2.2.2.1, slots := σ0.2.2.2.2.2.2, locals := 0 }) s σ0.2.2.2.1 T z.2.2 H locs cells slots → (T a).1 = 22 → cl_RT T x1 22 → lv_has ls 4 [(0, .ref (c0 + a)), (1, cl_rf c0 x1), (2, .int (z.1)), (3, .int (z.2.1))] → W p l e ({ frames := 0, cells := σ0.2.2.2.2.2.1, slots := σ0.2.2.2.2.2.2, locals := 0 }) s m args below meth c H locs cells slots (MQ below (cl_Q true D c0 (some (.int r)) cl_no σ0 σ') args s (σ0.2.2.2.2.2.1 - σ'.2.2.2.2.2.1) (σ0.2.2.2.2.2.2 - σ'.2.2.2.2.2.2) (cl_A c0 σ0.2.2.2.1 s.heap.size)) (F0 m 79 ls [])) ?_ _ _ hy hE _ _ _ _ _ _ G ha f1 hl
  clear hE hy G ha f1 hl h
  intro z o h hP T H locs ls cells slots G ha f1 hl
  obtain ⟨x2, x3, σ⟩ := z
  dsimp only at h G ha f1 hl
  unfold lc_X6_isLike_36 at h
  refine lv_iload_n C.1 C.2.1 dX6_isLike_36 rfl (lv_at hl 3 rfl) ?_
  refine lv_bipush (v := (16:Int32)) C.1 C.2.1 dX6_isLike_37 (by decide) ?_
  refine lv_icmp_ge (tgt := 79) C.1 C.2.1 dX6_isLike_39 (by decide) (fun hc => ?_) (fun hc => ?_)
  · rw [if_pos hc] at h
    cases h
    exact hP _ _ _ _ _ _ G ha f1 (lv_sub hl [0, 1, 2, 3] rfl)
  · rw [if_neg hc] at h
    refine lv_iload_n C.1 C.2.1 dX6_isLike_42 rfl (lv_at hl 2 rfl) ?_
    refine lv_if_eq (tgt := 79) C.1 C.2.1 dX6_isLike_43 (by decide) (fun hc => ?_) (fun hc => ?_)
    · rw [if_pos hc] at h
      cases h
      exact hP _ _ _ _ _ _ G ha f1 (lv_sub hl [0, 1, 2, 3] rfl)
    · rw [if_neg hc] at h
      refine lv_aload_n C.1 C.2.1 dX6_isLike_46 rfl (lv_at hl 0 rfl) ?_
      refine cg_6_12 C G ha dX6_isLike_47 (fun t_8 => ?_)
      have t_8 : (T (a + 1)).1 = 18 := by rw [t_8]
      refine cg_6_101 C G t_8 dX6_isLike_50 (fun t_9 => ?_)
      refine lv_iload_n C.1 C.2.1 dX6_isLike_53 rfl (lv_at hl 3 rfl) ?_
      obtain ⟨hi, h_10⟩ := ix_some h
      refine cl_iald C G t_9 hi dX6_isLike_54 ?_
      refine cl_aload_n C.1 C.2.1 dX6_isLike_55 rfl (lv_at hl 1 rfl) ?_
      obtain ⟨a_11, rfl, h_13⟩ := nn_some h_10
      have t_12 := f1 _ rfl
      refine cg_6_12 C G t_12 dX6_isLike_56 (fun t_14 => ?_)
      have t_14 : (T (a_11 + 1)).1 = 18 := by rw [t_14]
      refine cg_6_101 C G t_14 dX6_isLike_59 (fun t_15 => ?_)
      refine lv_iload_n C.1 C.2.1 dX6_isLike_62 rfl (lv_at hl 3 rfl) ?_
      obtain ⟨hi, h_16⟩ := ix_some h_13
      refine cl_iald C G t_15 hi dX6_isLike_63 ?_
      refine lv_icmp_ne (tgt := 71) C.1 C.2.1 dX6_isLike_64 (by decide) (fun hc => ?_) (fun hc => ?_)
      · rw [if_neg hc] at h_16
        refine lv_iconst (v := (0:Int32)) C.1 C.2.1 dX6_isLike_71 (by decide) ?_
        exact wc_X6_isLike_72i36 C h_16 hP G ha (cl_RTs t_12) (lv_sub hl [0, 1, 3] rfl)
      · rw [if_pos hc] at h_16
        refine lv_iconst (v := (1:Int32)) C.1 C.2.1 dX6_isLike_67 (by decide) ?_
        refine lv_goto (tgt := 72) C.1 C.2.1 dX6_isLike_68 (by decide) ?_
        exact wc_X6_isLike_72i36 C h_16 hP G ha (cl_RTs t_12) (lv_sub hl [0, 1, 3] rfl)
noncomputable def bc_X6_isLike_33 (a : Nat) (x1 : (Option Nat)) (v0 : Int32) (σ : cl_S) : Option (Int32 × cl_S) := bc_X6_isLike_36 a x1 v0 (0:Int32) σ
set_option maxHeartbeats 4000000 in
theorem wc_X6_isLike_33 (C : cl_C D p s m args meth c cX6_isLike 4 (some .boolean) RX6) {r : Int32} {a : Nat} {x1 : (Option Nat)} {v0 : Int32} {σ0 σ σ' : cl_S} {T : Nat → Nat × Nat} {H : Heap} {locs : List Loc} {ls : Array Slot} {cells slots : Nat} (h : bc_X6_isLike_33 a x1 v0 σ = some (r, σ')) (G : cl_G true D c0 ({ frames := 0, cells := σ0.2.2.2.2.2.1, slots := σ0.2.2.2.2.2.2, locals := 0 }) s σ0.2.2.2.1 T σ H locs cells slots) (ha : (T a).1 = 22) (f1 : cl_RT T x1 22) (hl : lv_has ls 4 [(0, .ref (c0 + a)), (1, cl_rf c0 x1)]) : W p l e ({ frames := 0, cells := σ0.2.2.2.2.2.1, slots := σ0.2.2.2.2.2.2, locals := 0 }) s m args below meth c H locs cells slots (MQ below (cl_Q true D c0 (some (.int r)) cl_no σ0 σ') args s (σ0.2.2.2.2.2.1 - σ'.2.2.2.2.2.1) (σ0.2.2.2.2.2.2 - σ'.2.2.2.2.2.2) (cl_A c0 σ0.2.2.2.1 s.heap.size)) (F0 m 33 ls [.int v0]) := by
  unfold bc_X6_isLike_33 at h
  refine lv_istore_n (lv' := [(2, .int v0), (0, .ref (c0 + a)), (1, cl_rf c0 x1)]) C.1 C.2.1 dX6_isLike_33 rfl hl (by decide) (by first | rfl | (cases x1 <;> rfl)) (fun ls hl_6 => ?_)
  refine lv_iconst (v := (0:Int32)) C.1 C.2.1 dX6_isLike_34 (by decide) ?_
  refine lv_istore_n (lv' := [(3, .int (0:Int32)), (2, .int v0), (0, .ref (c0 + a)), (1, cl_rf c0 x1)]) C.1 C.2.1 dX6_isLike_35 rfl hl_6 (by decide) (by first | rfl | (cases x1 <;> rfl)) (fun ls hl_7 => ?_)
  exact wc_X6_isLike_36 C h G ha f1 (lv_sub hl_7 [2, 3, 1, 0] rfl)
noncomputable def bc_X6_isLike_32 (a : Nat) (x1 : (Option Nat)) (σ : cl_S) : Option (Int32 × cl_S) := bc_X6_isLike_33 a x1 (0:Int32) σ
set_option maxHeartbeats 4000000 in
theorem wc_X6_isLike_32 (C : cl_C D p s m args meth c cX6_isLike 4 (some .boolean) RX6) {r : Int32} {a : Nat} {x1 : (Option Nat)} {σ0 σ σ' : cl_S} {T : Nat → Nat × Nat} {H : Heap} {locs : List Loc} {ls : Array Slot} {cells slots : Nat} (h : bc_X6_isLike_32 a x1 σ = some (r, σ')) (G : cl_G true D c0 ({ frames := 0, cells := σ0.2.2.2.2.2.1, slots := σ0.2.2.2.2.2.2, locals := 0 }) s σ0.2.2.2.1 T σ H locs cells slots) (ha : (T a).1 = 22) (f1 : cl_RT T x1 22) (hl : lv_has ls 4 [(0, .ref (c0 + a)), (1, cl_rf c0 x1)]) : W p l e ({ frames := 0, cells := σ0.2.2.2.2.2.1, slots := σ0.2.2.2.2.2.2, locals := 0 }) s m args below meth c H locs cells slots (MQ below (cl_Q true D c0 (some (.int r)) cl_no σ0 σ') args s (σ0.2.2.2.2.2.1 - σ'.2.2.2.2.2.1) (σ0.2.2.2.2.2.2 - σ'.2.2.2.2.2.2) (cl_A c0 σ0.2.2.2.1 s.heap.size)) (F0 m 32 ls []) := by
  unfold bc_X6_isLike_32 at h
  refine lv_iconst (v := (0:Int32)) C.1 C.2.1 dX6_isLike_32 (by decide) ?_
  exact wc_X6_isLike_33 C h G ha f1 (lv_sub hl [0, 1] rfl)
noncomputable def bc_X6_isLike_0 (a : Nat) (x1 : (Option Nat)) (σ : cl_S) : Option (Int32 × cl_S) := nn x1 (fun a_2 => (if (σ.1 (a + 1) 3) = (σ.1 (a_2 + 1) 3) then (if (σ.1 a 6) = (σ.1 a_2 6) then bc_X6_isLike_33 a (some a_2) (1:Int32) σ else bc_X6_isLike_32 a (some a_2) σ) else bc_X6_isLike_32 a (some a_2) σ))
set_option maxHeartbeats 4000000 in
theorem wc_X6_isLike_0 (C : cl_C D p s m args meth c cX6_isLike 4 (some .boolean) RX6) {r : Int32} {a : Nat} {x1 : (Option Nat)} {σ0 σ σ' : cl_S} {T : Nat → Nat × Nat} {H : Heap} {locs : List Loc} {ls : Array Slot} {cells slots : Nat} (h : bc_X6_isLike_0 a x1 σ = some (r, σ')) (G : cl_G true D c0 ({ frames := 0, cells := σ0.2.2.2.2.2.1, slots := σ0.2.2.2.2.2.2, locals := 0 }) s σ0.2.2.2.1 T σ H locs cells slots) (ha : (T a).1 = 22) (f1 : cl_RT T x1 22) (hl : lv_has ls 4 [(0, .ref (c0 + a)), (1, cl_rf c0 x1)]) : W p l e ({ frames := 0, cells := σ0.2.2.2.2.2.1, slots := σ0.2.2.2.2.2.2, locals := 0 }) s m args below meth c H locs cells slots (MQ below (cl_Q true D c0 (some (.int r)) cl_no σ0 σ') args s (σ0.2.2.2.2.2.1 - σ'.2.2.2.2.2.1) (σ0.2.2.2.2.2.2 - σ'.2.2.2.2.2.2) (cl_A c0 σ0.2.2.2.1 s.heap.size)) (F0 m 0 ls []) := by
  unfold bc_X6_isLike_0 at h
  refine lv_aload_n C.1 C.2.1 dX6_isLike_0 rfl (lv_at hl 0 rfl) ?_
  refine cg_6_12 C G ha dX6_isLike_1 (fun t_1 => ?_)
  have t_1 : (T (a + 1)).1 = 18 := by rw [t_1]
  refine cg_6_116 C G t_1 dX6_isLike_4 ?_
  refine cl_aload_n C.1 C.2.1 dX6_isLike_7 rfl (lv_at hl 1 rfl) ?_
  obtain ⟨a_2, rfl, h_4⟩ := nn_some h
  have t_3 := f1 _ rfl
  refine cg_6_12 C G t_3 dX6_isLike_8 (fun t_5 => ?_)
  have t_5 : (T (a_2 + 1)).1 = 18 := by rw [t_5]
  refine cg_6_116 C G t_5 dX6_isLike_11 ?_
  refine lv_icmp_ne (tgt := 32) C.1 C.2.1 dX6_isLike_14 (by decide) (fun hc => ?_) (fun hc => ?_)
  · rw [if_neg hc] at h_4
    exact wc_X6_isLike_32 C h_4 G ha (cl_RTs t_3) (lv_sub hl [0, 1] rfl)
  · rw [if_pos hc] at h_4
    refine lv_aload_n C.1 C.2.1 dX6_isLike_17 rfl (lv_at hl 0 rfl) ?_
    refine cg_6_76 C G ha dX6_isLike_18 ?_
    refine lv_aload_n C.1 C.2.1 dX6_isLike_21 rfl (lv_at hl 1 rfl) ?_
    refine cg_6_76 C G t_3 dX6_isLike_22 ?_
    refine lv_icmp_ne (tgt := 32) C.1 C.2.1 dX6_isLike_25 (by decide) (fun hc => ?_) (fun hc => ?_)
    · rw [if_neg hc] at h_4
      exact wc_X6_isLike_32 C h_4 G ha (cl_RTs t_3) (lv_sub hl [0, 1] rfl)
    · rw [if_pos hc] at h_4
      refine lv_iconst (v := (1:Int32)) C.1 C.2.1 dX6_isLike_28 (by decide) ?_
      refine lv_goto (tgt := 33) C.1 C.2.1 dX6_isLike_29 (by decide) ?_
      exact wc_X6_isLike_33 C h_4 G ha (cl_RTs t_3) (lv_sub hl [0, 1] rfl)
noncomputable def fc_X6_isLike (a : Nat) (x1 : (Option Nat)) (σ : cl_S) : Option (Int32 × cl_S) := bc_X6_isLike_0 a x1 σ
theorem kc_X6_isLike (l : Launch) (D : cl_D) (c0 : Nat) {r : Int32} {a : Nat} {x1 : (Option Nat)} {σ σ' : cl_S} (ha : (σ.2.2.2.1 a).1 = 22) (h : fc_X6_isLike a x1 σ = some (r, σ')) (f1 : cl_RT σ.2.2.2.1 x1 22) : cl_Met true l D c0 yX6_isLike cX6_isLike 4 (some .boolean) 0 0 [.ref (c0 + a), cl_rf c0 x1] σ (some (.int r)) cl_no σ' :=
  by cases x1 <;> exact cl_of (by decide) (Nat.le_of_ble_eq_true rfl) (fun p e s m args below meth c ls C hn G hl => wc_X6_isLike_0 C h G ha f1 hl)
abbrev cX7_reach : ByteArray := prog_9_method_3_code
def yX7_reach : MethodName := ⟨RX7, "reach", "(I)V"⟩
theorem dX7_reach_0 : decode cX7_reach 0 = .ok (.iload_n 1, 1) := by decide +kernel
theorem dX7_reach_1 : decode cX7_reach 1 = .ok (.ifCond .lt 11, 3) := by decide +kernel
theorem dX7_reach_4 : decode cX7_reach 4 = .ok (.iload_n 1, 1) := by decide +kernel
theorem dX7_reach_5 : decode cX7_reach 5 = .ok (.aload_n 0, 1) := by decide +kernel
theorem dX7_reach_6 : decode cX7_reach 6 = .ok (.getfield 20, 3) := by decide +kernel
theorem dX7_reach_9 : decode cX7_reach 9 = .ok (.if_icmp .lt 22, 3) := by decide +kernel
theorem dX7_reach_12 : decode cX7_reach 12 = .ok (.aload_n 0, 1) := by decide +kernel
theorem dX7_reach_13 : decode cX7_reach 13 = .ok (.aload_n 0, 1) := by decide +kernel
theorem dX7_reach_14 : decode cX7_reach 14 = .ok (.getfield 25, 3) := by decide +kernel
theorem dX7_reach_17 : decode cX7_reach 17 = .ok (.iload_n 1, 1) := by decide +kernel
theorem dX7_reach_18 : decode cX7_reach 18 = .ok (.iconst 0, 1) := by decide +kernel
theorem dX7_reach_19 : decode cX7_reach 19 = .ok (.invokestatic 49, 3) := by decide +kernel
theorem dX7_reach_22 : decode cX7_reach 22 = .ok (.invokestatic 55, 3) := by decide +kernel
theorem dX7_reach_25 : decode cX7_reach 25 = .ok (.putfield 25, 3) := by decide +kernel
theorem dX7_reach_28 : decode cX7_reach 28 = .ok (.goto 39, 3) := by decide +kernel
theorem dX7_reach_31 : decode cX7_reach 31 = .ok (.aload_n 0, 1) := by decide +kernel
theorem dX7_reach_32 : decode cX7_reach 32 = .ok (.getfield 11, 3) := by decide +kernel
theorem dX7_reach_35 : decode cX7_reach 35 = .ok (.iload_n 1, 1) := by decide +kernel
theorem dX7_reach_36 : decode cX7_reach 36 = .ok (.iaload, 1) := by decide +kernel
theorem dX7_reach_37 : decode cX7_reach 37 = .ok (.ifCond .ne 30, 3) := by decide +kernel
theorem dX7_reach_40 : decode cX7_reach 40 = .ok (.aload_n 0, 1) := by decide +kernel
theorem dX7_reach_41 : decode cX7_reach 41 = .ok (.getfield 11, 3) := by decide +kernel
theorem dX7_reach_44 : decode cX7_reach 44 = .ok (.iload_n 1, 1) := by decide +kernel
theorem dX7_reach_45 : decode cX7_reach 45 = .ok (.iconst 1, 1) := by decide +kernel
theorem dX7_reach_46 : decode cX7_reach 46 = .ok (.iastore, 1) := by decide +kernel
theorem dX7_reach_47 : decode cX7_reach 47 = .ok (.aload_n 0, 1) := by decide +kernel
theorem dX7_reach_48 : decode cX7_reach 48 = .ok (.getfield 17, 3) := by decide +kernel
theorem dX7_reach_51 : decode cX7_reach 51 = .ok (.aload_n 0, 1) := by decide +kernel
theorem dX7_reach_52 : decode cX7_reach 52 = .ok (.getfield 28, 3) := by decide +kernel
theorem dX7_reach_55 : decode cX7_reach 55 = .ok (.iload_n 1, 1) := by decide +kernel
theorem dX7_reach_56 : decode cX7_reach 56 = .ok (.iastore, 1) := by decide +kernel
theorem dX7_reach_57 : decode cX7_reach 57 = .ok (.aload_n 0, 1) := by decide +kernel
theorem dX7_reach_58 : decode cX7_reach 58 = .ok (.dup, 1) := by decide +kernel
theorem dX7_reach_59 : decode cX7_reach 59 = .ok (.getfield 28, 3) := by decide +kernel
theorem dX7_reach_62 : decode cX7_reach 62 = .ok (.iconst 1, 1) := by decide +kernel
theorem dX7_reach_63 : decode cX7_reach 63 = .ok (.iadd, 1) := by decide +kernel
theorem dX7_reach_64 : decode cX7_reach 64 = .ok (.putfield 28, 3) := by decide +kernel
theorem dX7_reach_67 : decode cX7_reach 67 = .ok (.return_, 1) := by decide +kernel
theorem cc_X7_reach : Cond.code yX7_reach cX7_reach 2 none ∈ rf_tb := rf_at 981 (by decide +kernel) (by decide +kernel)
theorem mw_RX7_49 : Cond.methodLink RX7 49 Lib.Math.max.name ∈ rf_tb := rf_at 982 (by decide +kernel) (by decide +kernel)
theorem mw_max_s : Cond.static Lib.Math.max.name ∈ rf_tb := rf_at 983 (by decide +kernel) (by decide +kernel)
theorem mw_max_c : Cond.code Lib.Math.max.name Lib.Math.max.code 2 (some .int) ∈ rf_tb := rf_at 984 (by decide +kernel) (by decide +kernel)
theorem mw_RX7_55 : Cond.methodLink RX7 55 Lib.Math.min.name ∈ rf_tb := rf_at 985 (by decide +kernel) (by decide +kernel)
noncomputable def bc_X7_reach_12 (a : Nat) (x1 : Int32) (σ : cl_S) : Option (cl_S) := vl (cl_w σ a 4 (if (if x1 < (0:Int32) then (0:Int32) else x1) < (σ.1 a 4) then (if x1 < (0:Int32) then (0:Int32) else x1) else (σ.1 a 4))) (fun σ_1 => some σ_1)
set_option maxHeartbeats 4000000 in
theorem wc_X7_reach_12 (C : cl_C D p s m args meth c cX7_reach 2 none RX7) {a : Nat} {x1 : Int32} {σ0 σ σ' : cl_S} {T : Nat → Nat × Nat} {H : Heap} {locs : List Loc} {ls : Array Slot} {cells slots : Nat} (h : bc_X7_reach_12 a x1 σ = some σ') (G : cl_G true D c0 ({ frames := 1, cells := σ0.2.2.2.2.2.1, slots := σ0.2.2.2.2.2.2, locals := 21 }) s σ0.2.2.2.1 T σ H locs cells slots) (ha : (T a).1 = 23) (hl : lv_has ls 2 [(0, .ref (c0 + a)), (1, .int x1)]) : W p l e ({ frames := 1, cells := σ0.2.2.2.2.2.1, slots := σ0.2.2.2.2.2.2, locals := 21 }) s m args below meth c H locs cells slots (MQ below (cl_Q true D c0 none cl_no σ0 σ') args s (σ0.2.2.2.2.2.1 - σ'.2.2.2.2.2.1) (σ0.2.2.2.2.2.2 - σ'.2.2.2.2.2.2) (cl_A c0 σ0.2.2.2.1 s.heap.size)) (F0 m 12 ls []) := by
  unfold bc_X7_reach_12 at h
  refine lv_aload_n C.1 C.2.1 dX7_reach_12 rfl (lv_at hl 0 rfl) ?_
  refine lv_aload_n C.1 C.2.1 dX7_reach_13 rfl (lv_at hl 0 rfl) ?_
  refine cg_7_25 C G ha dX7_reach_14 ?_
  refine lv_iload_n C.1 C.2.1 dX7_reach_17 rfl (lv_at hl 1 rfl) ?_
  refine lv_iconst (v := (0:Int32)) C.1 C.2.1 dX7_reach_18 (by decide) ?_
  refine va_mmax C.1 C.2.1 (C.2.2.1.trans hl.1.symm) C.2.2.2.1 (C.2.2.2.2.1 _ mw_RX7_49) (C.2.2.2.2.1 _ mw_max_s) (C.2.2.2.2.1 _ mw_Math_i) (C.2.2.2.2.1 _ mw_max_c) (Nat.le_of_ble_eq_true rfl) (Nat.le_of_ble_eq_true rfl) (cl_le1 G) (cl_le2 G) dX7_reach_19 ?_
  refine va_mmin C.1 C.2.1 (C.2.2.1.trans hl.1.symm) C.2.2.2.1 (C.2.2.2.2.1 _ mw_RX7_55) (C.2.2.2.2.1 _ mw_min_s) (C.2.2.2.2.1 _ mw_Math_i) (C.2.2.2.2.1 _ mw_min_c) (Nat.le_of_ble_eq_true rfl) (Nat.le_of_ble_eq_true rfl) (cl_le1 G) (cl_le2 G) dX7_reach_22 ?_
  refine cp_7_25 C G ha dX7_reach_25 (fun H locs G_2 => ?_)
  refine cl_nm G_2 h (fun σ_1 G_3 h_4 => ?_)
  refine lv_goto (tgt := 67) C.1 C.2.1 dX7_reach_28 (by decide) ?_
  exact cl_vret ⟨rfl, rfl⟩ rfl C G_3 h_4 dX7_reach_67
noncomputable def bc_X7_reach_0 (a : Nat) (x1 : Int32) (σ : cl_S) : Option (cl_S) := (if x1 < 0 then bc_X7_reach_12 a x1 σ else (if x1 < (σ.1 a 3) then ix x1 2048 ((if (σ.1 (a + 1) x1.toNatClampNeg) = 0 then ix x1 2048 (vl (cl_w σ (a + 1) x1.toNatClampNeg (1:Int32)) (fun σ_8 => ix (σ_8.1 a 2) 2048 (vl (cl_w σ_8 (a + 2) (σ_8.1 a 2).toNatClampNeg x1) (fun σ_14 => vl (cl_w σ_14 a 2 ((σ_14.1 a 2) + (1:Int32))) (fun σ_19 => some σ_19))))) else some σ)) else bc_X7_reach_12 a x1 σ))
set_option maxHeartbeats 4000000 in
theorem wc_X7_reach_0 (C : cl_C D p s m args meth c cX7_reach 2 none RX7) {a : Nat} {x1 : Int32} {σ0 σ σ' : cl_S} {T : Nat → Nat × Nat} {H : Heap} {locs : List Loc} {ls : Array Slot} {cells slots : Nat} (h : bc_X7_reach_0 a x1 σ = some σ') (G : cl_G true D c0 ({ frames := 1, cells := σ0.2.2.2.2.2.1, slots := σ0.2.2.2.2.2.2, locals := 21 }) s σ0.2.2.2.1 T σ H locs cells slots) (ha : (T a).1 = 23) (hl : lv_has ls 2 [(0, .ref (c0 + a)), (1, .int x1)]) : W p l e ({ frames := 1, cells := σ0.2.2.2.2.2.1, slots := σ0.2.2.2.2.2.2, locals := 21 }) s m args below meth c H locs cells slots (MQ below (cl_Q true D c0 none cl_no σ0 σ') args s (σ0.2.2.2.2.2.1 - σ'.2.2.2.2.2.1) (σ0.2.2.2.2.2.2 - σ'.2.2.2.2.2.2) (cl_A c0 σ0.2.2.2.1 s.heap.size)) (F0 m 0 ls []) := by
  unfold bc_X7_reach_0 at h
  refine lv_iload_n C.1 C.2.1 dX7_reach_0 rfl (lv_at hl 1 rfl) ?_
  refine lv_if_lt (tgt := 12) C.1 C.2.1 dX7_reach_1 (by decide) (fun hc => ?_) (fun hc => ?_)
  · rw [if_pos hc] at h
    exact wc_X7_reach_12 C h G ha (lv_sub hl [0, 1] rfl)
  · rw [if_neg hc] at h
    refine lv_iload_n C.1 C.2.1 dX7_reach_4 rfl (lv_at hl 1 rfl) ?_
    refine lv_aload_n C.1 C.2.1 dX7_reach_5 rfl (lv_at hl 0 rfl) ?_
    refine cg_7_20 C G ha dX7_reach_6 ?_
    refine lv_icmp_lt (tgt := 31) C.1 C.2.1 dX7_reach_9 (by decide) (fun hc => ?_) (fun hc => ?_)
    · rw [if_pos hc] at h
      refine lv_aload_n C.1 C.2.1 dX7_reach_31 rfl (lv_at hl 0 rfl) ?_
      refine cg_7_11 C G ha dX7_reach_32 (fun t_5 => ?_)
      refine lv_iload_n C.1 C.2.1 dX7_reach_35 rfl (lv_at hl 1 rfl) ?_
      obtain ⟨hi, h_6⟩ := ix_some h
      refine cl_iald C G t_5 hi dX7_reach_36 ?_
      refine lv_if_ne (tgt := 67) C.1 C.2.1 dX7_reach_37 (by decide) (fun hc => ?_) (fun hc => ?_)
      · rw [if_neg hc] at h_6
        exact cl_vret ⟨rfl, rfl⟩ rfl C G h_6 dX7_reach_67
      · rw [if_pos hc] at h_6
        refine lv_aload_n C.1 C.2.1 dX7_reach_40 rfl (lv_at hl 0 rfl) ?_
        refine cg_7_11 C G ha dX7_reach_41 (fun t_7 => ?_)
        refine lv_iload_n C.1 C.2.1 dX7_reach_44 rfl (lv_at hl 1 rfl) ?_
        refine lv_iconst (v := (1:Int32)) C.1 C.2.1 dX7_reach_45 (by decide) ?_
        obtain ⟨hi, h_9⟩ := ix_some h_6
        refine cl_iast C G t_7 hi dX7_reach_46 (fun H locs G_10 => ?_)
        refine cl_nm G_10 h_9 (fun σ_8 G_11 h_12 => ?_)
        refine lv_aload_n C.1 C.2.1 dX7_reach_47 rfl (lv_at hl 0 rfl) ?_
        refine cg_7_17 C G_11 ha dX7_reach_48 (fun t_13 => ?_)
        refine lv_aload_n C.1 C.2.1 dX7_reach_51 rfl (lv_at hl 0 rfl) ?_
        refine cg_7_28 C G_11 ha dX7_reach_52 ?_
        refine lv_iload_n C.1 C.2.1 dX7_reach_55 rfl (lv_at hl 1 rfl) ?_
        obtain ⟨hi, h_15⟩ := ix_some h_12
        refine cl_iast C G_11 t_13 hi dX7_reach_56 (fun H locs G_16 => ?_)
        refine cl_nm G_16 h_15 (fun σ_14 G_17 h_18 => ?_)
        refine lv_aload_n C.1 C.2.1 dX7_reach_57 rfl (lv_at hl 0 rfl) ?_
        refine lv_dup C.1 C.2.1 dX7_reach_58 rfl ?_
        refine cg_7_28 C G_17 ha dX7_reach_59 ?_
        refine lv_iconst (v := (1:Int32)) C.1 C.2.1 dX7_reach_62 (by decide) ?_
        refine lv_iadd C.1 C.2.1 dX7_reach_63 ?_
        refine cp_7_28 C G_17 ha dX7_reach_64 (fun H locs G_20 => ?_)
        refine cl_nm G_20 h_18 (fun σ_19 G_21 h_22 => ?_)
        exact cl_vret ⟨rfl, rfl⟩ rfl C G_21 h_22 dX7_reach_67
    · rw [if_neg hc] at h
      exact wc_X7_reach_12 C h G ha (lv_sub hl [0, 1] rfl)
noncomputable def fc_X7_reach (a : Nat) (x1 : Int32) (σ : cl_S) : Option (cl_S) := bc_X7_reach_0 a x1 σ
theorem kc_X7_reach (l : Launch) (D : cl_D) (c0 : Nat) {a : Nat} {x1 : Int32} {σ σ' : cl_S} (ha : (σ.2.2.2.1 a).1 = 23) (h : fc_X7_reach a x1 σ = some σ') : cl_Met true l D c0 yX7_reach cX7_reach 2 none 1 21 [.ref (c0 + a), .int x1] σ none cl_no σ' :=
  cl_of (by decide) (Nat.le_of_ble_eq_true rfl) (fun p e s m args below meth c ls C hn G hl => wc_X7_reach_0 C h G ha hl)
abbrev cX7_follow : ByteArray := prog_9_method_4_code
def yX7_follow : MethodName := ⟨RX7, "follow", "(I[I)V"⟩
theorem dX7_follow_0 : decode cX7_follow 0 = .ok (.aload_n 2, 1) := by decide +kernel
theorem dX7_follow_1 : decode cX7_follow 1 = .ok (.iload_n 1, 1) := by decide +kernel
theorem dX7_follow_2 : decode cX7_follow 2 = .ok (.iaload, 1) := by decide +kernel
theorem dX7_follow_3 : decode cX7_follow 3 = .ok (.bipush 26, 2) := by decide +kernel
theorem dX7_follow_5 : decode cX7_follow 5 = .ok (.iushr, 1) := by decide +kernel
theorem dX7_follow_6 : decode cX7_follow 6 = .ok (.istore_n 3, 1) := by decide +kernel
theorem dX7_follow_7 : decode cX7_follow 7 = .ok (.iload_n 1, 1) := by decide +kernel
theorem dX7_follow_8 : decode cX7_follow 8 = .ok (.aload_n 2, 1) := by decide +kernel
theorem dX7_follow_9 : decode cX7_follow 9 = .ok (.iload_n 1, 1) := by decide +kernel
theorem dX7_follow_10 : decode cX7_follow 10 = .ok (.iaload, 1) := by decide +kernel
theorem dX7_follow_11 : decode cX7_follow 11 = .ok (.bipush 14, 2) := by decide +kernel
theorem dX7_follow_13 : decode cX7_follow 13 = .ok (.ishl, 1) := by decide +kernel
theorem dX7_follow_14 : decode cX7_follow 14 = .ok (.bipush 14, 2) := by decide +kernel
theorem dX7_follow_16 : decode cX7_follow 16 = .ok (.ishr, 1) := by decide +kernel
theorem dX7_follow_17 : decode cX7_follow 17 = .ok (.iadd, 1) := by decide +kernel
theorem dX7_follow_18 : decode cX7_follow 18 = .ok (.istore 4, 2) := by decide +kernel
theorem dX7_follow_20 : decode cX7_follow 20 = .ok (.iload_n 3, 1) := by decide +kernel
theorem dX7_follow_21 : decode cX7_follow 21 = .ok (.bipush 36, 2) := by decide +kernel
theorem dX7_follow_23 : decode cX7_follow 23 = .ok (.if_icmp .eq 10, 3) := by decide +kernel
theorem dX7_follow_26 : decode cX7_follow 26 = .ok (.aload_n 0, 1) := by decide +kernel
theorem dX7_follow_27 : decode cX7_follow 27 = .ok (.iload_n 1, 1) := by decide +kernel
theorem dX7_follow_28 : decode cX7_follow 28 = .ok (.iconst 1, 1) := by decide +kernel
theorem dX7_follow_29 : decode cX7_follow 29 = .ok (.iadd, 1) := by decide +kernel
theorem dX7_follow_30 : decode cX7_follow 30 = .ok (.invokevirtual 37, 3) := by decide +kernel
theorem dX7_follow_33 : decode cX7_follow 33 = .ok (.iload_n 3, 1) := by decide +kernel
theorem dX7_follow_34 : decode cX7_follow 34 = .ok (.bipush 30, 2) := by decide +kernel
theorem dX7_follow_36 : decode cX7_follow 36 = .ok (.if_icmp .lt 15, 3) := by decide +kernel
theorem dX7_follow_39 : decode cX7_follow 39 = .ok (.iload_n 3, 1) := by decide +kernel
theorem dX7_follow_40 : decode cX7_follow 40 = .ok (.bipush 36, 2) := by decide +kernel
theorem dX7_follow_42 : decode cX7_follow 42 = .ok (.if_icmp .gt 9, 3) := by decide +kernel
theorem dX7_follow_45 : decode cX7_follow 45 = .ok (.aload_n 0, 1) := by decide +kernel
theorem dX7_follow_46 : decode cX7_follow 46 = .ok (.iload 4, 2) := by decide +kernel
theorem dX7_follow_48 : decode cX7_follow 48 = .ok (.invokevirtual 37, 3) := by decide +kernel
theorem dX7_follow_51 : decode cX7_follow 51 = .ok (.return_, 1) := by decide +kernel
theorem cc_X7_follow : Cond.code yX7_follow cX7_follow 5 none ∈ rf_tb := rf_at 991 (by decide +kernel) (by decide +kernel)
theorem cw_RX7_37 : cl_wV RX7 RX7 yX7_reach cX7_reach 2 none 37 1 := ⟨⟨rf_at 978 (by decide +kernel) (by decide +kernel), rf_at 980 (by decide +kernel) (by decide +kernel), rf_sel (q := (yX7_reach, 5)) 26 (by decide +kernel) (by decide +kernel), cc_X7_reach, rf_at 8 (by decide +kernel) (by decide +kernel)⟩, ⟨by decide, by decide, by decide +kernel⟩⟩
noncomputable def bc_X7_follow_33 (a : Nat) (x3 : Int32) (x4 : Int32) (σ : cl_S) : Option (cl_S) := (if x3 < (30:Int32) then some σ else (if (36:Int32) < x3 then some σ else bd1 (fc_X7_reach a x4 σ) (fun σ_14 => some σ_14)))
set_option maxHeartbeats 4000000 in
theorem wc_X7_follow_33 (C : cl_C D p s m args meth c cX7_follow 5 none RX7) {a : Nat} {x3 : Int32} {x4 : Int32} {σ0 σ σ' : cl_S} {T : Nat → Nat × Nat} {H : Heap} {locs : List Loc} {ls : Array Slot} {cells slots : Nat} (h : bc_X7_follow_33 a x3 x4 σ = some σ') (G : cl_G true D c0 ({ frames := 2, cells := σ0.2.2.2.2.2.1, slots := σ0.2.2.2.2.2.2, locals := 42 }) s σ0.2.2.2.1 T σ H locs cells slots) (ha : (T a).1 = 23) (hl : lv_has ls 5 [(0, .ref (c0 + a)), (3, .int x3), (4, .int x4)]) : W p l e ({ frames := 2, cells := σ0.2.2.2.2.2.1, slots := σ0.2.2.2.2.2.2, locals := 42 }) s m args below meth c H locs cells slots (MQ below (cl_Q true D c0 none cl_no σ0 σ') args s (σ0.2.2.2.2.2.1 - σ'.2.2.2.2.2.1) (σ0.2.2.2.2.2.2 - σ'.2.2.2.2.2.2) (cl_A c0 σ0.2.2.2.1 s.heap.size)) (F0 m 33 ls []) := by
  unfold bc_X7_follow_33 at h
  refine lv_iload_n C.1 C.2.1 dX7_follow_33 rfl (lv_at hl 1 rfl) ?_
  refine lv_bipush (v := (30:Int32)) C.1 C.2.1 dX7_follow_34 (by decide) ?_
  refine lv_icmp_lt (tgt := 51) C.1 C.2.1 dX7_follow_36 (by decide) (fun hc => ?_) (fun hc => ?_)
  · rw [if_pos hc] at h
    exact cl_vret ⟨rfl, rfl⟩ rfl C G h dX7_follow_51
  · rw [if_neg hc] at h
    refine lv_iload_n C.1 C.2.1 dX7_follow_39 rfl (lv_at hl 1 rfl) ?_
    refine lv_bipush (v := (36:Int32)) C.1 C.2.1 dX7_follow_40 (by decide) ?_
    refine lv_icmp_gt (tgt := 51) C.1 C.2.1 dX7_follow_42 (by decide) (fun hc => ?_) (fun hc => ?_)
    · rw [if_pos hc] at h
      exact cl_vret ⟨rfl, rfl⟩ rfl C G h dX7_follow_51
    · rw [if_neg hc] at h
      refine lv_aload_n C.1 C.2.1 dX7_follow_45 rfl (lv_at hl 0 rfl) ?_
      refine lv_iload C.1 C.2.1 dX7_follow_46 (lv_at hl 2 rfl) ?_
      obtain ⟨σ_14, hq, h_15⟩ := bd1_some h
      refine cl_callV (ci := 7) (rest := []) C G rfl ha cw_RX7_37 [.int x4] _ (kc_X7_reach l D c0 (by rw [G.1]; exact ha) hq) (Nat.le_of_ble_eq_true rfl) (Nat.le_of_ble_eq_true rfl) rfl rfl hl.1 (Nat.le_of_ble_eq_true rfl) dX7_follow_48 (fun T_16 H locs cells slots t_17 hu G_18 => ?_)
      have ha := hu.kind ha (by decide)
      refine W.eq (g2 := F0 m 51 ls []) rfl ?_
      exact cl_vret ⟨rfl, rfl⟩ rfl C G_18 h_15 dX7_follow_51
noncomputable def bc_X7_follow_0 (a : Nat) (x1 : Int32) (x2 : (Option Nat)) (σ : cl_S) : Option (cl_S) := nn x2 (fun a_1 => ix x1 (σ.2.2.2.1 a_1).2 (vl (((σ.1 a_1 x1.toNatClampNeg).toUInt32 >>> ((26:Int32).toUInt32 &&& Int32.toUInt32 31)).toInt32) (fun x3_6 => ix x1 (σ.2.2.2.1 a_1).2 (vl (x1 + (((σ.1 a_1 x1.toNatClampNeg) <<< ((14:Int32) &&& 31)) >>> ((14:Int32) &&& 31))) (fun x4_11 => (if x3_6 = (36:Int32) then bc_X7_follow_33 a x3_6 x4_11 σ else bd1 (fc_X7_reach a (x1 + (1:Int32)) σ) (fun σ_19 => bc_X7_follow_33 a x3_6 x4_11 σ_19)))))))
set_option maxHeartbeats 4000000 in
theorem wc_X7_follow_0 (C : cl_C D p s m args meth c cX7_follow 5 none RX7) {a : Nat} {x1 : Int32} {x2 : (Option Nat)} {σ0 σ σ' : cl_S} {T : Nat → Nat × Nat} {H : Heap} {locs : List Loc} {ls : Array Slot} {cells slots : Nat} (h : bc_X7_follow_0 a x1 x2 σ = some σ') (G : cl_G true D c0 ({ frames := 2, cells := σ0.2.2.2.2.2.1, slots := σ0.2.2.2.2.2.2, locals := 42 }) s σ0.2.2.2.1 T σ H locs cells slots) (ha : (T a).1 = 23) (f2 : cl_RT T x2 1) (hl : lv_has ls 5 [(0, .ref (c0 + a)), (1, .int x1), (2, cl_rf c0 x2)]) : W p l e ({ frames := 2, cells := σ0.2.2.2.2.2.1, slots := σ0.2.2.2.2.2.2, locals := 42 }) s m args below meth c H locs cells slots (MQ below (cl_Q true D c0 none cl_no σ0 σ') args s (σ0.2.2.2.2.2.1 - σ'.2.2.2.2.2.1) (σ0.2.2.2.2.2.2 - σ'.2.2.2.2.2.2) (cl_A c0 σ0.2.2.2.1 s.heap.size)) (F0 m 0 ls []) := by
  unfold bc_X7_follow_0 at h
  refine cl_aload_n C.1 C.2.1 dX7_follow_0 rfl (lv_at hl 2 rfl) ?_
  refine lv_iload_n C.1 C.2.1 dX7_follow_1 rfl (lv_at hl 1 rfl) ?_
  obtain ⟨a_1, rfl, h_3⟩ := nn_some h
  have t_2 := f2 _ rfl
  have t_4 : T a_1 = (1, (σ.2.2.2.1 a_1).2) := by rw [G.1]; exact Prod.ext t_2 rfl
  obtain ⟨hi, h_5⟩ := ix_some h_3
  refine cl_iald C G t_4 hi dX7_follow_2 ?_
  refine lv_bipush (v := (26:Int32)) C.1 C.2.1 dX7_follow_3 (by decide) ?_
  refine lv_iushr C.1 C.2.1 dX7_follow_5 rfl ?_
  refine vt_i h_5 (fun x3_6 h_7 => ?_)
  refine lv_istore_n (lv' := [(3, .int x3_6), (0, .ref (c0 + a)), (1, .int x1), (2, .ref (c0 + a_1))]) C.1 C.2.1 dX7_follow_6 rfl hl (by decide) rfl (fun ls hl_8 => ?_)
  refine lv_iload_n C.1 C.2.1 dX7_follow_7 rfl (lv_at hl_8 2 rfl) ?_
  refine lv_aload_n C.1 C.2.1 dX7_follow_8 rfl (lv_at hl_8 3 rfl) ?_
  refine lv_iload_n C.1 C.2.1 dX7_follow_9 rfl (lv_at hl_8 2 rfl) ?_
  have t_9 : T a_1 = (1, (σ.2.2.2.1 a_1).2) := by rw [G.1]; exact Prod.ext t_2 rfl
  obtain ⟨hi, h_10⟩ := ix_some h_7
  refine cl_iald C G t_9 hi dX7_follow_10 ?_
  refine lv_bipush (v := (14:Int32)) C.1 C.2.1 dX7_follow_11 (by decide) ?_
  refine lv_ishl C.1 C.2.1 dX7_follow_13 ?_
  refine lv_bipush (v := (14:Int32)) C.1 C.2.1 dX7_follow_14 (by decide) ?_
  refine lv_ishr C.1 C.2.1 dX7_follow_16 ?_
  refine lv_iadd C.1 C.2.1 dX7_follow_17 ?_
  refine vt_i h_10 (fun x4_11 h_12 => ?_)
  refine lv_istore (lv' := [(4, .int x4_11), (3, .int x3_6), (0, .ref (c0 + a)), (1, .int x1), (2, .ref (c0 + a_1))]) C.1 C.2.1 dX7_follow_18 hl_8 (by decide) rfl (fun ls hl_13 => ?_)
  refine lv_iload_n C.1 C.2.1 dX7_follow_20 rfl (lv_at hl_13 1 rfl) ?_
  refine lv_bipush (v := (36:Int32)) C.1 C.2.1 dX7_follow_21 (by decide) ?_
  refine lv_icmp_eq (tgt := 33) C.1 C.2.1 dX7_follow_23 (by decide) (fun hc => ?_) (fun hc => ?_)
  · rw [if_pos hc] at h_12
    exact wc_X7_follow_33 C h_12 G ha (lv_sub hl_13 [2, 1, 0] rfl)
  · rw [if_neg hc] at h_12
    refine lv_aload_n C.1 C.2.1 dX7_follow_26 rfl (lv_at hl_13 2 rfl) ?_
    refine lv_iload_n C.1 C.2.1 dX7_follow_27 rfl (lv_at hl_13 3 rfl) ?_
    refine lv_iconst (v := (1:Int32)) C.1 C.2.1 dX7_follow_28 (by decide) ?_
    refine lv_iadd C.1 C.2.1 dX7_follow_29 ?_
    obtain ⟨σ_19, hq, h_20⟩ := bd1_some h_12
    refine cl_callV (ci := 7) (rest := []) C G rfl ha cw_RX7_37 [.int (x1 + (1:Int32))] _ (kc_X7_reach l D c0 (by rw [G.1]; exact ha) hq) (Nat.le_of_ble_eq_true rfl) (Nat.le_of_ble_eq_true rfl) rfl rfl hl_13.1 (Nat.le_of_ble_eq_true rfl) dX7_follow_30 (fun T_21 H locs cells slots t_22 hu G_23 => ?_)
    have ha := hu.kind ha (by decide)
    have t_2 := hu.kind t_2 (by decide)
    refine W.eq (g2 := F0 m 33 ls []) rfl ?_
    exact wc_X7_follow_33 C h_20 G_23 ha (lv_sub hl_13 [2, 1, 0] rfl)
noncomputable def fc_X7_follow (a : Nat) (x1 : Int32) (x2 : (Option Nat)) (σ : cl_S) : Option (cl_S) := bc_X7_follow_0 a x1 x2 σ
theorem kc_X7_follow (l : Launch) (D : cl_D) (c0 : Nat) {a : Nat} {x1 : Int32} {x2 : (Option Nat)} {σ σ' : cl_S} (ha : (σ.2.2.2.1 a).1 = 23) (h : fc_X7_follow a x1 x2 σ = some σ') (f2 : cl_RT σ.2.2.2.1 x2 1) : cl_Met true l D c0 yX7_follow cX7_follow 5 none 2 42 [.ref (c0 + a), .int x1, cl_rf c0 x2] σ none cl_no σ' :=
  by cases x2 <;> exact cl_of (by decide) (Nat.le_of_ble_eq_true rfl) (fun p e s m args below meth c ls C hn G hl => wc_X7_follow_0 C h G ha f2 hl)
abbrev cX7_isBad : ByteArray := prog_9_method_5_code
def yX7_isBad : MethodName := ⟨RX7, "isBad", "(II)Z"⟩
theorem dX7_isBad_0 : decode cX7_isBad 0 = .ok (.iload_n 1, 1) := by decide +kernel
theorem dX7_isBad_1 : decode cX7_isBad 1 = .ok (.bipush 26, 2) := by decide +kernel
theorem dX7_isBad_3 : decode cX7_isBad 3 = .ok (.iushr, 1) := by decide +kernel
theorem dX7_isBad_4 : decode cX7_isBad 4 = .ok (.istore_n 3, 1) := by decide +kernel
theorem dX7_isBad_5 : decode cX7_isBad 5 = .ok (.iload_n 1, 1) := by decide +kernel
theorem dX7_isBad_6 : decode cX7_isBad 6 = .ok (.bipush 14, 2) := by decide +kernel
theorem dX7_isBad_8 : decode cX7_isBad 8 = .ok (.ishl, 1) := by decide +kernel
theorem dX7_isBad_9 : decode cX7_isBad 9 = .ok (.bipush 14, 2) := by decide +kernel
theorem dX7_isBad_11 : decode cX7_isBad 11 = .ok (.ishr, 1) := by decide +kernel
theorem dX7_isBad_12 : decode cX7_isBad 12 = .ok (.istore 4, 2) := by decide +kernel
theorem dX7_isBad_14 : decode cX7_isBad 14 = .ok (.iload_n 3, 1) := by decide +kernel
theorem dX7_isBad_15 : decode cX7_isBad 15 = .ok (.bipush 38, 2) := by decide +kernel
theorem dX7_isBad_17 : decode cX7_isBad 17 = .ok (.if_icmp .ne 34, 3) := by decide +kernel
theorem dX7_isBad_20 : decode cX7_isBad 20 = .ok (.iload 4, 2) := by decide +kernel
theorem dX7_isBad_22 : decode cX7_isBad 22 = .ok (.ifCond .lt 23, 3) := by decide +kernel
theorem dX7_isBad_25 : decode cX7_isBad 25 = .ok (.iload 4, 2) := by decide +kernel
theorem dX7_isBad_27 : decode cX7_isBad 27 = .ok (.bipush 34, 2) := by decide +kernel
theorem dX7_isBad_29 : decode cX7_isBad 29 = .ok (.if_icmp .gt 16, 3) := by decide +kernel
theorem dX7_isBad_32 : decode cX7_isBad 32 = .ok (.iload 4, 2) := by decide +kernel
theorem dX7_isBad_34 : decode cX7_isBad 34 = .ok (.iconst 1, 1) := by decide +kernel
theorem dX7_isBad_35 : decode cX7_isBad 35 = .ok (.if_icmp .eq 10, 3) := by decide +kernel
theorem dX7_isBad_38 : decode cX7_isBad 38 = .ok (.iload 4, 2) := by decide +kernel
theorem dX7_isBad_40 : decode cX7_isBad 40 = .ok (.bipush 8, 2) := by decide +kernel
theorem dX7_isBad_42 : decode cX7_isBad 42 = .ok (.if_icmp .ne 7, 3) := by decide +kernel
theorem dX7_isBad_45 : decode cX7_isBad 45 = .ok (.iconst 1, 1) := by decide +kernel
theorem dX7_isBad_46 : decode cX7_isBad 46 = .ok (.goto 4, 3) := by decide +kernel
theorem dX7_isBad_49 : decode cX7_isBad 49 = .ok (.iconst 0, 1) := by decide +kernel
theorem dX7_isBad_50 : decode cX7_isBad 50 = .ok (.ireturn, 1) := by decide +kernel
theorem dX7_isBad_51 : decode cX7_isBad 51 = .ok (.iload_n 3, 1) := by decide +kernel
theorem dX7_isBad_52 : decode cX7_isBad 52 = .ok (.iconst 1, 1) := by decide +kernel
theorem dX7_isBad_53 : decode cX7_isBad 53 = .ok (.if_icmp .lt 9, 3) := by decide +kernel
theorem dX7_isBad_56 : decode cX7_isBad 56 = .ok (.iload_n 3, 1) := by decide +kernel
theorem dX7_isBad_57 : decode cX7_isBad 57 = .ok (.bipush 36, 2) := by decide +kernel
theorem dX7_isBad_59 : decode cX7_isBad 59 = .ok (.if_icmp .le 5, 3) := by decide +kernel
theorem dX7_isBad_62 : decode cX7_isBad 62 = .ok (.iconst 1, 1) := by decide +kernel
theorem dX7_isBad_63 : decode cX7_isBad 63 = .ok (.ireturn, 1) := by decide +kernel
theorem dX7_isBad_64 : decode cX7_isBad 64 = .ok (.iload_n 3, 1) := by decide +kernel
theorem dX7_isBad_65 : decode cX7_isBad 65 = .ok (.invokestatic 58, 3) := by decide +kernel
theorem dX7_isBad_68 : decode cX7_isBad 68 = .ok (.ifCond .ne 5, 3) := by decide +kernel
theorem dX7_isBad_71 : decode cX7_isBad 71 = .ok (.iconst 0, 1) := by decide +kernel
theorem dX7_isBad_72 : decode cX7_isBad 72 = .ok (.ireturn, 1) := by decide +kernel
theorem dX7_isBad_73 : decode cX7_isBad 73 = .ok (.iload_n 1, 1) := by decide +kernel
theorem dX7_isBad_74 : decode cX7_isBad 74 = .ok (.bipush 18, 2) := by decide +kernel
theorem dX7_isBad_76 : decode cX7_isBad 76 = .ok (.iushr, 1) := by decide +kernel
theorem dX7_isBad_77 : decode cX7_isBad 77 = .ok (.bipush 15, 2) := by decide +kernel
theorem dX7_isBad_79 : decode cX7_isBad 79 = .ok (.iand, 1) := by decide +kernel
theorem dX7_isBad_80 : decode cX7_isBad 80 = .ok (.ifCond .ne 28, 3) := by decide +kernel
theorem dX7_isBad_83 : decode cX7_isBad 83 = .ok (.iload 4, 2) := by decide +kernel
theorem dX7_isBad_85 : decode cX7_isBad 85 = .ok (.ifCond .lt 23, 3) := by decide +kernel
theorem dX7_isBad_88 : decode cX7_isBad 88 = .ok (.iload 4, 2) := by decide +kernel
theorem dX7_isBad_90 : decode cX7_isBad 90 = .ok (.iconst 4, 1) := by decide +kernel
theorem dX7_isBad_91 : decode cX7_isBad 91 = .ok (.iload_n 2, 1) := by decide +kernel
theorem dX7_isBad_92 : decode cX7_isBad 92 = .ok (.imul, 1) := by decide +kernel
theorem dX7_isBad_93 : decode cX7_isBad 93 = .ok (.if_icmp .ge 15, 3) := by decide +kernel
theorem dX7_isBad_96 : decode cX7_isBad 96 = .ok (.iload 4, 2) := by decide +kernel
theorem dX7_isBad_98 : decode cX7_isBad 98 = .ok (.iload_n 3, 1) := by decide +kernel
theorem dX7_isBad_99 : decode cX7_isBad 99 = .ok (.invokestatic 64, 3) := by decide +kernel
theorem dX7_isBad_102 : decode cX7_isBad 102 = .ok (.iconst 1, 1) := by decide +kernel
theorem dX7_isBad_103 : decode cX7_isBad 103 = .ok (.isub, 1) := by decide +kernel
theorem dX7_isBad_104 : decode cX7_isBad 104 = .ok (.iand, 1) := by decide +kernel
theorem dX7_isBad_105 : decode cX7_isBad 105 = .ok (.ifCond .eq 7, 3) := by decide +kernel
theorem dX7_isBad_108 : decode cX7_isBad 108 = .ok (.iconst 1, 1) := by decide +kernel
theorem dX7_isBad_109 : decode cX7_isBad 109 = .ok (.goto 4, 3) := by decide +kernel
theorem dX7_isBad_112 : decode cX7_isBad 112 = .ok (.iconst 0, 1) := by decide +kernel
theorem dX7_isBad_113 : decode cX7_isBad 113 = .ok (.istore 5, 2) := by decide +kernel
theorem dX7_isBad_115 : decode cX7_isBad 115 = .ok (.iload 5, 2) := by decide +kernel
theorem dX7_isBad_117 : decode cX7_isBad 117 = .ok (.ifCond .ne 34, 3) := by decide +kernel
theorem dX7_isBad_120 : decode cX7_isBad 120 = .ok (.iload_n 3, 1) := by decide +kernel
theorem dX7_isBad_121 : decode cX7_isBad 121 = .ok (.invokestatic 68, 3) := by decide +kernel
theorem dX7_isBad_124 : decode cX7_isBad 124 = .ok (.ifCond .eq 31, 3) := by decide +kernel
theorem dX7_isBad_127 : decode cX7_isBad 127 = .ok (.iload 4, 2) := by decide +kernel
theorem dX7_isBad_129 : decode cX7_isBad 129 = .ok (.iconst 2, 1) := by decide +kernel
theorem dX7_isBad_130 : decode cX7_isBad 130 = .ok (.ishr, 1) := by decide +kernel
theorem dX7_isBad_131 : decode cX7_isBad 131 = .ok (.aload_n 0, 1) := by decide +kernel
theorem dX7_isBad_132 : decode cX7_isBad 132 = .ok (.getfield 20, 3) := by decide +kernel
theorem dX7_isBad_135 : decode cX7_isBad 135 = .ok (.if_icmp .ge 20, 3) := by decide +kernel
theorem dX7_isBad_138 : decode cX7_isBad 138 = .ok (.aload_n 0, 1) := by decide +kernel
theorem dX7_isBad_139 : decode cX7_isBad 139 = .ok (.getfield 11, 3) := by decide +kernel
theorem dX7_isBad_142 : decode cX7_isBad 142 = .ok (.iload 4, 2) := by decide +kernel
theorem dX7_isBad_144 : decode cX7_isBad 144 = .ok (.iconst 2, 1) := by decide +kernel
theorem dX7_isBad_145 : decode cX7_isBad 145 = .ok (.ishr, 1) := by decide +kernel
theorem dX7_isBad_146 : decode cX7_isBad 146 = .ok (.iaload, 1) := by decide +kernel
theorem dX7_isBad_147 : decode cX7_isBad 147 = .ok (.iconst 1, 1) := by decide +kernel
theorem dX7_isBad_148 : decode cX7_isBad 148 = .ok (.if_icmp .ne 7, 3) := by decide +kernel
theorem dX7_isBad_151 : decode cX7_isBad 151 = .ok (.iconst 1, 1) := by decide +kernel
theorem dX7_isBad_152 : decode cX7_isBad 152 = .ok (.goto 4, 3) := by decide +kernel
theorem dX7_isBad_155 : decode cX7_isBad 155 = .ok (.iconst 0, 1) := by decide +kernel
theorem dX7_isBad_156 : decode cX7_isBad 156 = .ok (.ireturn, 1) := by decide +kernel
theorem cc_X7_isBad : Cond.code yX7_isBad cX7_isBad 6 (some .boolean) ∈ rf_tb := rf_at 995 (by decide +kernel) (by decide +kernel)
theorem cw_RX7_58 : cl_wS RX7 yX2_isMemoryOp cX2_isMemoryOp 1 (some .boolean) 58 1 := ⟨⟨rf_at 996 (by decide +kernel) (by decide +kernel), rf_at 997 (by decide +kernel) (by decide +kernel), cc_X2_isMemoryOp, rf_at 16 (by decide +kernel) (by decide +kernel)⟩, ⟨by decide, by decide, by decide +kernel⟩⟩
theorem cw_RX7_64 : cl_wS RX7 yX2_width cX2_width 1 (some .int) 64 1 := ⟨⟨rf_at 999 (by decide +kernel) (by decide +kernel), rf_at 1000 (by decide +kernel) (by decide +kernel), cc_X2_width, rf_at 16 (by decide +kernel) (by decide +kernel)⟩, ⟨by decide, by decide, by decide +kernel⟩⟩
theorem cw_RX7_68 : cl_wS RX7 yX2_isStore cX2_isStore 1 (some .boolean) 68 1 := ⟨⟨rf_at 1002 (by decide +kernel) (by decide +kernel), rf_at 1003 (by decide +kernel) (by decide +kernel), cc_X2_isStore, rf_at 16 (by decide +kernel) (by decide +kernel)⟩, ⟨by decide, by decide, by decide +kernel⟩⟩
noncomputable def bc_X7_isBad_113 (a : Nat) (x3 : Int32) (x4 : Int32) (v0 : Int32) (σ : cl_S) : Option (Int32 × cl_S) := (if v0 = 0 then bd2 (fc_X2_isStore x3 σ) (fun r_15 σ_14 => (if r_15 = 0 then some ((0:Int32), σ_14) else (if (σ_14.1 a 3) ≤ (x4 >>> ((2:Int32) &&& 31)) then some ((0:Int32), σ_14) else ix (x4 >>> ((2:Int32) &&& 31)) 2048 ((if (σ_14.1 (a + 1) (x4 >>> ((2:Int32) &&& 31)).toNatClampNeg) = (1:Int32) then some ((1:Int32), σ_14) else some ((0:Int32), σ_14)))))) else some ((1:Int32), σ))
set_option maxHeartbeats 4000000 in
theorem wc_X7_isBad_113 (C : cl_C D p s m args meth c cX7_isBad 6 (some .boolean) RX7) {r : Int32} {a : Nat} {x3 : Int32} {x4 : Int32} {v0 : Int32} {σ0 σ σ' : cl_S} {T : Nat → Nat × Nat} {H : Heap} {locs : List Loc} {ls : Array Slot} {cells slots : Nat} (h : bc_X7_isBad_113 a x3 x4 v0 σ = some (r, σ')) (G : cl_G true D c0 ({ frames := 1, cells := σ0.2.2.2.2.2.1, slots := σ0.2.2.2.2.2.2, locals := 20 }) s σ0.2.2.2.1 T σ H locs cells slots) (ha : (T a).1 = 23) (hl : lv_has ls 6 [(0, .ref (c0 + a)), (3, .int x3), (4, .int x4)]) : W p l e ({ frames := 1, cells := σ0.2.2.2.2.2.1, slots := σ0.2.2.2.2.2.2, locals := 20 }) s m args below meth c H locs cells slots (MQ below (cl_Q true D c0 (some (.int r)) cl_no σ0 σ') args s (σ0.2.2.2.2.2.1 - σ'.2.2.2.2.2.1) (σ0.2.2.2.2.2.2 - σ'.2.2.2.2.2.2) (cl_A c0 σ0.2.2.2.1 s.heap.size)) (F0 m 113 ls [.int v0]) := by
  unfold bc_X7_isBad_113 at h
  refine lv_istore (lv' := [(5, .int v0), (0, .ref (c0 + a)), (3, .int x3), (4, .int x4)]) C.1 C.2.1 dX7_isBad_113 hl (by decide) rfl (fun ls hl_13 => ?_)
  refine lv_iload C.1 C.2.1 dX7_isBad_115 (lv_at hl_13 0 rfl) ?_
  refine lv_if_ne (tgt := 151) C.1 C.2.1 dX7_isBad_117 (by decide) (fun hc => ?_) (fun hc => ?_)
  · rw [if_neg hc] at h
    refine lv_iconst (v := (1:Int32)) C.1 C.2.1 dX7_isBad_151 (by decide) ?_
    refine lv_goto (tgt := 156) C.1 C.2.1 dX7_isBad_152 (by decide) ?_
    exact cl_zret ⟨rfl, rfl⟩ rfl C G h rfl dX7_isBad_156
  · rw [if_pos hc] at h
    refine lv_iload_n C.1 C.2.1 dX7_isBad_120 rfl (lv_at hl_13 2 rfl) ?_
    obtain ⟨r_15, σ_14, hq, h_16⟩ := bd2_some h
    refine cl_callS (rest := []) C G cw_RX7_68 [.int x3] _ (kc_X2_isStore l D c0 hq) (Nat.le_of_ble_eq_true rfl) (Nat.le_of_ble_eq_true rfl) rfl rfl hl_13.1 (Nat.le_of_ble_eq_true rfl) dX7_isBad_121 (fun T_17 H locs cells slots t_18 hu G_19 => ?_)
    have ha := hu.kind ha (by decide)
    refine W.eq (g2 := F0 m 124 ls [.int r_15]) rfl ?_
    refine lv_if_eq (tgt := 155) C.1 C.2.1 dX7_isBad_124 (by decide) (fun hc => ?_) (fun hc => ?_)
    · rw [if_pos hc] at h_16
      refine lv_iconst (v := (0:Int32)) C.1 C.2.1 dX7_isBad_155 (by decide) ?_
      exact cl_zret ⟨rfl, rfl⟩ rfl C G_19 h_16 rfl dX7_isBad_156
    · rw [if_neg hc] at h_16
      refine lv_iload C.1 C.2.1 dX7_isBad_127 (lv_at hl_13 3 rfl) ?_
      refine lv_iconst (v := (2:Int32)) C.1 C.2.1 dX7_isBad_129 (by decide) ?_
      refine lv_ishr C.1 C.2.1 dX7_isBad_130 ?_
      refine lv_aload_n C.1 C.2.1 dX7_isBad_131 rfl (lv_at hl_13 1 rfl) ?_
      refine cg_7_20 C G_19 ha dX7_isBad_132 ?_
      refine lv_icmp_ge (tgt := 155) C.1 C.2.1 dX7_isBad_135 (by decide) (fun hc => ?_) (fun hc => ?_)
      · rw [if_pos hc] at h_16
        refine lv_iconst (v := (0:Int32)) C.1 C.2.1 dX7_isBad_155 (by decide) ?_
        exact cl_zret ⟨rfl, rfl⟩ rfl C G_19 h_16 rfl dX7_isBad_156
      · rw [if_neg hc] at h_16
        refine lv_aload_n C.1 C.2.1 dX7_isBad_138 rfl (lv_at hl_13 1 rfl) ?_
        refine cg_7_11 C G_19 ha dX7_isBad_139 (fun t_20 => ?_)
        refine lv_iload C.1 C.2.1 dX7_isBad_142 (lv_at hl_13 3 rfl) ?_
        refine lv_iconst (v := (2:Int32)) C.1 C.2.1 dX7_isBad_144 (by decide) ?_
        refine lv_ishr C.1 C.2.1 dX7_isBad_145 ?_
        obtain ⟨hi, h_21⟩ := ix_some h_16
        refine cl_iald C G_19 t_20 hi dX7_isBad_146 ?_
        refine lv_iconst (v := (1:Int32)) C.1 C.2.1 dX7_isBad_147 (by decide) ?_
        refine lv_icmp_ne (tgt := 155) C.1 C.2.1 dX7_isBad_148 (by decide) (fun hc => ?_) (fun hc => ?_)
        · rw [if_neg hc] at h_21
          refine lv_iconst (v := (0:Int32)) C.1 C.2.1 dX7_isBad_155 (by decide) ?_
          exact cl_zret ⟨rfl, rfl⟩ rfl C G_19 h_21 rfl dX7_isBad_156
        · rw [if_pos hc] at h_21
          refine lv_iconst (v := (1:Int32)) C.1 C.2.1 dX7_isBad_151 (by decide) ?_
          refine lv_goto (tgt := 156) C.1 C.2.1 dX7_isBad_152 (by decide) ?_
          exact cl_zret ⟨rfl, rfl⟩ rfl C G_19 h_21 rfl dX7_isBad_156
noncomputable def bc_X7_isBad_108 (a : Nat) (x3 : Int32) (x4 : Int32) (σ : cl_S) : Option (Int32 × cl_S) := bc_X7_isBad_113 a x3 x4 (1:Int32) σ
set_option maxHeartbeats 4000000 in
theorem wc_X7_isBad_108 (C : cl_C D p s m args meth c cX7_isBad 6 (some .boolean) RX7) {r : Int32} {a : Nat} {x3 : Int32} {x4 : Int32} {σ0 σ σ' : cl_S} {T : Nat → Nat × Nat} {H : Heap} {locs : List Loc} {ls : Array Slot} {cells slots : Nat} (h : bc_X7_isBad_108 a x3 x4 σ = some (r, σ')) (G : cl_G true D c0 ({ frames := 1, cells := σ0.2.2.2.2.2.1, slots := σ0.2.2.2.2.2.2, locals := 20 }) s σ0.2.2.2.1 T σ H locs cells slots) (ha : (T a).1 = 23) (hl : lv_has ls 6 [(0, .ref (c0 + a)), (3, .int x3), (4, .int x4)]) : W p l e ({ frames := 1, cells := σ0.2.2.2.2.2.1, slots := σ0.2.2.2.2.2.2, locals := 20 }) s m args below meth c H locs cells slots (MQ below (cl_Q true D c0 (some (.int r)) cl_no σ0 σ') args s (σ0.2.2.2.2.2.1 - σ'.2.2.2.2.2.1) (σ0.2.2.2.2.2.2 - σ'.2.2.2.2.2.2) (cl_A c0 σ0.2.2.2.1 s.heap.size)) (F0 m 108 ls []) := by
  unfold bc_X7_isBad_108 at h
  refine lv_iconst (v := (1:Int32)) C.1 C.2.1 dX7_isBad_108 (by decide) ?_
  refine lv_goto (tgt := 113) C.1 C.2.1 dX7_isBad_109 (by decide) ?_
  exact wc_X7_isBad_113 C h G ha (lv_sub hl [0, 1, 2] rfl)
noncomputable def bc_X7_isBad_0 (a : Nat) (x1 : Int32) (x2 : Int32) (σ : cl_S) : Option (Int32 × cl_S) := vl ((x1.toUInt32 >>> ((26:Int32).toUInt32 &&& Int32.toUInt32 31)).toInt32) (fun x3_1 => vl ((x1 <<< ((14:Int32) &&& 31)) >>> ((14:Int32) &&& 31)) (fun x4_4 => (if x3_1 = (38:Int32) then (if x4_4 < 0 then some ((1:Int32), σ) else (if (34:Int32) < x4_4 then some ((1:Int32), σ) else (if x4_4 = (1:Int32) then some ((1:Int32), σ) else (if x4_4 = (8:Int32) then some ((1:Int32), σ) else some ((0:Int32), σ))))) else (if x3_1 < (1:Int32) then some ((1:Int32), σ) else (if x3_1 ≤ (36:Int32) then bd2 (fc_X2_isMemoryOp x3_1 σ) (fun r_8 σ_7 => (if r_8 = 0 then some ((0:Int32), σ_7) else (if (((x1.toUInt32 >>> ((18:Int32).toUInt32 &&& Int32.toUInt32 31)).toInt32) &&& (15:Int32)) = 0 then (if x4_4 < 0 then bc_X7_isBad_108 a x3_1 x4_4 σ_7 else (if ((4:Int32) * x2) ≤ x4_4 then bc_X7_isBad_108 a x3_1 x4_4 σ_7 else bd2 (fc_X2_width x3_1 σ_7) (fun r_23 σ_22 => (if (x4_4 &&& (r_23 - (1:Int32))) = 0 then bc_X7_isBad_113 a x3_1 x4_4 (0:Int32) σ_22 else bc_X7_isBad_108 a x3_1 x4_4 σ_22)))) else bc_X7_isBad_108 a x3_1 x4_4 σ_7))) else some ((1:Int32), σ))))))
set_option maxHeartbeats 4000000 in
theorem wc_X7_isBad_0 (C : cl_C D p s m args meth c cX7_isBad 6 (some .boolean) RX7) {r : Int32} {a : Nat} {x1 : Int32} {x2 : Int32} {σ0 σ σ' : cl_S} {T : Nat → Nat × Nat} {H : Heap} {locs : List Loc} {ls : Array Slot} {cells slots : Nat} (h : bc_X7_isBad_0 a x1 x2 σ = some (r, σ')) (G : cl_G true D c0 ({ frames := 1, cells := σ0.2.2.2.2.2.1, slots := σ0.2.2.2.2.2.2, locals := 20 }) s σ0.2.2.2.1 T σ H locs cells slots) (ha : (T a).1 = 23) (hl : lv_has ls 6 [(0, .ref (c0 + a)), (1, .int x1), (2, .int x2)]) : W p l e ({ frames := 1, cells := σ0.2.2.2.2.2.1, slots := σ0.2.2.2.2.2.2, locals := 20 }) s m args below meth c H locs cells slots (MQ below (cl_Q true D c0 (some (.int r)) cl_no σ0 σ') args s (σ0.2.2.2.2.2.1 - σ'.2.2.2.2.2.1) (σ0.2.2.2.2.2.2 - σ'.2.2.2.2.2.2) (cl_A c0 σ0.2.2.2.1 s.heap.size)) (F0 m 0 ls []) := by
  unfold bc_X7_isBad_0 at h
  refine lv_iload_n C.1 C.2.1 dX7_isBad_0 rfl (lv_at hl 1 rfl) ?_
  refine lv_bipush (v := (26:Int32)) C.1 C.2.1 dX7_isBad_1 (by decide) ?_
  refine lv_iushr C.1 C.2.1 dX7_isBad_3 rfl ?_
  refine vt_i h (fun x3_1 h_2 => ?_)
  refine lv_istore_n (lv' := [(3, .int x3_1), (0, .ref (c0 + a)), (1, .int x1), (2, .int x2)]) C.1 C.2.1 dX7_isBad_4 rfl hl (by decide) rfl (fun ls hl_3 => ?_)
  refine lv_iload_n C.1 C.2.1 dX7_isBad_5 rfl (lv_at hl_3 2 rfl) ?_
  refine lv_bipush (v := (14:Int32)) C.1 C.2.1 dX7_isBad_6 (by decide) ?_
  refine lv_ishl C.1 C.2.1 dX7_isBad_8 ?_
  refine lv_bipush (v := (14:Int32)) C.1 C.2.1 dX7_isBad_9 (by decide) ?_
  refine lv_ishr C.1 C.2.1 dX7_isBad_11 ?_
  refine vt_i h_2 (fun x4_4 h_5 => ?_)
  refine lv_istore (lv' := [(4, .int x4_4), (3, .int x3_1), (0, .ref (c0 + a)), (1, .int x1), (2, .int x2)]) C.1 C.2.1 dX7_isBad_12 hl_3 (by decide) rfl (fun ls hl_6 => ?_)
  refine lv_iload_n C.1 C.2.1 dX7_isBad_14 rfl (lv_at hl_6 1 rfl) ?_
  refine lv_bipush (v := (38:Int32)) C.1 C.2.1 dX7_isBad_15 (by decide) ?_
  refine lv_icmp_ne (tgt := 51) C.1 C.2.1 dX7_isBad_17 (by decide) (fun hc => ?_) (fun hc => ?_)
  · rw [if_neg hc] at h_5
    refine lv_iload_n C.1 C.2.1 dX7_isBad_51 rfl (lv_at hl_6 1 rfl) ?_
    refine lv_iconst (v := (1:Int32)) C.1 C.2.1 dX7_isBad_52 (by decide) ?_
    refine lv_icmp_lt (tgt := 62) C.1 C.2.1 dX7_isBad_53 (by decide) (fun hc => ?_) (fun hc => ?_)
    · rw [if_pos hc] at h_5
      refine lv_iconst (v := (1:Int32)) C.1 C.2.1 dX7_isBad_62 (by decide) ?_
      exact cl_zret ⟨rfl, rfl⟩ rfl C G h_5 rfl dX7_isBad_63
    · rw [if_neg hc] at h_5
      refine lv_iload_n C.1 C.2.1 dX7_isBad_56 rfl (lv_at hl_6 1 rfl) ?_
      refine lv_bipush (v := (36:Int32)) C.1 C.2.1 dX7_isBad_57 (by decide) ?_
      refine lv_icmp_le (tgt := 64) C.1 C.2.1 dX7_isBad_59 (by decide) (fun hc => ?_) (fun hc => ?_)
      · rw [if_pos hc] at h_5
        refine lv_iload_n C.1 C.2.1 dX7_isBad_64 rfl (lv_at hl_6 1 rfl) ?_
        obtain ⟨r_8, σ_7, hq, h_9⟩ := bd2_some h_5
        refine cl_callS (rest := []) C G cw_RX7_58 [.int x3_1] _ (kc_X2_isMemoryOp l D c0 hq) (Nat.le_of_ble_eq_true rfl) (Nat.le_of_ble_eq_true rfl) rfl rfl hl_6.1 (Nat.le_of_ble_eq_true rfl) dX7_isBad_65 (fun T_10 H locs cells slots t_11 hu G_12 => ?_)
        have ha := hu.kind ha (by decide)
        refine W.eq (g2 := F0 m 68 ls [.int r_8]) rfl ?_
        refine lv_if_ne (tgt := 73) C.1 C.2.1 dX7_isBad_68 (by decide) (fun hc => ?_) (fun hc => ?_)
        · rw [if_neg hc] at h_9
          refine lv_iload_n C.1 C.2.1 dX7_isBad_73 rfl (lv_at hl_6 3 rfl) ?_
          refine lv_bipush (v := (18:Int32)) C.1 C.2.1 dX7_isBad_74 (by decide) ?_
          refine lv_iushr C.1 C.2.1 dX7_isBad_76 rfl ?_
          refine lv_bipush (v := (15:Int32)) C.1 C.2.1 dX7_isBad_77 (by decide) ?_
          refine lv_iand C.1 C.2.1 dX7_isBad_79 ?_
          refine lv_if_ne (tgt := 108) C.1 C.2.1 dX7_isBad_80 (by decide) (fun hc => ?_) (fun hc => ?_)
          · rw [if_neg hc] at h_9
            exact wc_X7_isBad_108 C h_9 G_12 ha (lv_sub hl_6 [2, 1, 0] rfl)
          · rw [if_pos hc] at h_9
            refine lv_iload C.1 C.2.1 dX7_isBad_83 (lv_at hl_6 0 rfl) ?_
            refine lv_if_lt (tgt := 108) C.1 C.2.1 dX7_isBad_85 (by decide) (fun hc => ?_) (fun hc => ?_)
            · rw [if_pos hc] at h_9
              exact wc_X7_isBad_108 C h_9 G_12 ha (lv_sub hl_6 [2, 1, 0] rfl)
            · rw [if_neg hc] at h_9
              refine lv_iload C.1 C.2.1 dX7_isBad_88 (lv_at hl_6 0 rfl) ?_
              refine lv_iconst (v := (4:Int32)) C.1 C.2.1 dX7_isBad_90 (by decide) ?_
              refine lv_iload_n C.1 C.2.1 dX7_isBad_91 rfl (lv_at hl_6 4 rfl) ?_
              refine lv_imul C.1 C.2.1 dX7_isBad_92 ?_
              refine lv_icmp_ge (tgt := 108) C.1 C.2.1 dX7_isBad_93 (by decide) (fun hc => ?_) (fun hc => ?_)
              · rw [if_pos hc] at h_9
                exact wc_X7_isBad_108 C h_9 G_12 ha (lv_sub hl_6 [2, 1, 0] rfl)
              · rw [if_neg hc] at h_9
                refine lv_iload C.1 C.2.1 dX7_isBad_96 (lv_at hl_6 0 rfl) ?_
                refine lv_iload_n C.1 C.2.1 dX7_isBad_98 rfl (lv_at hl_6 1 rfl) ?_
                obtain ⟨r_23, σ_22, hq, h_24⟩ := bd2_some h_9
                refine cl_callS (rest := [.int x4_4]) C G_12 cw_RX7_64 [.int x3_1] _ (kc_X2_width l D c0 hq) (Nat.le_of_ble_eq_true rfl) (Nat.le_of_ble_eq_true rfl) rfl rfl hl_6.1 (Nat.le_of_ble_eq_true rfl) dX7_isBad_99 (fun T_25 H locs cells slots t_26 hu G_27 => ?_)
                have ha := hu.kind ha (by decide)
                refine W.eq (g2 := F0 m 102 ls [.int r_23, .int x4_4]) rfl ?_
                refine lv_iconst (v := (1:Int32)) C.1 C.2.1 dX7_isBad_102 (by decide) ?_
                refine lv_isub C.1 C.2.1 dX7_isBad_103 ?_
                refine lv_iand C.1 C.2.1 dX7_isBad_104 ?_
                refine lv_if_eq (tgt := 112) C.1 C.2.1 dX7_isBad_105 (by decide) (fun hc => ?_) (fun hc => ?_)
                · rw [if_pos hc] at h_24
                  refine lv_iconst (v := (0:Int32)) C.1 C.2.1 dX7_isBad_112 (by decide) ?_
                  exact wc_X7_isBad_113 C h_24 G_27 ha (lv_sub hl_6 [2, 1, 0] rfl)
                · rw [if_neg hc] at h_24
                  exact wc_X7_isBad_108 C h_24 G_27 ha (lv_sub hl_6 [2, 1, 0] rfl)
        · rw [if_pos hc] at h_9
          refine lv_iconst (v := (0:Int32)) C.1 C.2.1 dX7_isBad_71 (by decide) ?_
          exact cl_zret ⟨rfl, rfl⟩ rfl C G_12 h_9 rfl dX7_isBad_72
      · rw [if_neg hc] at h_5
        refine lv_iconst (v := (1:Int32)) C.1 C.2.1 dX7_isBad_62 (by decide) ?_
        exact cl_zret ⟨rfl, rfl⟩ rfl C G h_5 rfl dX7_isBad_63
  · rw [if_pos hc] at h_5
    refine lv_iload C.1 C.2.1 dX7_isBad_20 (lv_at hl_6 0 rfl) ?_
    refine lv_if_lt (tgt := 45) C.1 C.2.1 dX7_isBad_22 (by decide) (fun hc => ?_) (fun hc => ?_)
    · rw [if_pos hc] at h_5
      refine lv_iconst (v := (1:Int32)) C.1 C.2.1 dX7_isBad_45 (by decide) ?_
      refine lv_goto (tgt := 50) C.1 C.2.1 dX7_isBad_46 (by decide) ?_
      exact cl_zret ⟨rfl, rfl⟩ rfl C G h_5 rfl dX7_isBad_50
    · rw [if_neg hc] at h_5
      refine lv_iload C.1 C.2.1 dX7_isBad_25 (lv_at hl_6 0 rfl) ?_
      refine lv_bipush (v := (34:Int32)) C.1 C.2.1 dX7_isBad_27 (by decide) ?_
      refine lv_icmp_gt (tgt := 45) C.1 C.2.1 dX7_isBad_29 (by decide) (fun hc => ?_) (fun hc => ?_)
      · rw [if_pos hc] at h_5
        refine lv_iconst (v := (1:Int32)) C.1 C.2.1 dX7_isBad_45 (by decide) ?_
        refine lv_goto (tgt := 50) C.1 C.2.1 dX7_isBad_46 (by decide) ?_
        exact cl_zret ⟨rfl, rfl⟩ rfl C G h_5 rfl dX7_isBad_50
      · rw [if_neg hc] at h_5
        refine lv_iload C.1 C.2.1 dX7_isBad_32 (lv_at hl_6 0 rfl) ?_
        refine lv_iconst (v := (1:Int32)) C.1 C.2.1 dX7_isBad_34 (by decide) ?_
        refine lv_icmp_eq (tgt := 45) C.1 C.2.1 dX7_isBad_35 (by decide) (fun hc => ?_) (fun hc => ?_)
        · rw [if_pos hc] at h_5
          refine lv_iconst (v := (1:Int32)) C.1 C.2.1 dX7_isBad_45 (by decide) ?_
          refine lv_goto (tgt := 50) C.1 C.2.1 dX7_isBad_46 (by decide) ?_
          exact cl_zret ⟨rfl, rfl⟩ rfl C G h_5 rfl dX7_isBad_50
        · rw [if_neg hc] at h_5
          refine lv_iload C.1 C.2.1 dX7_isBad_38 (lv_at hl_6 0 rfl) ?_
          refine lv_bipush (v := (8:Int32)) C.1 C.2.1 dX7_isBad_40 (by decide) ?_
          refine lv_icmp_ne (tgt := 49) C.1 C.2.1 dX7_isBad_42 (by decide) (fun hc => ?_) (fun hc => ?_)
          · rw [if_neg hc] at h_5
            refine lv_iconst (v := (0:Int32)) C.1 C.2.1 dX7_isBad_49 (by decide) ?_
            exact cl_zret ⟨rfl, rfl⟩ rfl C G h_5 rfl dX7_isBad_50
          · rw [if_pos hc] at h_5
            refine lv_iconst (v := (1:Int32)) C.1 C.2.1 dX7_isBad_45 (by decide) ?_
            refine lv_goto (tgt := 50) C.1 C.2.1 dX7_isBad_46 (by decide) ?_
            exact cl_zret ⟨rfl, rfl⟩ rfl C G h_5 rfl dX7_isBad_50
noncomputable def fc_X7_isBad (a : Nat) (x1 : Int32) (x2 : Int32) (σ : cl_S) : Option (Int32 × cl_S) := bc_X7_isBad_0 a x1 x2 σ
theorem kc_X7_isBad (l : Launch) (D : cl_D) (c0 : Nat) {r : Int32} {a : Nat} {x1 : Int32} {x2 : Int32} {σ σ' : cl_S} (ha : (σ.2.2.2.1 a).1 = 23) (h : fc_X7_isBad a x1 x2 σ = some (r, σ')) : cl_Met true l D c0 yX7_isBad cX7_isBad 6 (some .boolean) 1 20 [.ref (c0 + a), .int x1, .int x2] σ (some (.int r)) cl_no σ' :=
  cl_of (by decide) (Nat.le_of_ble_eq_true rfl) (fun p e s m args below meth c ls C hn G hl => wc_X7_isBad_0 C h G ha hl)
abbrev cX7_leastBad : ByteArray := prog_9_method_2_code
def yX7_leastBad : MethodName := ⟨RX7, "leastBad", "([III)I"⟩
theorem dX7_leastBad_0 : decode cX7_leastBad 0 = .ok (.aload_n 0, 1) := by decide +kernel
theorem dX7_leastBad_1 : decode cX7_leastBad 1 = .ok (.iload_n 2, 1) := by decide +kernel
theorem dX7_leastBad_2 : decode cX7_leastBad 2 = .ok (.putfield 20, 3) := by decide +kernel
theorem dX7_leastBad_5 : decode cX7_leastBad 5 = .ok (.aload_n 0, 1) := by decide +kernel
theorem dX7_leastBad_6 : decode cX7_leastBad 6 = .ok (.ldc 24, 2) := by decide +kernel
theorem dX7_leastBad_8 : decode cX7_leastBad 8 = .ok (.putfield 25, 3) := by decide +kernel
theorem dX7_leastBad_11 : decode cX7_leastBad 11 = .ok (.aload_n 0, 1) := by decide +kernel
theorem dX7_leastBad_12 : decode cX7_leastBad 12 = .ok (.iconst 0, 1) := by decide +kernel
theorem dX7_leastBad_13 : decode cX7_leastBad 13 = .ok (.putfield 28, 3) := by decide +kernel
theorem dX7_leastBad_16 : decode cX7_leastBad 16 = .ok (.aload_n 0, 1) := by decide +kernel
theorem dX7_leastBad_17 : decode cX7_leastBad 17 = .ok (.getfield 11, 3) := by decide +kernel
theorem dX7_leastBad_20 : decode cX7_leastBad 20 = .ok (.iconst 0, 1) := by decide +kernel
theorem dX7_leastBad_21 : decode cX7_leastBad 21 = .ok (.invokestatic 31, 3) := by decide +kernel
theorem dX7_leastBad_24 : decode cX7_leastBad 24 = .ok (.aload_n 0, 1) := by decide +kernel
theorem dX7_leastBad_25 : decode cX7_leastBad 25 = .ok (.iconst 0, 1) := by decide +kernel
theorem dX7_leastBad_26 : decode cX7_leastBad 26 = .ok (.invokevirtual 37, 3) := by decide +kernel
theorem dX7_leastBad_29 : decode cX7_leastBad 29 = .ok (.iconst 0, 1) := by decide +kernel
theorem dX7_leastBad_30 : decode cX7_leastBad 30 = .ok (.istore 4, 2) := by decide +kernel
theorem dX7_leastBad_32 : decode cX7_leastBad 32 = .ok (.iload 4, 2) := by decide +kernel
theorem dX7_leastBad_34 : decode cX7_leastBad 34 = .ok (.sipush 2048, 3) := by decide +kernel
theorem dX7_leastBad_37 : decode cX7_leastBad 37 = .ok (.if_icmp .ge 40, 3) := by decide +kernel
theorem dX7_leastBad_40 : decode cX7_leastBad 40 = .ok (.aload_n 0, 1) := by decide +kernel
theorem dX7_leastBad_41 : decode cX7_leastBad 41 = .ok (.getfield 28, 3) := by decide +kernel
theorem dX7_leastBad_44 : decode cX7_leastBad 44 = .ok (.ifCond .le 33, 3) := by decide +kernel
theorem dX7_leastBad_47 : decode cX7_leastBad 47 = .ok (.aload_n 0, 1) := by decide +kernel
theorem dX7_leastBad_48 : decode cX7_leastBad 48 = .ok (.dup, 1) := by decide +kernel
theorem dX7_leastBad_49 : decode cX7_leastBad 49 = .ok (.getfield 28, 3) := by decide +kernel
theorem dX7_leastBad_52 : decode cX7_leastBad 52 = .ok (.iconst 1, 1) := by decide +kernel
theorem dX7_leastBad_53 : decode cX7_leastBad 53 = .ok (.isub, 1) := by decide +kernel
theorem dX7_leastBad_54 : decode cX7_leastBad 54 = .ok (.putfield 28, 3) := by decide +kernel
theorem dX7_leastBad_57 : decode cX7_leastBad 57 = .ok (.aload_n 0, 1) := by decide +kernel
theorem dX7_leastBad_58 : decode cX7_leastBad 58 = .ok (.aload_n 0, 1) := by decide +kernel
theorem dX7_leastBad_59 : decode cX7_leastBad 59 = .ok (.getfield 17, 3) := by decide +kernel
theorem dX7_leastBad_62 : decode cX7_leastBad 62 = .ok (.aload_n 0, 1) := by decide +kernel
theorem dX7_leastBad_63 : decode cX7_leastBad 63 = .ok (.getfield 28, 3) := by decide +kernel
theorem dX7_leastBad_66 : decode cX7_leastBad 66 = .ok (.iaload, 1) := by decide +kernel
theorem dX7_leastBad_67 : decode cX7_leastBad 67 = .ok (.aload_n 1, 1) := by decide +kernel
theorem dX7_leastBad_68 : decode cX7_leastBad 68 = .ok (.invokevirtual 41, 3) := by decide +kernel
theorem dX7_leastBad_71 : decode cX7_leastBad 71 = .ok (.iinc 4 1, 3) := by decide +kernel
theorem dX7_leastBad_74 : decode cX7_leastBad 74 = .ok (.goto (-42), 3) := by decide +kernel
theorem dX7_leastBad_77 : decode cX7_leastBad 77 = .ok (.iconst 0, 1) := by decide +kernel
theorem dX7_leastBad_78 : decode cX7_leastBad 78 = .ok (.istore 4, 2) := by decide +kernel
theorem dX7_leastBad_80 : decode cX7_leastBad 80 = .ok (.iload 4, 2) := by decide +kernel
theorem dX7_leastBad_82 : decode cX7_leastBad 82 = .ok (.aload_n 0, 1) := by decide +kernel
theorem dX7_leastBad_83 : decode cX7_leastBad 83 = .ok (.getfield 20, 3) := by decide +kernel
theorem dX7_leastBad_86 : decode cX7_leastBad 86 = .ok (.if_icmp .ge 47, 3) := by decide +kernel
theorem dX7_leastBad_89 : decode cX7_leastBad 89 = .ok (.iload 4, 2) := by decide +kernel
theorem dX7_leastBad_91 : decode cX7_leastBad 91 = .ok (.aload_n 0, 1) := by decide +kernel
theorem dX7_leastBad_92 : decode cX7_leastBad 92 = .ok (.getfield 25, 3) := by decide +kernel
theorem dX7_leastBad_95 : decode cX7_leastBad 95 = .ok (.if_icmp .ge 38, 3) := by decide +kernel
theorem dX7_leastBad_98 : decode cX7_leastBad 98 = .ok (.aload_n 0, 1) := by decide +kernel
theorem dX7_leastBad_99 : decode cX7_leastBad 99 = .ok (.getfield 11, 3) := by decide +kernel
theorem dX7_leastBad_102 : decode cX7_leastBad 102 = .ok (.iload 4, 2) := by decide +kernel
theorem dX7_leastBad_104 : decode cX7_leastBad 104 = .ok (.iaload, 1) := by decide +kernel
theorem dX7_leastBad_105 : decode cX7_leastBad 105 = .ok (.iconst 1, 1) := by decide +kernel
theorem dX7_leastBad_106 : decode cX7_leastBad 106 = .ok (.if_icmp .ne 21, 3) := by decide +kernel
theorem dX7_leastBad_109 : decode cX7_leastBad 109 = .ok (.aload_n 0, 1) := by decide +kernel
theorem dX7_leastBad_110 : decode cX7_leastBad 110 = .ok (.aload_n 1, 1) := by decide +kernel
theorem dX7_leastBad_111 : decode cX7_leastBad 111 = .ok (.iload 4, 2) := by decide +kernel
theorem dX7_leastBad_113 : decode cX7_leastBad 113 = .ok (.iaload, 1) := by decide +kernel
theorem dX7_leastBad_114 : decode cX7_leastBad 114 = .ok (.iload_n 3, 1) := by decide +kernel
theorem dX7_leastBad_115 : decode cX7_leastBad 115 = .ok (.invokevirtual 45, 3) := by decide +kernel
theorem dX7_leastBad_118 : decode cX7_leastBad 118 = .ok (.ifCond .eq 9, 3) := by decide +kernel
theorem dX7_leastBad_121 : decode cX7_leastBad 121 = .ok (.aload_n 0, 1) := by decide +kernel
theorem dX7_leastBad_122 : decode cX7_leastBad 122 = .ok (.iload 4, 2) := by decide +kernel
theorem dX7_leastBad_124 : decode cX7_leastBad 124 = .ok (.putfield 25, 3) := by decide +kernel
theorem dX7_leastBad_127 : decode cX7_leastBad 127 = .ok (.iinc 4 1, 3) := by decide +kernel
theorem dX7_leastBad_130 : decode cX7_leastBad 130 = .ok (.goto (-50), 3) := by decide +kernel
theorem dX7_leastBad_133 : decode cX7_leastBad 133 = .ok (.aload_n 0, 1) := by decide +kernel
theorem dX7_leastBad_134 : decode cX7_leastBad 134 = .ok (.getfield 25, 3) := by decide +kernel
theorem dX7_leastBad_137 : decode cX7_leastBad 137 = .ok (.ldc 24, 2) := by decide +kernel
theorem dX7_leastBad_139 : decode cX7_leastBad 139 = .ok (.if_icmp .ne 7, 3) := by decide +kernel
theorem dX7_leastBad_142 : decode cX7_leastBad 142 = .ok (.iconst (-1), 1) := by decide +kernel
theorem dX7_leastBad_143 : decode cX7_leastBad 143 = .ok (.goto 7, 3) := by decide +kernel
theorem dX7_leastBad_146 : decode cX7_leastBad 146 = .ok (.aload_n 0, 1) := by decide +kernel
theorem dX7_leastBad_147 : decode cX7_leastBad 147 = .ok (.getfield 25, 3) := by decide +kernel
theorem dX7_leastBad_150 : decode cX7_leastBad 150 = .ok (.ireturn, 1) := by decide +kernel
theorem cc_X7_leastBad : Cond.code yX7_leastBad cX7_leastBad 5 (some .int) ∈ rf_tb := rf_at 973 (by decide +kernel) (by decide +kernel)
theorem cw_RX7_31 : cl_wS RX7 yJ7_fill_53178 cJ7_fill_53178 4 none 31 2 := ⟨⟨rf_at 975 (by decide +kernel) (by decide +kernel), rf_at 976 (by decide +kernel) (by decide +kernel), cc_J7_fill_53178, rf_at 18 (by decide +kernel) (by decide +kernel)⟩, ⟨by decide, by decide, by decide +kernel⟩⟩
theorem cw_RX7_41 : cl_wV RX7 RX7 yX7_follow cX7_follow 5 none 41 2 := ⟨⟨rf_at 988 (by decide +kernel) (by decide +kernel), rf_at 990 (by decide +kernel) (by decide +kernel), rf_sel (q := (yX7_follow, 5)) 27 (by decide +kernel) (by decide +kernel), cc_X7_follow, rf_at 8 (by decide +kernel) (by decide +kernel)⟩, ⟨by decide, by decide, by decide +kernel⟩⟩
theorem cw_RX7_45 : cl_wV RX7 RX7 yX7_isBad cX7_isBad 6 (some .boolean) 45 2 := ⟨⟨rf_at 992 (by decide +kernel) (by decide +kernel), rf_at 994 (by decide +kernel) (by decide +kernel), rf_sel (q := (yX7_isBad, 5)) 28 (by decide +kernel) (by decide +kernel), cc_X7_isBad, rf_at 8 (by decide +kernel) (by decide +kernel)⟩, ⟨by decide, by decide, by decide +kernel⟩⟩
theorem kc_RX7_24 : Cond.constant RX7 24 (2147483647 : Int32) ∈ rf_tb := rf_at 974 (by decide +kernel) (by decide +kernel)
noncomputable def lc_X7_leastBad_32 (a : Nat) (x1 : (Option Nat)) (x3 : Int32) (x4 : Int32) (σ : cl_S) : Option ((Int32 × cl_S) ⊕ (Int32 × cl_S)) := (if (2048:Int32) ≤ x4 then some (.inr (x4, σ)) else (if (σ.1 a 2) ≤ 0 then some (.inr (x4, σ)) else vl (cl_w σ a 2 ((σ.1 a 2) - (1:Int32))) (fun σ_25 => ix (σ_25.1 a 2) 2048 (bd1 (fc_X7_follow a (σ_25.1 (a + 2) (σ_25.1 a 2).toNatClampNeg) x1 σ_25) (fun σ_31 => vl (x4 + (1:Int32)) (fun x4_36 => some (.inl (x4_36, σ_31))))))))
noncomputable def bc_X7_leastBad_127i80 (a : Nat) (x1 : (Option Nat)) (x3 : Int32) (x4 : Int32) (σ : cl_S) : Option ((Int32 × cl_S) ⊕ (Int32 × cl_S)) := vl (x4 + (1:Int32)) (fun x4_42 => some (.inl (x4_42, σ)))
set_option maxHeartbeats 4000000 in
theorem wc_X7_leastBad_127i80 (C : cl_C D p s m args meth c cX7_leastBad 5 (some .int) RX7) {r : Int32} {a : Nat} {x1 : (Option Nat)} {x3 : Int32} {x4 : Int32} {σ0 σ σ' : cl_S} {T : Nat → Nat × Nat} {H : Heap} {locs : List Loc} {ls : Array Slot} {cells slots : Nat} {o : (Int32 × cl_S) ⊕ (Int32 × cl_S)} (h : bc_X7_leastBad_127i80 a x1 x3 x4 σ = some o) (hP : Sum.elim (fun z : (Int32 × cl_S) => ∀ (T : Nat → Nat × Nat) (H : Heap) (locs : List Loc) (ls : Array Slot) (cells slots : Nat), cl_G true D c0 ({ frames := 3, cells := σ0.2.2.2.2.2.1, slots := σ0.2.2.2.2.2.2, locals := 66 }) s σ0.2.2.2.1 T z.2 H locs cells slots → (T a).1 = 23 → cl_RT T x1 1 → lv_has ls 5 [(0, .ref (c0 + a)), (1, cl_rf c0 x1), (3, .int x3), (4, .int (z.1))] → W p l e ({ frames := 3, cells := σ0.2.2.2.2.2.1, slots := σ0.2.2.2.2.2.2, locals := 66 }) s m args below meth c H locs cells slots (MQ below (cl_Q true D c0 (some (.int r)) cl_no σ0 σ') args s (σ0.2.2.2.2.2.1 - σ'.2.2.2.2.2.1) (σ0.2.2.2.2.2.2 - σ'.2.2.2.2.2.2) (cl_A c0 σ0.2.2.2.1 s.heap.size)) (F0 m 80 ls [])) (fun z : (Int32 × cl_S) => ∀ (T : Nat → Nat × Nat) (H : Heap) (locs : List Loc) (ls : Array Slot) (cells slots : Nat), cl_G true D c0 ({ frames := 3, cells := σ0.2.2.2.2.2.1, slots := σ0.2.2.2.2.2.2, locals := 66 }) s σ0.2.2.2.1 T z.2 H locs cells slots → (T a).1 = 23 → cl_RT T x1 1 → lv_has ls 5 [(0, .ref (c0 + a)), (1, cl_rf c0 x1), (3, .int x3), (4, .int (z.1))] → W p l e ({ frames := 3, cells := σ0.2.2.2.2.2.1, slots := σ0.2.2.2.2.2.2, locals := 66 }) s m args below meth c H locs cells slots (MQ below (cl_Q true D c0 (some (.int r)) cl_no σ0 σ') args s (σ0.2.2.2.2.2.1 - σ'.2.2.2.2.2.1) (σ0.2.2.2.2.2.2 - σ'.2.2.2.2.2.2) (cl_A c0 σ0.2.2.2.1 s.heap.size)) (F0 m 133 ls [])) o) (G : cl_G true D c0 ({ frames := 3, cells := σ0.2.2.2.2.2.1, slots := σ0.2.2.2.2.2.2, locals := 66 }) s σ0.2.2.2.1 T σ H locs cells slots) (ha : (T a).1 = 23) (f1 : cl_RT T x1 1) (hl : lv_has ls 5 [(0, .ref (c0 + a)), (1, cl_rf c0 x1), (3, .int x3), (4, .int x4)]) : W p l e ({ frames := 3, cells := σ0.2.2.2.2.2.1, slots := σ0.2.2.2.2.2.2, locals := 66 }) s m args below meth c H locs cells slots (MQ below (cl_Q true D c0 (some (.int r)) cl_no σ0 σ') args s (σ0.2.2.2.2.2.1 - σ'.2.2.2.2.2.1) (σ0.2.2.2.2.2.2 - σ'.2.2.2.2.2.2) (cl_A c0 σ0.2.2.2.1 s.heap.size)) (F0 m 127 ls []) := by
  unfold bc_X7_leastBad_127i80 at h
  refine vl_ex h (fun x4_42 ey h_43 => ?_)
  refine lv_iinc (v := x4_42) (lv' := [(4, .int x4_42), (0, .ref (c0 + a)), (1, cl_rf c0 x1), (3, .int x3)]) C.1 C.2.1 dX7_leastBad_127 hl (k := 3) rfl (by rw [ey]; rfl) (by decide) (by first | rfl | (cases x1 <;> rfl)) (fun ls hl_44 => ?_)
  refine lv_goto (tgt := 80) C.1 C.2.1 dX7_leastBad_130 (by decide) ?_
  cases h_43
  exact hP _ _ _ _ _ _ G ha f1 (lv_sub hl_44 [1, 2, 3, 0] rfl)
noncomputable def lc_X7_leastBad_80 (a : Nat) (x1 : (Option Nat)) (x3 : Int32) (x4 : Int32) (σ : cl_S) : Option ((Int32 × cl_S) ⊕ (Int32 × cl_S)) := (if (σ.1 a 3) ≤ x4 then some (.inr (x4, σ)) else (if (σ.1 a 4) ≤ x4 then some (.inr (x4, σ)) else ix x4 2048 ((if (σ.1 (a + 1) x4.toNatClampNeg) = (1:Int32) then nn x1 (fun a_45 => ix x4 (σ.2.2.2.1 a_45).2 (bd2 (fc_X7_isBad a (σ.1 a_45 x4.toNatClampNeg) x3 σ) (fun r_51 σ_50 => (if r_51 = 0 then bc_X7_leastBad_127i80 a (some a_45) x3 x4 σ_50 else vl (cl_w σ_50 a 4 x4) (fun σ_56 => bc_X7_leastBad_127i80 a (some a_45) x3 x4 σ_56))))) else bc_X7_leastBad_127i80 a x1 x3 x4 σ))))
noncomputable def bc_X7_leastBad_133 (a : Nat) (σ : cl_S) : Option (Int32 × cl_S) := (if (σ.1 a 4) = (2147483647:Int32) then some ((-1:Int32), σ) else some ((σ.1 a 4), σ))
set_option maxHeartbeats 4000000 in
theorem wc_X7_leastBad_133 (C : cl_C D p s m args meth c cX7_leastBad 5 (some .int) RX7) {r : Int32} {a : Nat} {σ0 σ σ' : cl_S} {T : Nat → Nat × Nat} {H : Heap} {locs : List Loc} {ls : Array Slot} {cells slots : Nat} (h : bc_X7_leastBad_133 a σ = some (r, σ')) (G : cl_G true D c0 ({ frames := 3, cells := σ0.2.2.2.2.2.1, slots := σ0.2.2.2.2.2.2, locals := 66 }) s σ0.2.2.2.1 T σ H locs cells slots) (ha : (T a).1 = 23) (hl : lv_has ls 5 [(0, .ref (c0 + a))]) : W p l e ({ frames := 3, cells := σ0.2.2.2.2.2.1, slots := σ0.2.2.2.2.2.2, locals := 66 }) s m args below meth c H locs cells slots (MQ below (cl_Q true D c0 (some (.int r)) cl_no σ0 σ') args s (σ0.2.2.2.2.2.1 - σ'.2.2.2.2.2.1) (σ0.2.2.2.2.2.2 - σ'.2.2.2.2.2.2) (cl_A c0 σ0.2.2.2.1 s.heap.size)) (F0 m 133 ls []) := by
  unfold bc_X7_leastBad_133 at h
  refine lv_aload_n C.1 C.2.1 dX7_leastBad_133 rfl (lv_at hl 0 rfl) ?_
  refine cg_7_25 C G ha dX7_leastBad_134 ?_
  refine lv_ldc (v := (2147483647:Int32)) C.1 C.2.1 C.2.2.2.1 (C.2.2.2.2.1 _ kc_RX7_24) dX7_leastBad_137 ?_
  refine lv_icmp_ne (tgt := 146) C.1 C.2.1 dX7_leastBad_139 (by decide) (fun hc => ?_) (fun hc => ?_)
  · rw [if_neg hc] at h
    refine lv_aload_n C.1 C.2.1 dX7_leastBad_146 rfl (lv_at hl 0 rfl) ?_
    refine cg_7_25 C G ha dX7_leastBad_147 ?_
    exact cl_iret ⟨rfl, rfl⟩ rfl C G h dX7_leastBad_150
  · rw [if_pos hc] at h
    refine lv_iconst (v := (-1:Int32)) C.1 C.2.1 dX7_leastBad_142 (by decide) ?_
    refine lv_goto (tgt := 150) C.1 C.2.1 dX7_leastBad_143 (by decide) ?_
    exact cl_iret ⟨rfl, rfl⟩ rfl C G h dX7_leastBad_150
noncomputable def ec_X7_leastBad_80 (a : Nat) (x1 : (Option Nat)) (x3 : Int32) (x4 : Int32) (σ : cl_S) : Option (Int32 × cl_S) := bc_X7_leastBad_133 a σ
noncomputable def bc_X7_leastBad_80 (a : Nat) (x1 : (Option Nat)) (x3 : Int32) (x4 : Int32) (σ : cl_S) : Option (Int32 × cl_S) := (lp (fun z : (Int32 × cl_S) => lc_X7_leastBad_80 a x1 x3 z.1 z.2) (x4, σ)).bind (fun z => ec_X7_leastBad_80 a x1 x3 z.1 z.2)
set_option maxHeartbeats 4000000 in
theorem wc_X7_leastBad_80 (C : cl_C D p s m args meth c cX7_leastBad 5 (some .int) RX7) {r : Int32} {a : Nat} {x1 : (Option Nat)} {x3 : Int32} {x4 : Int32} {σ0 σ σ' : cl_S} {T : Nat → Nat × Nat} {H : Heap} {locs : List Loc} {ls : Array Slot} {cells slots : Nat} (h : bc_X7_leastBad_80 a x1 x3 x4 σ = some (r, σ')) (G : cl_G true D c0 ({ frames := 3, cells := σ0.2.2.2.2.2.1, slots := σ0.2.2.2.2.2.2, locals := 66 }) s σ0.2.2.2.1 T σ H locs cells slots) (ha : (T a).1 = 23) (f1 : cl_RT T x1 1) (hl : lv_has ls 5 [(0, .ref (c0 + a)), (1, cl_rf c0 x1), (3, .int x3), (4, .int x4)]) : W p l e ({ frames := 3, cells := σ0.2.2.2.2.2.1, slots := σ0.2.2.2.2.2.2, locals := 66 }) s m args below meth c H locs cells slots (MQ below (cl_Q true D c0 (some (.int r)) cl_no σ0 σ') args s (σ0.2.2.2.2.2.1 - σ'.2.2.2.2.2.1) (σ0.2.2.2.2.2.2 - σ'.2.2.2.2.2.2) (cl_A c0 σ0.2.2.2.1 s.heap.size)) (F0 m 80 ls []) := by
  unfold bc_X7_leastBad_80 at h
  obtain ⟨y, hy, h⟩ := bd_some h
  have hE : (fun z : (Int32 × cl_S) => ∀ (T : Nat → Nat × Nat) (H : Heap) (locs : List Loc) (ls : Array Slot) (cells slots : Nat), cl_G true D c0 ({ frames := 3, cells := σ0.2.2.2.2.2.1, slots := σ0.2.2.2.2.2.2, locals := 66 }) s σ0.2.2.2.1 T z.2 H locs cells slots → (T a).1 = 23 → cl_RT T x1 1 → lv_has ls 5 [(0, .ref (c0 + a)), (1, cl_rf c0 x1), (3, .int x3), (4, .int (z.1))] → W p l e ({ frames := 3, cells := σ0.2.2.2.2.2.1, slots := σ0.2.2.2.2.2.2, locals := 66 }) s m args below meth c H locs cells slots (MQ below (cl_Q true D c0 (some (.int r)) cl_no σ0 σ') args s (σ0.2.2.2.2.2.1 - σ'.2.2.2.2.2.1) (σ0.2.2.2.2.2.2 - σ'.2.2.2.2.2.2) (cl_A c0 σ0.2.2.2.1 s.heap.size)) (F0 m 133 ls [])) y := by
    clear hy G ha f1 hl
    intro T H locs ls cells slots G ha f1 hl
    obtain ⟨x4, σ⟩ := y
    dsimp only at h G ha f1 hl
    unfold ec_X7_leastBad_80 at h
    exact wc_X7_leastBad_133 C h G ha (lv_sub hl [0] rfl)
  refine lp_recE (fun z : (Int32 × cl_S) => ∀ (T : Nat → Nat × Nat) (H : Heap) (locs : List Loc) (ls : Array Slot) (cells slots : Nat), cl_G true D c0 ({ frames := 3, cells := σ0.2.2.2.2.2.1, slots := σ0.2.2.2.2.2.2, locals := 66 }) s σ0.2.2.2.1 T z.2 H locs cells slots → (T a).1 = 23 → cl_RT T x1 1 → lv_has ls 5 [(0, .ref (c0 + a)), (1, cl_rf c0 x1), (3, .int x3), (4, .int (z.1))] → W p l e ({ frames := 3, cells := σ0.2.2.2.2.2.1, slots := σ0.2.2.2.2.2.2, locals := 66 }) s m args below meth c H locs cells slots (MQ below (cl_Q true D c0 (some (.int r)) cl_no σ0 σ') args s (σ0.2.2.2.2.2.1 - σ'.2.2.2.2.2.1) (σ0.2.2.2.2.2.2 - σ'.2.2.2.2.2.2) (cl_A c0 σ0.2.2.2.1 s.heap.size)) (F0 m 80 ls [])) (fun z : (Int32 × cl_S) => ∀ (T : Nat → Nat × Nat) (H : Heap) (locs : List Loc) (ls : Array Slot) (cells slots : Nat), cl_G true D c0 ({ frames := 3, cells := σ0.2.2.2.2.2.1, slots := σ0.2.2.2.2.2.2, locals := 66 }) s σ0.2.2.2.1 T z.2 H locs cells slots → (T a).1 = 23 → cl_RT T x1 1 → lv_has ls 5 [(0, .ref (c0 + a)), (1, cl_rf c0 x1), (3, .int x3), (4, .int (z.1))] → W p l e ({ frames := 3, cells := σ0.2.2.2.2.2.1, slots := σ0.2.2.2.2.2.2, locals := 66 }) s m args below meth c H locs cells slots (MQ below (cl_Q true D c0 (some (.int r)) cl_no σ0 σ') args s (σ0.2.2.2.2.2.1 - σ'.2.2.2.2.2.1) (σ0.2.2.2.2.2.2 - σ'.2.2.2.2.2.2) (cl_A c0 σ0.2.2.2.1 s.heap.size)) (F0 m 133 ls [])) ?_ _ _ hy hE _ _ _ _ _ _ G ha f1 hl
  clear hE hy G ha f1 hl h
  intro z o h hP T H locs ls cells slots G ha f1 hl
  obtain ⟨x4, σ⟩ := z
  dsimp only at h G ha f1 hl
  unfold lc_X7_leastBad_80 at h
  refine lv_iload C.1 C.2.1 dX7_leastBad_80 (lv_at hl 3 rfl) ?_
  refine lv_aload_n C.1 C.2.1 dX7_leastBad_82 rfl (lv_at hl 0 rfl) ?_
  refine cg_7_20 C G ha dX7_leastBad_83 ?_
  refine lv_icmp_ge (tgt := 133) C.1 C.2.1 dX7_leastBad_86 (by decide) (fun hc => ?_) (fun hc => ?_)
  · rw [if_pos hc] at h
    cases h
    exact hP _ _ _ _ _ _ G ha f1 (lv_sub hl [0, 1, 2, 3] rfl)
  · rw [if_neg hc] at h
    refine lv_iload C.1 C.2.1 dX7_leastBad_89 (lv_at hl 3 rfl) ?_
    refine lv_aload_n C.1 C.2.1 dX7_leastBad_91 rfl (lv_at hl 0 rfl) ?_
    refine cg_7_25 C G ha dX7_leastBad_92 ?_
    refine lv_icmp_ge (tgt := 133) C.1 C.2.1 dX7_leastBad_95 (by decide) (fun hc => ?_) (fun hc => ?_)
    · rw [if_pos hc] at h
      cases h
      exact hP _ _ _ _ _ _ G ha f1 (lv_sub hl [0, 1, 2, 3] rfl)
    · rw [if_neg hc] at h
      refine lv_aload_n C.1 C.2.1 dX7_leastBad_98 rfl (lv_at hl 0 rfl) ?_
      refine cg_7_11 C G ha dX7_leastBad_99 (fun t_40 => ?_)
      refine lv_iload C.1 C.2.1 dX7_leastBad_102 (lv_at hl 3 rfl) ?_
      obtain ⟨hi, h_41⟩ := ix_some h
      refine cl_iald C G t_40 hi dX7_leastBad_104 ?_
      refine lv_iconst (v := (1:Int32)) C.1 C.2.1 dX7_leastBad_105 (by decide) ?_
      refine lv_icmp_ne (tgt := 127) C.1 C.2.1 dX7_leastBad_106 (by decide) (fun hc => ?_) (fun hc => ?_)
      · rw [if_neg hc] at h_41
        exact wc_X7_leastBad_127i80 C h_41 hP G ha f1 (lv_sub hl [0, 1, 2, 3] rfl)
      · rw [if_pos hc] at h_41
        refine lv_aload_n C.1 C.2.1 dX7_leastBad_109 rfl (lv_at hl 0 rfl) ?_
        refine cl_aload_n C.1 C.2.1 dX7_leastBad_110 rfl (lv_at hl 1 rfl) ?_
        refine lv_iload C.1 C.2.1 dX7_leastBad_111 (lv_at hl 3 rfl) ?_
        obtain ⟨a_45, rfl, h_47⟩ := nn_some h_41
        have t_46 := f1 _ rfl
        have t_48 : T a_45 = (1, (σ.2.2.2.1 a_45).2) := by rw [G.1]; exact Prod.ext t_46 rfl
        obtain ⟨hi, h_49⟩ := ix_some h_47
        refine cl_iald C G t_48 hi dX7_leastBad_113 ?_
        refine lv_iload_n C.1 C.2.1 dX7_leastBad_114 rfl (lv_at hl 2 rfl) ?_
        obtain ⟨r_51, σ_50, hq, h_52⟩ := bd2_some h_49
        refine cl_callV (ci := 7) (rest := []) C G rfl ha cw_RX7_45 [.int (σ.1 a_45 x4.toNatClampNeg), .int x3] _ (kc_X7_isBad l D c0 (by rw [G.1]; exact ha) hq) (Nat.le_of_ble_eq_true rfl) (Nat.le_of_ble_eq_true rfl) rfl rfl hl.1 (Nat.le_of_ble_eq_true rfl) dX7_leastBad_115 (fun T_53 H locs cells slots t_54 hu G_55 => ?_)
        have ha := hu.kind ha (by decide)
        have t_46 := hu.kind t_46 (by decide)
        refine W.eq (g2 := F0 m 118 ls [.int r_51]) rfl ?_
        refine lv_if_eq (tgt := 127) C.1 C.2.1 dX7_leastBad_118 (by decide) (fun hc => ?_) (fun hc => ?_)
        · rw [if_pos hc] at h_52
          exact wc_X7_leastBad_127i80 C h_52 hP G_55 ha (cl_RTs (by rw [t_46])) (lv_sub hl [0, 1, 2, 3] rfl)
        · rw [if_neg hc] at h_52
          refine lv_aload_n C.1 C.2.1 dX7_leastBad_121 rfl (lv_at hl 0 rfl) ?_
          refine lv_iload C.1 C.2.1 dX7_leastBad_122 (lv_at hl 3 rfl) ?_
          refine cp_7_25 C G_55 ha dX7_leastBad_124 (fun H locs G_57 => ?_)
          refine cl_nm G_57 h_52 (fun σ_56 G_58 h_59 => ?_)
          exact wc_X7_leastBad_127i80 C h_59 hP G_58 ha (cl_RTs (by rw [t_46])) (lv_sub hl [0, 1, 2, 3] rfl)
noncomputable def bc_X7_leastBad_77 (a : Nat) (x1 : (Option Nat)) (x3 : Int32) (σ : cl_S) : Option (Int32 × cl_S) := bc_X7_leastBad_80 a x1 x3 (0:Int32) σ
set_option maxHeartbeats 4000000 in
theorem wc_X7_leastBad_77 (C : cl_C D p s m args meth c cX7_leastBad 5 (some .int) RX7) {r : Int32} {a : Nat} {x1 : (Option Nat)} {x3 : Int32} {σ0 σ σ' : cl_S} {T : Nat → Nat × Nat} {H : Heap} {locs : List Loc} {ls : Array Slot} {cells slots : Nat} (h : bc_X7_leastBad_77 a x1 x3 σ = some (r, σ')) (G : cl_G true D c0 ({ frames := 3, cells := σ0.2.2.2.2.2.1, slots := σ0.2.2.2.2.2.2, locals := 66 }) s σ0.2.2.2.1 T σ H locs cells slots) (ha : (T a).1 = 23) (f1 : cl_RT T x1 1) (hl : lv_has ls 5 [(0, .ref (c0 + a)), (1, cl_rf c0 x1), (3, .int x3)]) : W p l e ({ frames := 3, cells := σ0.2.2.2.2.2.1, slots := σ0.2.2.2.2.2.2, locals := 66 }) s m args below meth c H locs cells slots (MQ below (cl_Q true D c0 (some (.int r)) cl_no σ0 σ') args s (σ0.2.2.2.2.2.1 - σ'.2.2.2.2.2.1) (σ0.2.2.2.2.2.2 - σ'.2.2.2.2.2.2) (cl_A c0 σ0.2.2.2.1 s.heap.size)) (F0 m 77 ls []) := by
  unfold bc_X7_leastBad_77 at h
  refine lv_iconst (v := (0:Int32)) C.1 C.2.1 dX7_leastBad_77 (by decide) ?_
  refine lv_istore (lv' := [(4, .int (0:Int32)), (0, .ref (c0 + a)), (1, cl_rf c0 x1), (3, .int x3)]) C.1 C.2.1 dX7_leastBad_78 hl (by decide) (by first | rfl | (cases x1 <;> rfl)) (fun ls hl_39 => ?_)
  exact wc_X7_leastBad_80 C h G ha f1 (lv_sub hl_39 [1, 2, 3, 0] rfl)
noncomputable def ec_X7_leastBad_32 (a : Nat) (x1 : (Option Nat)) (x3 : Int32) (x4 : Int32) (σ : cl_S) : Option (Int32 × cl_S) := bc_X7_leastBad_77 a x1 x3 σ
noncomputable def bc_X7_leastBad_32 (a : Nat) (x1 : (Option Nat)) (x3 : Int32) (x4 : Int32) (σ : cl_S) : Option (Int32 × cl_S) := (lp (fun z : (Int32 × cl_S) => lc_X7_leastBad_32 a x1 x3 z.1 z.2) (x4, σ)).bind (fun z => ec_X7_leastBad_32 a x1 x3 z.1 z.2)
set_option maxHeartbeats 4000000 in
theorem wc_X7_leastBad_32 (C : cl_C D p s m args meth c cX7_leastBad 5 (some .int) RX7) {r : Int32} {a : Nat} {x1 : (Option Nat)} {x3 : Int32} {x4 : Int32} {σ0 σ σ' : cl_S} {T : Nat → Nat × Nat} {H : Heap} {locs : List Loc} {ls : Array Slot} {cells slots : Nat} (h : bc_X7_leastBad_32 a x1 x3 x4 σ = some (r, σ')) (G : cl_G true D c0 ({ frames := 3, cells := σ0.2.2.2.2.2.1, slots := σ0.2.2.2.2.2.2, locals := 66 }) s σ0.2.2.2.1 T σ H locs cells slots) (ha : (T a).1 = 23) (f1 : cl_RT T x1 1) (hl : lv_has ls 5 [(0, .ref (c0 + a)), (1, cl_rf c0 x1), (3, .int x3), (4, .int x4)]) : W p l e ({ frames := 3, cells := σ0.2.2.2.2.2.1, slots := σ0.2.2.2.2.2.2, locals := 66 }) s m args below meth c H locs cells slots (MQ below (cl_Q true D c0 (some (.int r)) cl_no σ0 σ') args s (σ0.2.2.2.2.2.1 - σ'.2.2.2.2.2.1) (σ0.2.2.2.2.2.2 - σ'.2.2.2.2.2.2) (cl_A c0 σ0.2.2.2.1 s.heap.size)) (F0 m 32 ls []) := by
  unfold bc_X7_leastBad_32 at h
  obtain ⟨y, hy, h⟩ := bd_some h
  have hE : (fun z : (Int32 × cl_S) => ∀ (T : Nat → Nat × Nat) (H : Heap) (locs : List Loc) (ls : Array Slot) (cells slots : Nat), cl_G true D c0 ({ frames := 3, cells := σ0.2.2.2.2.2.1, slots := σ0.2.2.2.2.2.2, locals := 66 }) s σ0.2.2.2.1 T z.2 H locs cells slots → (T a).1 = 23 → cl_RT T x1 1 → lv_has ls 5 [(0, .ref (c0 + a)), (1, cl_rf c0 x1), (3, .int x3), (4, .int (z.1))] → W p l e ({ frames := 3, cells := σ0.2.2.2.2.2.1, slots := σ0.2.2.2.2.2.2, locals := 66 }) s m args below meth c H locs cells slots (MQ below (cl_Q true D c0 (some (.int r)) cl_no σ0 σ') args s (σ0.2.2.2.2.2.1 - σ'.2.2.2.2.2.1) (σ0.2.2.2.2.2.2 - σ'.2.2.2.2.2.2) (cl_A c0 σ0.2.2.2.1 s.heap.size)) (F0 m 77 ls [])) y := by
    clear hy G ha f1 hl
    intro T H locs ls cells slots G ha f1 hl
    obtain ⟨x4, σ⟩ := y
    dsimp only at h G ha f1 hl
    unfold ec_X7_leastBad_32 at h
    exact wc_X7_leastBad_77 C h G ha f1 (lv_sub hl [0, 1, 2] rfl)
  refine lp_recE (fun z : (Int32 × cl_S) => ∀ (T : Nat → Nat × Nat) (H : Heap) (locs : List Loc) (ls : Array Slot) (cells slots : Nat), cl_G true D c0 ({ frames := 3, cells := σ0.2.2.2.2.2.1, slots := σ0.2.2.2.2.2.2, locals := 66 }) s σ0.2.2.2.1 T z.2 H locs cells slots → (T a).1 = 23 → cl_RT T x1 1 → lv_has ls 5 [(0, .ref (c0 + a)), (1, cl_rf c0 x1), (3, .int x3), (4, .int (z.1))] → W p l e ({ frames := 3, cells := σ0.2.2.2.2.2.1, slots := σ0.2.2.2.2.2.2, locals := 66 }) s m args below meth c H locs cells slots (MQ below (cl_Q true D c0 (some (.int r)) cl_no σ0 σ') args s (σ0.2.2.2.2.2.1 - σ'.2.2.2.2.2.1) (σ0.2.2.2.2.2.2 - σ'.2.2.2.2.2.2) (cl_A c0 σ0.2.2.2.1 s.heap.size)) (F0 m 32 ls [])) (fun z : (Int32 × cl_S) => ∀ (T : Nat → Nat × Nat) (H : Heap) (locs : List Loc) (ls : Array Slot) (cells slots : Nat), cl_G true D c0 ({ frames := 3, cells := σ0.2.2.2.2.2.1, slots := σ0.2.2.2.2.2.2, locals := 66 }) s σ0.2.2.2.1 T z.2 H locs cells slots → (T a).1 = 23 → cl_RT T x1 1 → lv_has ls 5 [(0, .ref (c0 + a)), (1, cl_rf c0 x1), (3, .int x3), (4, .int (z.1))] → W p l e ({ frames := 3, cells := σ0.2.2.2.2.2.1, slots := σ0.2.2.2.2.2.2, locals := 66 }) s m args below meth c H locs cells slots (MQ below (cl_Q true D c0 (some (.int r)) cl_no σ0 σ') args s (σ0.2.2.2.2.2.1 - σ'.2.2.2.2.2.1) (σ0.2.2.2.2.2.2 - σ'.2.2.2.2.2.2) (cl_A c0 σ0.2.2.2.1 s.heap.size)) (F0 m 77 ls [])) ?_ _ _ hy hE _ _ _ _ _ _ G ha f1 hl
  clear hE hy G ha f1 hl h
  intro z o h hP T H locs ls cells slots G ha f1 hl
  obtain ⟨x4, σ⟩ := z
  dsimp only at h G ha f1 hl
  unfold lc_X7_leastBad_32 at h
  refine lv_iload C.1 C.2.1 dX7_leastBad_32 (lv_at hl 3 rfl) ?_
  refine lv_sipush (v := (2048:Int32)) C.1 C.2.1 dX7_leastBad_34 (by decide) ?_
  refine lv_icmp_ge (tgt := 77) C.1 C.2.1 dX7_leastBad_37 (by decide) (fun hc => ?_) (fun hc => ?_)
  · rw [if_pos hc] at h
    cases h
    exact hP _ _ _ _ _ _ G ha f1 (lv_sub hl [0, 1, 2, 3] rfl)
  · rw [if_neg hc] at h
    refine lv_aload_n C.1 C.2.1 dX7_leastBad_40 rfl (lv_at hl 0 rfl) ?_
    refine cg_7_28 C G ha dX7_leastBad_41 ?_
    refine lv_if_le (tgt := 77) C.1 C.2.1 dX7_leastBad_44 (by decide) (fun hc => ?_) (fun hc => ?_)
    · rw [if_pos hc] at h
      cases h
      exact hP _ _ _ _ _ _ G ha f1 (lv_sub hl [0, 1, 2, 3] rfl)
    · rw [if_neg hc] at h
      refine lv_aload_n C.1 C.2.1 dX7_leastBad_47 rfl (lv_at hl 0 rfl) ?_
      refine lv_dup C.1 C.2.1 dX7_leastBad_48 rfl ?_
      refine cg_7_28 C G ha dX7_leastBad_49 ?_
      refine lv_iconst (v := (1:Int32)) C.1 C.2.1 dX7_leastBad_52 (by decide) ?_
      refine lv_isub C.1 C.2.1 dX7_leastBad_53 ?_
      refine cp_7_28 C G ha dX7_leastBad_54 (fun H locs G_26 => ?_)
      refine cl_nm G_26 h (fun σ_25 G_27 h_28 => ?_)
      refine lv_aload_n C.1 C.2.1 dX7_leastBad_57 rfl (lv_at hl 0 rfl) ?_
      refine lv_aload_n C.1 C.2.1 dX7_leastBad_58 rfl (lv_at hl 0 rfl) ?_
      refine cg_7_17 C G_27 ha dX7_leastBad_59 (fun t_29 => ?_)
      refine lv_aload_n C.1 C.2.1 dX7_leastBad_62 rfl (lv_at hl 0 rfl) ?_
      refine cg_7_28 C G_27 ha dX7_leastBad_63 ?_
      obtain ⟨hi, h_30⟩ := ix_some h_28
      refine cl_iald C G_27 t_29 hi dX7_leastBad_66 ?_
      refine cl_aload_n C.1 C.2.1 dX7_leastBad_67 rfl (lv_at hl 1 rfl) ?_
      obtain ⟨σ_31, hq, h_32⟩ := bd1_some h_30
      refine cl_callV (ci := 7) (rest := []) C G_27 rfl ha cw_RX7_41 [.int (σ_25.1 (a + 2) (σ_25.1 a 2).toNatClampNeg), cl_rf c0 x1] _ (kc_X7_follow l D c0 (by rw [G_27.1]; exact ha) hq (by rw [G_27.1]; exact f1)) (Nat.le_of_ble_eq_true rfl) (Nat.le_of_ble_eq_true rfl) rfl rfl hl.1 (Nat.le_of_ble_eq_true rfl) dX7_leastBad_68 (fun T_33 H locs cells slots t_34 hu G_35 => ?_)
      have ha := hu.kind ha (by decide)
      have f1 := f1.up hu (by decide)
      refine W.eq (g2 := F0 m 71 ls []) rfl ?_
      refine vl_ex h_32 (fun x4_36 ey h_37 => ?_)
      refine lv_iinc (v := x4_36) (lv' := [(4, .int x4_36), (0, .ref (c0 + a)), (1, cl_rf c0 x1), (3, .int x3)]) C.1 C.2.1 dX7_leastBad_71 hl (k := 3) rfl (by rw [ey]; rfl) (by decide) (by first | rfl | (cases x1 <;> rfl)) (fun ls hl_38 => ?_)
      refine lv_goto (tgt := 32) C.1 C.2.1 dX7_leastBad_74 (by decide) ?_
      cases h_37
      exact hP _ _ _ _ _ _ G_35 ha f1 (lv_sub hl_38 [1, 2, 3, 0] rfl)
noncomputable def bc_X7_leastBad_0 (a : Nat) (x1 : (Option Nat)) (x2 : Int32) (x3 : Int32) (σ : cl_S) : Option (Int32 × cl_S) := vl (cl_w σ a 3 x2) (fun σ_1 => vl (cl_w σ_1 a 4 (2147483647:Int32)) (fun σ_5 => vl (cl_w σ_5 a 2 (0:Int32)) (fun σ_9 => bd1 (fc_J7_fill_53178 (some (a + 1)) (0:Int32) σ_9) (fun σ_14 => bd1 (fc_X7_reach a (0:Int32) σ_14) (fun σ_19 => bc_X7_leastBad_32 a x1 x3 (0:Int32) σ_19)))))
set_option maxHeartbeats 4000000 in
theorem wc_X7_leastBad_0 (C : cl_C D p s m args meth c cX7_leastBad 5 (some .int) RX7) {r : Int32} {a : Nat} {x1 : (Option Nat)} {x2 : Int32} {x3 : Int32} {σ0 σ σ' : cl_S} {T : Nat → Nat × Nat} {H : Heap} {locs : List Loc} {ls : Array Slot} {cells slots : Nat} (h : bc_X7_leastBad_0 a x1 x2 x3 σ = some (r, σ')) (G : cl_G true D c0 ({ frames := 3, cells := σ0.2.2.2.2.2.1, slots := σ0.2.2.2.2.2.2, locals := 66 }) s σ0.2.2.2.1 T σ H locs cells slots) (ha : (T a).1 = 23) (f1 : cl_RT T x1 1) (hl : lv_has ls 5 [(0, .ref (c0 + a)), (1, cl_rf c0 x1), (2, .int x2), (3, .int x3)]) : W p l e ({ frames := 3, cells := σ0.2.2.2.2.2.1, slots := σ0.2.2.2.2.2.2, locals := 66 }) s m args below meth c H locs cells slots (MQ below (cl_Q true D c0 (some (.int r)) cl_no σ0 σ') args s (σ0.2.2.2.2.2.1 - σ'.2.2.2.2.2.1) (σ0.2.2.2.2.2.2 - σ'.2.2.2.2.2.2) (cl_A c0 σ0.2.2.2.1 s.heap.size)) (F0 m 0 ls []) := by
  unfold bc_X7_leastBad_0 at h
  refine lv_aload_n C.1 C.2.1 dX7_leastBad_0 rfl (lv_at hl 0 rfl) ?_
  refine lv_iload_n C.1 C.2.1 dX7_leastBad_1 rfl (lv_at hl 2 rfl) ?_
  refine cp_7_20 C G ha dX7_leastBad_2 (fun H locs G_2 => ?_)
  refine cl_nm G_2 h (fun σ_1 G_3 h_4 => ?_)
  refine lv_aload_n C.1 C.2.1 dX7_leastBad_5 rfl (lv_at hl 0 rfl) ?_
  refine lv_ldc (v := (2147483647:Int32)) C.1 C.2.1 C.2.2.2.1 (C.2.2.2.2.1 _ kc_RX7_24) dX7_leastBad_6 ?_
  refine cp_7_25 C G_3 ha dX7_leastBad_8 (fun H locs G_6 => ?_)
  refine cl_nm G_6 h_4 (fun σ_5 G_7 h_8 => ?_)
  refine lv_aload_n C.1 C.2.1 dX7_leastBad_11 rfl (lv_at hl 0 rfl) ?_
  refine lv_iconst (v := (0:Int32)) C.1 C.2.1 dX7_leastBad_12 (by decide) ?_
  refine cp_7_28 C G_7 ha dX7_leastBad_13 (fun H locs G_10 => ?_)
  refine cl_nm G_10 h_8 (fun σ_9 G_11 h_12 => ?_)
  refine lv_aload_n C.1 C.2.1 dX7_leastBad_16 rfl (lv_at hl 0 rfl) ?_
  refine cg_7_11 C G_11 ha dX7_leastBad_17 (fun t_13 => ?_)
  refine lv_iconst (v := (0:Int32)) C.1 C.2.1 dX7_leastBad_20 (by decide) ?_
  obtain ⟨σ_14, hq, h_15⟩ := bd1_some h_12
  refine cl_callS (rest := []) C G_11 cw_RX7_31 [.ref (c0 + (a + 1)), .int (0:Int32)] _ (kc_J7_fill_53178 l D c0 hq (by rw [G_11.1]; exact (cl_RTs (by rw [t_13])))) (Nat.le_of_ble_eq_true rfl) (Nat.le_of_ble_eq_true rfl) rfl rfl hl.1 (Nat.le_of_ble_eq_true rfl) dX7_leastBad_21 (fun T_16 H locs cells slots t_17 hu G_18 => ?_)
  have ha := hu.kind ha (by decide)
  have f1 := f1.up hu (by decide)
  refine W.eq (g2 := F0 m 24 ls []) rfl ?_
  refine lv_aload_n C.1 C.2.1 dX7_leastBad_24 rfl (lv_at hl 0 rfl) ?_
  refine lv_iconst (v := (0:Int32)) C.1 C.2.1 dX7_leastBad_25 (by decide) ?_
  obtain ⟨σ_19, hq, h_20⟩ := bd1_some h_15
  refine cl_callV (ci := 7) (rest := []) C G_18 rfl ha cw_RX7_37 [.int (0:Int32)] _ (kc_X7_reach l D c0 (by rw [G_18.1]; exact ha) hq) (Nat.le_of_ble_eq_true rfl) (Nat.le_of_ble_eq_true rfl) rfl rfl hl.1 (Nat.le_of_ble_eq_true rfl) dX7_leastBad_26 (fun T_21 H locs cells slots t_22 hu G_23 => ?_)
  have ha := hu.kind ha (by decide)
  have f1 := f1.up hu (by decide)
  refine W.eq (g2 := F0 m 29 ls []) rfl ?_
  refine lv_iconst (v := (0:Int32)) C.1 C.2.1 dX7_leastBad_29 (by decide) ?_
  refine lv_istore (lv' := [(4, .int (0:Int32)), (0, .ref (c0 + a)), (1, cl_rf c0 x1), (2, .int x2), (3, .int x3)]) C.1 C.2.1 dX7_leastBad_30 hl (by decide) (by first | rfl | (cases x1 <;> rfl)) (fun ls hl_24 => ?_)
  exact wc_X7_leastBad_32 C h_20 G_23 ha f1 (lv_sub hl_24 [1, 2, 4, 0] rfl)
noncomputable def fc_X7_leastBad (a : Nat) (x1 : (Option Nat)) (x2 : Int32) (x3 : Int32) (σ : cl_S) : Option (Int32 × cl_S) := bc_X7_leastBad_0 a x1 x2 x3 σ
theorem kc_X7_leastBad (l : Launch) (D : cl_D) (c0 : Nat) {r : Int32} {a : Nat} {x1 : (Option Nat)} {x2 : Int32} {x3 : Int32} {σ σ' : cl_S} (ha : (σ.2.2.2.1 a).1 = 23) (h : fc_X7_leastBad a x1 x2 x3 σ = some (r, σ')) (f1 : cl_RT σ.2.2.2.1 x1 1) : cl_Met true l D c0 yX7_leastBad cX7_leastBad 5 (some .int) 3 66 [.ref (c0 + a), cl_rf c0 x1, .int x2, .int x3] σ (some (.int r)) cl_no σ' :=
  by cases x1 <;> exact cl_of (by decide) (Nat.le_of_ble_eq_true rfl) (fun p e s m args below meth c ls C hn G hl => wc_X7_leastBad_0 C h G ha f1 hl)
abbrev cX9_nextUserOf : ByteArray := prog_11_method_2_code
def yX9_nextUserOf : MethodName := ⟨RX9, "nextUserOf", "(LPartHouse$Term;)LPartHouse$Term;"⟩
theorem dX9_nextUserOf_0 : decode cX9_nextUserOf 0 = .ok (.aload_n 1, 1) := by decide +kernel
theorem dX9_nextUserOf_1 : decode cX9_nextUserOf 1 = .ok (.aload_n 0, 1) := by decide +kernel
theorem dX9_nextUserOf_2 : decode cX9_nextUserOf 2 = .ok (.getfield 30, 3) := by decide +kernel
theorem dX9_nextUserOf_5 : decode cX9_nextUserOf 5 = .ok (.if_acmp .ne 8, 3) := by decide +kernel
theorem dX9_nextUserOf_8 : decode cX9_nextUserOf 8 = .ok (.aload_n 0, 1) := by decide +kernel
theorem dX9_nextUserOf_9 : decode cX9_nextUserOf 9 = .ok (.getfield 33, 3) := by decide +kernel
theorem dX9_nextUserOf_12 : decode cX9_nextUserOf 12 = .ok (.areturn, 1) := by decide +kernel
theorem dX9_nextUserOf_13 : decode cX9_nextUserOf 13 = .ok (.aload_n 1, 1) := by decide +kernel
theorem dX9_nextUserOf_14 : decode cX9_nextUserOf 14 = .ok (.aload_n 0, 1) := by decide +kernel
theorem dX9_nextUserOf_15 : decode cX9_nextUserOf 15 = .ok (.getfield 36, 3) := by decide +kernel
theorem dX9_nextUserOf_18 : decode cX9_nextUserOf 18 = .ok (.if_acmp .ne 10, 3) := by decide +kernel
theorem dX9_nextUserOf_21 : decode cX9_nextUserOf 21 = .ok (.aload_n 0, 1) := by decide +kernel
theorem dX9_nextUserOf_22 : decode cX9_nextUserOf 22 = .ok (.getfield 39, 3) := by decide +kernel
theorem dX9_nextUserOf_25 : decode cX9_nextUserOf 25 = .ok (.goto 7, 3) := by decide +kernel
theorem dX9_nextUserOf_28 : decode cX9_nextUserOf 28 = .ok (.aload_n 0, 1) := by decide +kernel
theorem dX9_nextUserOf_29 : decode cX9_nextUserOf 29 = .ok (.getfield 42, 3) := by decide +kernel
theorem dX9_nextUserOf_32 : decode cX9_nextUserOf 32 = .ok (.areturn, 1) := by decide +kernel
theorem cc_X9_nextUserOf : Cond.code yX9_nextUserOf cX9_nextUserOf 2 (some (.object "PartHouse$Term")) ∈ rf_tb := rf_at 1454 (by decide +kernel) (by decide +kernel)
noncomputable def bc_X9_nextUserOf_0 (a : Nat) (x1 : (Option Nat)) (σ : cl_S) : Option ((Option Nat) × cl_S) := vl (σ.2.2.1 a 3) (fun r_2 => (if x1 = r_2 then vl (σ.2.2.1 a 13) (fun r_18 => some (r_18, σ)) else vl (σ.2.2.1 a 4) (fun r_6 => (if x1 = r_6 then vl (σ.2.2.1 a 14) (fun r_14 => some (r_14, σ)) else vl (σ.2.2.1 a 15) (fun r_10 => some (r_10, σ))))))
set_option maxHeartbeats 4000000 in
theorem wc_X9_nextUserOf_0 (C : cl_C D p s m args meth c cX9_nextUserOf 2 (some (.object "PartHouse$Term")) RX9) {r : (Option Nat)} {a : Nat} {x1 : (Option Nat)} {σ0 σ σ' : cl_S} {T : Nat → Nat × Nat} {H : Heap} {locs : List Loc} {ls : Array Slot} {cells slots : Nat} (h : bc_X9_nextUserOf_0 a x1 σ = some (r, σ')) (G : cl_G true D c0 ({ frames := 0, cells := σ0.2.2.2.2.2.1, slots := σ0.2.2.2.2.2.2, locals := 0 }) s σ0.2.2.2.1 T σ H locs cells slots) (ha : (T a).1 = 25) (f1 : cl_RT T x1 25) (hl : lv_has ls 2 [(0, .ref (c0 + a)), (1, cl_rf c0 x1)]) : W p l e ({ frames := 0, cells := σ0.2.2.2.2.2.1, slots := σ0.2.2.2.2.2.2, locals := 0 }) s m args below meth c H locs cells slots (MQ below (cl_Q true D c0 (some (cl_rf c0 r)) (fun T1 => cl_RT T1 r 25) σ0 σ') args s (σ0.2.2.2.2.2.1 - σ'.2.2.2.2.2.1) (σ0.2.2.2.2.2.2 - σ'.2.2.2.2.2.2) (cl_A c0 σ0.2.2.2.1 s.heap.size)) (F0 m 0 ls []) := by
  unfold bc_X9_nextUserOf_0 at h
  refine cl_aload_n C.1 C.2.1 dX9_nextUserOf_0 rfl (lv_at hl 1 rfl) ?_
  refine lv_aload_n C.1 C.2.1 dX9_nextUserOf_1 rfl (lv_at hl 0 rfl) ?_
  refine cg_9_30 C G ha dX9_nextUserOf_2 (fun t_1 => ?_)
  refine vt_r (K := 25) t_1 h (fun r_2 t_3 h_4 => ?_)
  refine cl_acmp_ne (rx := x1) (ry := r_2) (tgt := 13) C.1 C.2.1 dX9_nextUserOf_5 (by decide) (fun hc => ?_) (fun hc => ?_)
  · rw [if_neg hc] at h_4
    refine cl_aload_n C.1 C.2.1 dX9_nextUserOf_13 rfl (lv_at hl 1 rfl) ?_
    refine lv_aload_n C.1 C.2.1 dX9_nextUserOf_14 rfl (lv_at hl 0 rfl) ?_
    refine cg_9_36 C G ha dX9_nextUserOf_15 (fun t_5 => ?_)
    refine vt_r (K := 25) t_5 h_4 (fun r_6 t_7 h_8 => ?_)
    refine cl_acmp_ne (rx := x1) (ry := r_6) (tgt := 28) C.1 C.2.1 dX9_nextUserOf_18 (by decide) (fun hc => ?_) (fun hc => ?_)
    · rw [if_neg hc] at h_8
      refine lv_aload_n C.1 C.2.1 dX9_nextUserOf_28 rfl (lv_at hl 0 rfl) ?_
      refine cg_9_42 C G ha dX9_nextUserOf_29 (fun t_9 => ?_)
      refine vt_r (K := 25) t_9 h_8 (fun r_10 t_11 h_12 => ?_)
      exact cl_aret (v := r_10) ⟨rfl, rfl⟩ rfl C G h_12 (by first | exact Or.inl ⟨_, rfl⟩ | exact Or.inr ⟨_, rfl⟩) t_11 dX9_nextUserOf_32
    · rw [if_pos hc] at h_8
      refine lv_aload_n C.1 C.2.1 dX9_nextUserOf_21 rfl (lv_at hl 0 rfl) ?_
      refine cg_9_39 C G ha dX9_nextUserOf_22 (fun t_13 => ?_)
      refine vt_r (K := 25) t_13 h_8 (fun r_14 t_15 h_16 => ?_)
      refine lv_goto (tgt := 32) C.1 C.2.1 dX9_nextUserOf_25 (by decide) ?_
      exact cl_aret (v := r_14) ⟨rfl, rfl⟩ rfl C G h_16 (by first | exact Or.inl ⟨_, rfl⟩ | exact Or.inr ⟨_, rfl⟩) t_15 dX9_nextUserOf_32
  · rw [if_pos hc] at h_4
    refine lv_aload_n C.1 C.2.1 dX9_nextUserOf_8 rfl (lv_at hl 0 rfl) ?_
    refine cg_9_33 C G ha dX9_nextUserOf_9 (fun t_17 => ?_)
    refine vt_r (K := 25) t_17 h_4 (fun r_18 t_19 h_20 => ?_)
    exact cl_aret (v := r_18) ⟨rfl, rfl⟩ rfl C G h_20 (by first | exact Or.inl ⟨_, rfl⟩ | exact Or.inr ⟨_, rfl⟩) t_19 dX9_nextUserOf_12
noncomputable def fc_X9_nextUserOf (a : Nat) (x1 : (Option Nat)) (σ : cl_S) : Option ((Option Nat) × cl_S) := bc_X9_nextUserOf_0 a x1 σ
theorem kc_X9_nextUserOf (l : Launch) (D : cl_D) (c0 : Nat) {r : (Option Nat)} {a : Nat} {x1 : (Option Nat)} {σ σ' : cl_S} (ha : (σ.2.2.2.1 a).1 = 25) (h : fc_X9_nextUserOf a x1 σ = some (r, σ')) (f1 : cl_RT σ.2.2.2.1 x1 25) : cl_Met true l D c0 yX9_nextUserOf cX9_nextUserOf 2 (some (.object "PartHouse$Term")) 0 0 [.ref (c0 + a), cl_rf c0 x1] σ (some (cl_rf c0 r)) (fun T1 => cl_RT T1 r 25) σ' :=
  by cases x1 <;> exact cl_of (by decide) (Nat.le_of_ble_eq_true rfl) (fun p e s m args below meth c ls C hn G hl => wc_X9_nextUserOf_0 C h G ha f1 hl)
abbrev cX10_hasWords : ByteArray := prog_12_method_11_code
def yX10_hasWords : MethodName := ⟨RX10, "hasWords", "(LPartHouse$Term;[II)Z"⟩
theorem dX10_hasWords_0 : decode cX10_hasWords 0 = .ok (.aload_n 0, 1) := by decide +kernel
theorem dX10_hasWords_1 : decode cX10_hasWords 1 = .ok (.getfield 121, 3) := by decide +kernel
theorem dX10_hasWords_4 : decode cX10_hasWords 4 = .ok (.arraylength, 1) := by decide +kernel
theorem dX10_hasWords_5 : decode cX10_hasWords 5 = .ok (.iload_n 2, 1) := by decide +kernel
theorem dX10_hasWords_6 : decode cX10_hasWords 6 = .ok (.if_icmp .eq 5, 3) := by decide +kernel
theorem dX10_hasWords_9 : decode cX10_hasWords 9 = .ok (.iconst 0, 1) := by decide +kernel
theorem dX10_hasWords_10 : decode cX10_hasWords 10 = .ok (.ireturn, 1) := by decide +kernel
theorem dX10_hasWords_11 : decode cX10_hasWords 11 = .ok (.iconst 0, 1) := by decide +kernel
theorem dX10_hasWords_12 : decode cX10_hasWords 12 = .ok (.istore_n 3, 1) := by decide +kernel
theorem dX10_hasWords_13 : decode cX10_hasWords 13 = .ok (.iload_n 3, 1) := by decide +kernel
theorem dX10_hasWords_14 : decode cX10_hasWords 14 = .ok (.iload_n 2, 1) := by decide +kernel
theorem dX10_hasWords_15 : decode cX10_hasWords 15 = .ok (.if_icmp .ge 23, 3) := by decide +kernel
theorem dX10_hasWords_18 : decode cX10_hasWords 18 = .ok (.aload_n 0, 1) := by decide +kernel
theorem dX10_hasWords_19 : decode cX10_hasWords 19 = .ok (.getfield 121, 3) := by decide +kernel
theorem dX10_hasWords_22 : decode cX10_hasWords 22 = .ok (.iload_n 3, 1) := by decide +kernel
theorem dX10_hasWords_23 : decode cX10_hasWords 23 = .ok (.iaload, 1) := by decide +kernel
theorem dX10_hasWords_24 : decode cX10_hasWords 24 = .ok (.aload_n 1, 1) := by decide +kernel
theorem dX10_hasWords_25 : decode cX10_hasWords 25 = .ok (.iload_n 3, 1) := by decide +kernel
theorem dX10_hasWords_26 : decode cX10_hasWords 26 = .ok (.iaload, 1) := by decide +kernel
theorem dX10_hasWords_27 : decode cX10_hasWords 27 = .ok (.if_icmp .eq 5, 3) := by decide +kernel
theorem dX10_hasWords_30 : decode cX10_hasWords 30 = .ok (.iconst 0, 1) := by decide +kernel
theorem dX10_hasWords_31 : decode cX10_hasWords 31 = .ok (.ireturn, 1) := by decide +kernel
theorem dX10_hasWords_32 : decode cX10_hasWords 32 = .ok (.iinc 3 1, 3) := by decide +kernel
theorem dX10_hasWords_35 : decode cX10_hasWords 35 = .ok (.goto (-22), 3) := by decide +kernel
theorem dX10_hasWords_38 : decode cX10_hasWords 38 = .ok (.iconst 1, 1) := by decide +kernel
theorem dX10_hasWords_39 : decode cX10_hasWords 39 = .ok (.ireturn, 1) := by decide +kernel
theorem cc_X10_hasWords : Cond.code yX10_hasWords cX10_hasWords 4 (some .boolean) ∈ rf_tb := rf_at 1067 (by decide +kernel) (by decide +kernel)
noncomputable def lc_X10_hasWords_13 (x0 : (Option Nat)) (x1 : (Option Nat)) (x2 : Int32) (x3 : Int32) (σ : cl_S) : Option ((Int32 × cl_S) ⊕ ((Int32 × cl_S) ⊕ (Int32 × cl_S))) := (if x2 ≤ x3 then some (.inr (.inr (x3, σ))) else nn x0 (fun a_9 => nn (σ.2.2.1 a_9 6) (fun a_12 => ix x3 (σ.2.2.2.1 a_12).2 (nn x1 (fun a_17 => ix x3 (σ.2.2.2.1 a_17).2 ((if (σ.1 a_12 x3.toNatClampNeg) = (σ.1 a_17 x3.toNatClampNeg) then vl (x3 + (1:Int32)) (fun x3_22 => some (.inl (x3_22, σ))) else some (.inr (.inl ((0:Int32), σ))))))))))
noncomputable def ec_X10_hasWords_13 (x0 : (Option Nat)) (x1 : (Option Nat)) (x2 : Int32) (x3 : Int32) (σ : cl_S) : Option (Int32 × cl_S) := some ((1:Int32), σ)
noncomputable def bc_X10_hasWords_13 (x0 : (Option Nat)) (x1 : (Option Nat)) (x2 : Int32) (x3 : Int32) (σ : cl_S) : Option (Int32 × cl_S) := (lp (fun z : (Int32 × cl_S) => lc_X10_hasWords_13 x0 x1 x2 z.1 z.2) (x3, σ)).bind (fun y => Sum.elim (fun z => some z) (fun z => ec_X10_hasWords_13 x0 x1 x2 z.1 z.2) y)
set_option maxHeartbeats 4000000 in
theorem wc_X10_hasWords_13 (C : cl_C D p s m args meth c cX10_hasWords 4 (some .boolean) RX10) {r : Int32} {x0 : (Option Nat)} {x1 : (Option Nat)} {x2 : Int32} {x3 : Int32} {σ0 σ σ' : cl_S} {T : Nat → Nat × Nat} {H : Heap} {locs : List Loc} {ls : Array Slot} {cells slots : Nat} (h : bc_X10_hasWords_13 x0 x1 x2 x3 σ = some (r, σ')) (G : cl_G true D c0 ({ frames := 0, cells := σ0.2.2.2.2.2.1, slots := σ0.2.2.2.2.2.2, locals := 0 }) s σ0.2.2.2.1 T σ H locs cells slots) (f0 : cl_RT T x0 25) (f1 : cl_RT T x1 1) (hl : lv_has ls 4 [(0, cl_rf c0 x0), (1, cl_rf c0 x1), (2, .int x2), (3, .int x3)]) : W p l e ({ frames := 0, cells := σ0.2.2.2.2.2.1, slots := σ0.2.2.2.2.2.2, locals := 0 }) s m args below meth c H locs cells slots (MQ below (cl_Q true D c0 (some (.int r)) cl_no σ0 σ') args s (σ0.2.2.2.2.2.1 - σ'.2.2.2.2.2.1) (σ0.2.2.2.2.2.2 - σ'.2.2.2.2.2.2) (cl_A c0 σ0.2.2.2.1 s.heap.size)) (F0 m 13 ls []) := by
  unfold bc_X10_hasWords_13 at h
  obtain ⟨y, hy, h⟩ := bd_some h
  have hE : (Sum.elim (fun z : Int32 × cl_S => z = (r, σ')) (fun z : (Int32 × cl_S) => ∀ (T : Nat → Nat × Nat) (H : Heap) (locs : List Loc) (ls : Array Slot) (cells slots : Nat), cl_G true D c0 ({ frames := 0, cells := σ0.2.2.2.2.2.1, slots := σ0.2.2.2.2.2.2, locals := 0 }) s σ0.2.2.2.1 T z.2 H locs cells slots → cl_RT T x0 25 → cl_RT T x1 1 → lv_has ls 4 [(0, cl_rf c0 x0), (1, cl_rf c0 x1), (2, .int x2), (3, .int (z.1))] → W p l e ({ frames := 0, cells := σ0.2.2.2.2.2.1, slots := σ0.2.2.2.2.2.2, locals := 0 }) s m args below meth c H locs cells slots (MQ below (cl_Q true D c0 (some (.int r)) cl_no σ0 σ') args s (σ0.2.2.2.2.2.1 - σ'.2.2.2.2.2.1) (σ0.2.2.2.2.2.2 - σ'.2.2.2.2.2.2) (cl_A c0 σ0.2.2.2.1 s.heap.size)) (F0 m 38 ls []))) y := by
    clear hy G f0 f1 hl
    cases y with
    | inl z =>
      exact Option.some.inj h
    | inr z =>
      intro T H locs ls cells slots G f0 f1 hl
      have h := se_r h
      obtain ⟨x3, σ⟩ := z
      dsimp only at h G f0 f1 hl
      unfold ec_X10_hasWords_13 at h
      refine lv_iconst (v := (1:Int32)) C.1 C.2.1 dX10_hasWords_38 (by decide) ?_
      exact cl_zret ⟨rfl, rfl⟩ rfl C G h rfl dX10_hasWords_39
  refine lp_recE (fun z : (Int32 × cl_S) => ∀ (T : Nat → Nat × Nat) (H : Heap) (locs : List Loc) (ls : Array Slot) (cells slots : Nat), cl_G true D c0 ({ frames := 0, cells := σ0.2.2.2.2.2.1, slots := σ0.2.2.2.2.2.2, locals := 0 }) s σ0.2.2.2.1 T z.2 H locs cells slots → cl_RT T x0 25 → cl_RT T x1 1 → lv_has ls 4 [(0, cl_rf c0 x0), (1, cl_rf c0 x1), (2, .int x2), (3, .int (z.1))] → W p l e ({ frames := 0, cells := σ0.2.2.2.2.2.1, slots := σ0.2.2.2.2.2.2, locals := 0 }) s m args below meth c H locs cells slots (MQ below (cl_Q true D c0 (some (.int r)) cl_no σ0 σ') args s (σ0.2.2.2.2.2.1 - σ'.2.2.2.2.2.1) (σ0.2.2.2.2.2.2 - σ'.2.2.2.2.2.2) (cl_A c0 σ0.2.2.2.1 s.heap.size)) (F0 m 13 ls [])) (Sum.elim (fun z : Int32 × cl_S => z = (r, σ')) (fun z : (Int32 × cl_S) => ∀ (T : Nat → Nat × Nat) (H : Heap) (locs : List Loc) (ls : Array Slot) (cells slots : Nat), cl_G true D c0 ({ frames := 0, cells := σ0.2.2.2.2.2.1, slots := σ0.2.2.2.2.2.2, locals := 0 }) s σ0.2.2.2.1 T z.2 H locs cells slots → cl_RT T x0 25 → cl_RT T x1 1 → lv_has ls 4 [(0, cl_rf c0 x0), (1, cl_rf c0 x1), (2, .int x2), (3, .int (z.1))] → W p l e ({ frames := 0, cells := σ0.2.2.2.2.2.1, slots := σ0.2.2.2.2.2.2, locals := 0 }) s m args below meth c H locs cells slots (MQ below (cl_Q true D c0 (some (.int r)) cl_no σ0 σ') args s (σ0.2.2.2.2.2.1 - σ'.2.2.2.2.2.1) (σ0.2.2.2.2.2.2 - σ'.2.2.2.2.2.2) (cl_A c0 σ0.2.2.2.1 s.heap.size)) (F0 m 38 ls []))) ?_ _ _ hy hE _ _ _ _ _ _ G f0 f1 hl
  clear hE hy G f0 f1 hl h
  intro z o h hP T H locs ls cells slots G f0 f1 hl
  obtain ⟨x3, σ⟩ := z
  dsimp only at h G f0 f1 hl
  unfold lc_X10_hasWords_13 at h
  refine lv_iload_n C.1 C.2.1 dX10_hasWords_13 rfl (lv_at hl 3 rfl) ?_
  refine lv_iload_n C.1 C.2.1 dX10_hasWords_14 rfl (lv_at hl 2 rfl) ?_
  refine lv_icmp_ge (tgt := 38) C.1 C.2.1 dX10_hasWords_15 (by decide) (fun hc => ?_) (fun hc => ?_)
  · rw [if_pos hc] at h
    cases h
    exact hP _ _ _ _ _ _ G f0 f1 (lv_sub hl [0, 1, 2, 3] rfl)
  · rw [if_neg hc] at h
    refine cl_aload_n C.1 C.2.1 dX10_hasWords_18 rfl (lv_at hl 0 rfl) ?_
    obtain ⟨a_9, rfl, h_11⟩ := nn_some h
    have t_10 := f0 _ rfl
    obtain ⟨a_12, hw, h_14⟩ := nn_some h_11
    refine cg_10_121 C G t_10 hw dX10_hasWords_19 (fun t_13 => ?_)
    refine lv_iload_n C.1 C.2.1 dX10_hasWords_22 rfl (lv_at hl 3 rfl) ?_
    have t_15 : T a_12 = (1, (σ.2.2.2.1 a_12).2) := by rw [G.1]; exact Prod.ext t_13 rfl
    obtain ⟨hi, h_16⟩ := ix_some h_14
    refine cl_iald C G t_15 hi dX10_hasWords_23 ?_
    refine cl_aload_n C.1 C.2.1 dX10_hasWords_24 rfl (lv_at hl 1 rfl) ?_
    refine lv_iload_n C.1 C.2.1 dX10_hasWords_25 rfl (lv_at hl 3 rfl) ?_
    obtain ⟨a_17, rfl, h_19⟩ := nn_some h_16
    have t_18 := f1 _ rfl
    have t_20 : T a_17 = (1, (σ.2.2.2.1 a_17).2) := by rw [G.1]; exact Prod.ext t_18 rfl
    obtain ⟨hi, h_21⟩ := ix_some h_19
    refine cl_iald C G t_20 hi dX10_hasWords_26 ?_
    refine lv_icmp_eq (tgt := 32) C.1 C.2.1 dX10_hasWords_27 (by decide) (fun hc => ?_) (fun hc => ?_)
    · rw [if_pos hc] at h_21
      refine vl_ex h_21 (fun x3_22 ey h_23 => ?_)
      refine lv_iinc (v := x3_22) (lv' := [(3, .int x3_22), (0, .ref (c0 + a_9)), (1, .ref (c0 + a_17)), (2, .int x2)]) C.1 C.2.1 dX10_hasWords_32 hl (k := 3) rfl (by rw [ey]; rfl) (by decide) rfl (fun ls hl_24 => ?_)
      refine lv_goto (tgt := 13) C.1 C.2.1 dX10_hasWords_35 (by decide) ?_
      cases h_23
      exact hP _ _ _ _ _ _ G (cl_RTs t_10) (cl_RTs (by rw [t_18])) (lv_sub hl_24 [1, 2, 3, 0] rfl)
    · rw [if_neg hc] at h_21
      refine lv_iconst (v := (0:Int32)) C.1 C.2.1 dX10_hasWords_30 (by decide) ?_
      cases h_21
      have hP := congrArg some hP
      exact cl_zret ⟨rfl, rfl⟩ rfl C G hP rfl dX10_hasWords_31
noncomputable def bc_X10_hasWords_0 (x0 : (Option Nat)) (x1 : (Option Nat)) (x2 : Int32) (σ : cl_S) : Option (Int32 × cl_S) := nn x0 (fun a_1 => nn (σ.2.2.1 a_1 6) (fun a_4 => (if (nI ((σ.2.2.2.1 a_4).2)) = x2 then bc_X10_hasWords_13 (some a_1) x1 x2 (0:Int32) σ else some ((0:Int32), σ))))
set_option maxHeartbeats 4000000 in
theorem wc_X10_hasWords_0 (C : cl_C D p s m args meth c cX10_hasWords 4 (some .boolean) RX10) {r : Int32} {x0 : (Option Nat)} {x1 : (Option Nat)} {x2 : Int32} {σ0 σ σ' : cl_S} {T : Nat → Nat × Nat} {H : Heap} {locs : List Loc} {ls : Array Slot} {cells slots : Nat} (h : bc_X10_hasWords_0 x0 x1 x2 σ = some (r, σ')) (G : cl_G true D c0 ({ frames := 0, cells := σ0.2.2.2.2.2.1, slots := σ0.2.2.2.2.2.2, locals := 0 }) s σ0.2.2.2.1 T σ H locs cells slots) (f0 : cl_RT T x0 25) (f1 : cl_RT T x1 1) (hl : lv_has ls 4 [(0, cl_rf c0 x0), (1, cl_rf c0 x1), (2, .int x2)]) : W p l e ({ frames := 0, cells := σ0.2.2.2.2.2.1, slots := σ0.2.2.2.2.2.2, locals := 0 }) s m args below meth c H locs cells slots (MQ below (cl_Q true D c0 (some (.int r)) cl_no σ0 σ') args s (σ0.2.2.2.2.2.1 - σ'.2.2.2.2.2.1) (σ0.2.2.2.2.2.2 - σ'.2.2.2.2.2.2) (cl_A c0 σ0.2.2.2.1 s.heap.size)) (F0 m 0 ls []) := by
  unfold bc_X10_hasWords_0 at h
  refine cl_aload_n C.1 C.2.1 dX10_hasWords_0 rfl (lv_at hl 0 rfl) ?_
  obtain ⟨a_1, rfl, h_3⟩ := nn_some h
  have t_2 := f0 _ rfl
  obtain ⟨a_4, hw, h_6⟩ := nn_some h_3
  refine cg_10_121 C G t_2 hw dX10_hasWords_1 (fun t_5 => ?_)
  have t_7 : T a_4 = (1, (σ.2.2.2.1 a_4).2) := by rw [G.1]; exact Prod.ext t_5 rfl
  refine cl_alen C G t_7 dX10_hasWords_4 ?_
  refine lv_iload_n C.1 C.2.1 dX10_hasWords_5 rfl (lv_at hl 2 rfl) ?_
  refine lv_icmp_eq (tgt := 11) C.1 C.2.1 dX10_hasWords_6 (by decide) (fun hc => ?_) (fun hc => ?_)
  · rw [if_pos hc] at h_6
    refine lv_iconst (v := (0:Int32)) C.1 C.2.1 dX10_hasWords_11 (by decide) ?_
    refine lv_istore_n (lv' := [(3, .int (0:Int32)), (0, .ref (c0 + a_1)), (1, cl_rf c0 x1), (2, .int x2)]) C.1 C.2.1 dX10_hasWords_12 rfl hl (by decide) (by first | rfl | (cases x1 <;> rfl)) (fun ls hl_8 => ?_)
    exact wc_X10_hasWords_13 C h_6 G (cl_RTs t_2) f1 (lv_sub hl_8 [1, 2, 3, 0] rfl)
  · rw [if_neg hc] at h_6
    refine lv_iconst (v := (0:Int32)) C.1 C.2.1 dX10_hasWords_9 (by decide) ?_
    exact cl_zret ⟨rfl, rfl⟩ rfl C G h_6 rfl dX10_hasWords_10
noncomputable def fc_X10_hasWords (x0 : (Option Nat)) (x1 : (Option Nat)) (x2 : Int32) (σ : cl_S) : Option (Int32 × cl_S) := bc_X10_hasWords_0 x0 x1 x2 σ
theorem kc_X10_hasWords (l : Launch) (D : cl_D) (c0 : Nat) {r : Int32} {x0 : (Option Nat)} {x1 : (Option Nat)} {x2 : Int32} {σ σ' : cl_S} (h : fc_X10_hasWords x0 x1 x2 σ = some (r, σ')) (f0 : cl_RT σ.2.2.2.1 x0 25) (f1 : cl_RT σ.2.2.2.1 x1 1) : cl_Met true l D c0 yX10_hasWords cX10_hasWords 4 (some .boolean) 0 0 [cl_rf c0 x0, cl_rf c0 x1, .int x2] σ (some (.int r)) cl_no σ' :=
  by cases x0 <;> cases x1 <;> exact cl_of (by decide) (Nat.le_of_ble_eq_true rfl) (fun p e s m args below meth c ls C hn G hl => wc_X10_hasWords_0 C h G f0 f1 hl)
end CQ11
