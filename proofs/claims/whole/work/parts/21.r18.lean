section RQ17
variable {p : Program} {l : Launch} {e : Env} {s : State} {m : MethodId} {args : Array Value} {below : List Frame} {meth : Method} {c : Code} {D : rf_D} {h0 : Nat}
abbrev cX12_purge : ByteArray := prog_14_method_124_code
def yX12_purge : MethodName := ⟨RX12, "purge", "(I)I"⟩
theorem dX12_purge_0 : decode cX12_purge 0 = .ok (.iload_n 1, 1) := by decide +kernel
theorem dX12_purge_1 : decode cX12_purge 1 = .ok (.ifCond .lt 11, 3) := by decide +kernel
theorem dX12_purge_4 : decode cX12_purge 4 = .ok (.iload_n 1, 1) := by decide +kernel
theorem dX12_purge_5 : decode cX12_purge 5 = .ok (.aload_n 0, 1) := by decide +kernel
theorem dX12_purge_6 : decode cX12_purge 6 = .ok (.getfield 513, 3) := by decide +kernel
theorem dX12_purge_9 : decode cX12_purge 9 = .ok (.if_icmp .lt 5, 3) := by decide +kernel
theorem dX12_purge_12 : decode cX12_purge 12 = .ok (.iconst (-1), 1) := by decide +kernel
theorem dX12_purge_13 : decode cX12_purge 13 = .ok (.ireturn, 1) := by decide +kernel
theorem dX12_purge_14 : decode cX12_purge 14 = .ok (.aload_n 0, 1) := by decide +kernel
theorem dX12_purge_15 : decode cX12_purge 15 = .ok (.getfield 547, 3) := by decide +kernel
theorem dX12_purge_18 : decode cX12_purge 18 = .ok (.sipush 500, 3) := by decide +kernel
theorem dX12_purge_21 : decode cX12_purge 21 = .ok (.if_icmp .le 6, 3) := by decide +kernel
theorem dX12_purge_24 : decode cX12_purge 24 = .ok (.bipush (-4), 2) := by decide +kernel
theorem dX12_purge_26 : decode cX12_purge 26 = .ok (.ireturn, 1) := by decide +kernel
theorem dX12_purge_27 : decode cX12_purge 27 = .ok (.aload_n 0, 1) := by decide +kernel
theorem dX12_purge_28 : decode cX12_purge 28 = .ok (.getfield 293, 3) := by decide +kernel
theorem dX12_purge_31 : decode cX12_purge 31 = .ok (.istore_n 2, 1) := by decide +kernel
theorem dX12_purge_32 : decode cX12_purge 32 = .ok (.aload_n 0, 1) := by decide +kernel
theorem dX12_purge_33 : decode cX12_purge 33 = .ok (.getfield 278, 3) := by decide +kernel
theorem dX12_purge_36 : decode cX12_purge 36 = .ok (.istore_n 3, 1) := by decide +kernel
theorem dX12_purge_37 : decode cX12_purge 37 = .ok (.aload_n 0, 1) := by decide +kernel
theorem dX12_purge_38 : decode cX12_purge 38 = .ok (.iconst 1, 1) := by decide +kernel
theorem dX12_purge_39 : decode cX12_purge 39 = .ok (.putfield 525, 3) := by decide +kernel
theorem dX12_purge_42 : decode cX12_purge 42 = .ok (.aload_n 0, 1) := by decide +kernel
theorem dX12_purge_43 : decode cX12_purge 43 = .ok (.iload_n 1, 1) := by decide +kernel
theorem dX12_purge_44 : decode cX12_purge 44 = .ok (.invokevirtual 702, 3) := by decide +kernel
theorem dX12_purge_47 : decode cX12_purge 47 = .ok (.iconst 0, 1) := by decide +kernel
theorem dX12_purge_48 : decode cX12_purge 48 = .ok (.istore 4, 2) := by decide +kernel
theorem dX12_purge_50 : decode cX12_purge 50 = .ok (.iconst 0, 1) := by decide +kernel
theorem dX12_purge_51 : decode cX12_purge 51 = .ok (.istore 5, 2) := by decide +kernel
theorem dX12_purge_53 : decode cX12_purge 53 = .ok (.iload 5, 2) := by decide +kernel
theorem dX12_purge_55 : decode cX12_purge 55 = .ok (.aload_n 0, 1) := by decide +kernel
theorem dX12_purge_56 : decode cX12_purge 56 = .ok (.getfield 167, 3) := by decide +kernel
theorem dX12_purge_59 : decode cX12_purge 59 = .ok (.iconst 0, 1) := by decide +kernel
theorem dX12_purge_60 : decode cX12_purge 60 = .ok (.iaload, 1) := by decide +kernel
theorem dX12_purge_61 : decode cX12_purge 61 = .ok (.if_icmp .ge 68, 3) := by decide +kernel
theorem dX12_purge_64 : decode cX12_purge 64 = .ok (.iload 4, 2) := by decide +kernel
theorem dX12_purge_66 : decode cX12_purge 66 = .ok (.aload_n 0, 1) := by decide +kernel
theorem dX12_purge_67 : decode cX12_purge 67 = .ok (.getfield 547, 3) := by decide +kernel
theorem dX12_purge_70 : decode cX12_purge 70 = .ok (.if_icmp .ge 47, 3) := by decide +kernel
theorem dX12_purge_73 : decode cX12_purge 73 = .ok (.aload_n 0, 1) := by decide +kernel
theorem dX12_purge_74 : decode cX12_purge 74 = .ok (.getfield 155, 3) := by decide +kernel
theorem dX12_purge_77 : decode cX12_purge 77 = .ok (.iload 4, 2) := by decide +kernel
theorem dX12_purge_79 : decode cX12_purge 79 = .ok (.iaload, 1) := by decide +kernel
theorem dX12_purge_80 : decode cX12_purge 80 = .ok (.iload 5, 2) := by decide +kernel
theorem dX12_purge_82 : decode cX12_purge 82 = .ok (.if_icmp .ne 35, 3) := by decide +kernel
theorem dX12_purge_85 : decode cX12_purge 85 = .ok (.aload_n 0, 1) := by decide +kernel
theorem dX12_purge_86 : decode cX12_purge 86 = .ok (.getfield 134, 3) := by decide +kernel
theorem dX12_purge_89 : decode cX12_purge 89 = .ok (.bipush 8, 2) := by decide +kernel
theorem dX12_purge_91 : decode cX12_purge 91 = .ok (.aload_n 0, 1) := by decide +kernel
theorem dX12_purge_92 : decode cX12_purge 92 = .ok (.getfield 158, 3) := by decide +kernel
theorem dX12_purge_95 : decode cX12_purge 95 = .ok (.iload 4, 2) := by decide +kernel
theorem dX12_purge_97 : decode cX12_purge 97 = .ok (.iaload, 1) := by decide +kernel
theorem dX12_purge_98 : decode cX12_purge 98 = .ok (.imul, 1) := by decide +kernel
theorem dX12_purge_99 : decode cX12_purge 99 = .ok (.iload_n 1, 1) := by decide +kernel
theorem dX12_purge_100 : decode cX12_purge 100 = .ok (.iadd, 1) := by decide +kernel
theorem dX12_purge_101 : decode cX12_purge 101 = .ok (.baload, 1) := by decide +kernel
theorem dX12_purge_102 : decode cX12_purge 102 = .ok (.ifCond .eq 9, 3) := by decide +kernel
theorem dX12_purge_105 : decode cX12_purge 105 = .ok (.aload_n 0, 1) := by decide +kernel
theorem dX12_purge_106 : decode cX12_purge 106 = .ok (.iload 4, 2) := by decide +kernel
theorem dX12_purge_108 : decode cX12_purge 108 = .ok (.invokevirtual 705, 3) := by decide +kernel
theorem dX12_purge_111 : decode cX12_purge 111 = .ok (.iinc 4 1, 3) := by decide +kernel
theorem dX12_purge_114 : decode cX12_purge 114 = .ok (.goto (-50), 3) := by decide +kernel
theorem dX12_purge_117 : decode cX12_purge 117 = .ok (.aload_n 0, 1) := by decide +kernel
theorem dX12_purge_118 : decode cX12_purge 118 = .ok (.invokevirtual 560, 3) := by decide +kernel
theorem dX12_purge_121 : decode cX12_purge 121 = .ok (.istore 6, 2) := by decide +kernel
theorem dX12_purge_123 : decode cX12_purge 123 = .ok (.iinc 5 1, 3) := by decide +kernel
theorem dX12_purge_126 : decode cX12_purge 126 = .ok (.goto (-73), 3) := by decide +kernel
theorem dX12_purge_129 : decode cX12_purge 129 = .ok (.aload_n 0, 1) := by decide +kernel
theorem dX12_purge_130 : decode cX12_purge 130 = .ok (.iconst 0, 1) := by decide +kernel
theorem dX12_purge_131 : decode cX12_purge 131 = .ok (.putfield 525, 3) := by decide +kernel
theorem dX12_purge_134 : decode cX12_purge 134 = .ok (.aload_n 0, 1) := by decide +kernel
theorem dX12_purge_135 : decode cX12_purge 135 = .ok (.iload_n 1, 1) := by decide +kernel
theorem dX12_purge_136 : decode cX12_purge 136 = .ok (.invokevirtual 708, 3) := by decide +kernel
theorem dX12_purge_139 : decode cX12_purge 139 = .ok (.istore 5, 2) := by decide +kernel
theorem dX12_purge_141 : decode cX12_purge 141 = .ok (.aload_n 0, 1) := by decide +kernel
theorem dX12_purge_142 : decode cX12_purge 142 = .ok (.getfield 293, 3) := by decide +kernel
theorem dX12_purge_145 : decode cX12_purge 145 = .ok (.iload_n 2, 1) := by decide +kernel
theorem dX12_purge_146 : decode cX12_purge 146 = .ok (.if_icmp .le 8, 3) := by decide +kernel
theorem dX12_purge_149 : decode cX12_purge 149 = .ok (.aload_n 0, 1) := by decide +kernel
theorem dX12_purge_150 : decode cX12_purge 150 = .ok (.iconst (-1), 1) := by decide +kernel
theorem dX12_purge_151 : decode cX12_purge 151 = .ok (.putfield 47, 3) := by decide +kernel
theorem dX12_purge_154 : decode cX12_purge 154 = .ok (.aload_n 0, 1) := by decide +kernel
theorem dX12_purge_155 : decode cX12_purge 155 = .ok (.iload_n 2, 1) := by decide +kernel
theorem dX12_purge_156 : decode cX12_purge 156 = .ok (.invokevirtual 711, 3) := by decide +kernel
theorem dX12_purge_159 : decode cX12_purge 159 = .ok (.aload_n 0, 1) := by decide +kernel
theorem dX12_purge_160 : decode cX12_purge 160 = .ok (.iload_n 3, 1) := by decide +kernel
theorem dX12_purge_161 : decode cX12_purge 161 = .ok (.putfield 278, 3) := by decide +kernel
theorem dX12_purge_164 : decode cX12_purge 164 = .ok (.iload 5, 2) := by decide +kernel
theorem dX12_purge_166 : decode cX12_purge 166 = .ok (.ifCond .eq 7, 3) := by decide +kernel
theorem dX12_purge_169 : decode cX12_purge 169 = .ok (.iconst 1, 1) := by decide +kernel
theorem dX12_purge_170 : decode cX12_purge 170 = .ok (.goto 4, 3) := by decide +kernel
theorem dX12_purge_173 : decode cX12_purge 173 = .ok (.iconst 0, 1) := by decide +kernel
theorem dX12_purge_174 : decode cX12_purge 174 = .ok (.ireturn, 1) := by decide +kernel
theorem cc_purge : Cond.code yX12_purge cX12_purge 7 (some .int) ∈ rf_tb := rf_at 2368 (by decide +kernel) (by decide +kernel)
noncomputable def bq_purge_111i64 (x1 : Int32) (x2 : Int32) (x3 : Int32) (x4 : Int32) (x5 : Int32) (ρ : rf_S) : Option ((Int32 × rf_S) ⊕ (Int32 × rf_S)) := vl (x4 + (1:Int32)) (fun x4_5 => some (.inl (x4_5, ρ)))
set_option maxHeartbeats 4000000 in
theorem wq_purge_111i64 (C : rf_C D p s m args meth c cX12_purge 7 (some .int)) {r : Int32} {x1 : Int32} {x2 : Int32} {x3 : Int32} {x4 : Int32} {x5 : Int32} {ρ ρ' : rf_S} {H : Heap} {locs : List Loc} {ls : Array Slot} {o : (Int32 × rf_S) ⊕ (Int32 × rf_S)} (h : bq_purge_111i64 x1 x2 x3 x4 x5 ρ = some o) (hP : Sum.elim (fun z : (Int32 × rf_S) => ∀ (H : Heap) (locs : List Loc) (ls : Array Slot), rf_G D h0 s z.2 H locs → lv_has ls 7 [(0, .ref h0), (1, .int x1), (2, .int x2), (3, .int x3), (4, .int z.1), (5, .int x5)] → W p l e ({ frames := 9, cells := 0, slots := 0, locals := 219 }) s m args below meth c H locs 0 0 (MQ below (rf_Q D h0 (some (.int r)) ρ') args s 0 0 (rf_A h0)) (F0 m 64 ls [])) (fun z : (Int32 × rf_S) => ∀ (H : Heap) (locs : List Loc) (ls : Array Slot), rf_G D h0 s z.2 H locs → lv_has ls 7 [(0, .ref h0), (1, .int x1), (2, .int x2), (3, .int x3), (4, .int z.1), (5, .int x5)] → W p l e ({ frames := 9, cells := 0, slots := 0, locals := 219 }) s m args below meth c H locs 0 0 (MQ below (rf_Q D h0 (some (.int r)) ρ') args s 0 0 (rf_A h0)) (F0 m 117 ls [])) o) (G : rf_G D h0 s ρ H locs) (hl : lv_has ls 7 [(0, .ref h0), (1, .int x1), (2, .int x2), (3, .int x3), (4, .int x4), (5, .int x5)]) : W p l e ({ frames := 9, cells := 0, slots := 0, locals := 219 }) s m args below meth c H locs 0 0 (MQ below (rf_Q D h0 (some (.int r)) ρ') args s 0 0 (rf_A h0)) (F0 m 111 ls []) := by
  unfold bq_purge_111i64 at h
  refine vl_ex h (fun x4_5 ey h => ?_)
  refine lv_iinc (v := x4_5) (lv' := [(4, .int x4_5), (0, .ref h0), (1, .int x1), (2, .int x2), (3, .int x3), (5, .int x5)]) C.1 C.2.1 dX12_purge_111 hl (k := 4) rfl (by rw [ey]; rfl) (by decide) rfl (fun ls hl => ?_)
  refine lv_goto (tgt := 64) C.1 C.2.1 dX12_purge_114 (by decide) ?_
  cases h
  exact hP _ _ _ G (lv_sub hl [1, 2, 3, 4, 0, 5] rfl)
noncomputable def lq_purge_64i53 (x1 : Int32) (x2 : Int32) (x3 : Int32) (x5 : Int32) (x4 : Int32) (ρ : rf_S) : Option ((Int32 × rf_S) ⊕ (Int32 × rf_S)) := (if (ρ.1 0 78) ≤ x4 then some (.inr (x4, ρ)) else ix x4 500 ((if (ρ.1 44 x4.toNatClampNeg) = x5 then ix x4 500 (ix (((8:Int32) * (ρ.1 45 x4.toNatClampNeg)) + x1) 64 ((if (ρ.1 37 (((8:Int32) * (ρ.1 45 x4.toNatClampNeg)) + x1).toNatClampNeg) = 0 then bq_purge_111i64 x1 x2 x3 x4 x5 ρ else bd1 (fq_deliver x4 ρ) (fun ρ_6 => bq_purge_111i64 x1 x2 x3 x4 x5 ρ_6)))) else some (.inr (x4, ρ)))))
noncomputable def bq_purge_117i53 (x1 : Int32) (x2 : Int32) (x3 : Int32) (x4 : Int32) (x5 : Int32) (ρ : rf_S) : Option ((Int32 × Int32 × rf_S) ⊕ (Int32 × Int32 × rf_S)) := bd2 (fq_tick ρ) (fun r_8 ρ_7 => vl (x5 + (1:Int32)) (fun x5_9 => some (.inl (x4, x5_9, ρ_7))))
set_option maxHeartbeats 4000000 in
theorem wq_purge_117i53 (C : rf_C D p s m args meth c cX12_purge 7 (some .int)) {r : Int32} {x1 : Int32} {x2 : Int32} {x3 : Int32} {x4 : Int32} {x5 : Int32} {ρ ρ' : rf_S} {H : Heap} {locs : List Loc} {ls : Array Slot} {o : (Int32 × Int32 × rf_S) ⊕ (Int32 × Int32 × rf_S)} (h : bq_purge_117i53 x1 x2 x3 x4 x5 ρ = some o) (hP : Sum.elim (fun z : (Int32 × Int32 × rf_S) => ∀ (H : Heap) (locs : List Loc) (ls : Array Slot), rf_G D h0 s z.2.2 H locs → lv_has ls 7 [(0, .ref h0), (1, .int x1), (2, .int x2), (3, .int x3), (4, .int z.1), (5, .int z.2.1)] → W p l e ({ frames := 9, cells := 0, slots := 0, locals := 219 }) s m args below meth c H locs 0 0 (MQ below (rf_Q D h0 (some (.int r)) ρ') args s 0 0 (rf_A h0)) (F0 m 53 ls [])) (fun z : (Int32 × Int32 × rf_S) => ∀ (H : Heap) (locs : List Loc) (ls : Array Slot), rf_G D h0 s z.2.2 H locs → lv_has ls 7 [(0, .ref h0), (1, .int x1), (2, .int x2), (3, .int x3), (4, .int z.1), (5, .int z.2.1)] → W p l e ({ frames := 9, cells := 0, slots := 0, locals := 219 }) s m args below meth c H locs 0 0 (MQ below (rf_Q D h0 (some (.int r)) ρ') args s 0 0 (rf_A h0)) (F0 m 129 ls [])) o) (G : rf_G D h0 s ρ H locs) (hl : lv_has ls 7 [(0, .ref h0), (1, .int x1), (2, .int x2), (3, .int x3), (4, .int x4), (5, .int x5)]) : W p l e ({ frames := 9, cells := 0, slots := 0, locals := 219 }) s m args below meth c H locs 0 0 (MQ below (rf_Q D h0 (some (.int r)) ρ') args s 0 0 (rf_A h0)) (F0 m 117 ls []) := by
  unfold bq_purge_117i53 at h
  refine lv_aload_n C.1 C.2.1 dX12_purge_117 rfl (lv_at hl 0 rfl) ?_
  obtain ⟨r_8, ρ_7, hq, h⟩ := bd2_some h
  refine rf_callV (rest := []) C G cw_tick [] _ (kq_tick l D h0 hq) (Nat.le_of_ble_eq_true rfl) (Nat.le_of_ble_eq_true rfl) rfl rfl hl.1 (Nat.le_of_ble_eq_true rfl) (Nat.zero_le _) (Nat.zero_le _) dX12_purge_118 (fun H locs G => ?_)
  refine W.eq (g2 := F0 m 121 ls [.int r_8]) rfl ?_
  refine lv_istore (lv' := [(6, .int r_8), (0, .ref h0), (1, .int x1), (2, .int x2), (3, .int x3), (4, .int x4), (5, .int x5)]) C.1 C.2.1 dX12_purge_121 hl (by decide) rfl (fun ls hl => ?_)
  refine vl_ex h (fun x5_9 ey h => ?_)
  refine lv_iinc (v := x5_9) (lv' := [(5, .int x5_9), (6, .int r_8), (0, .ref h0), (1, .int x1), (2, .int x2), (3, .int x3), (4, .int x4)]) C.1 C.2.1 dX12_purge_123 hl (k := 6) rfl (by rw [ey]; rfl) (by decide) rfl (fun ls hl => ?_)
  refine lv_goto (tgt := 53) C.1 C.2.1 dX12_purge_126 (by decide) ?_
  cases h
  exact hP _ _ _ G (lv_sub hl [2, 3, 4, 5, 6, 0] rfl)
noncomputable def eq_purge_64i53 (x1 : Int32) (x2 : Int32) (x3 : Int32) (x5 : Int32) (x4 : Int32) (ρ : rf_S) : Option ((Int32 × Int32 × rf_S) ⊕ (Int32 × Int32 × rf_S)) := bq_purge_117i53 x1 x2 x3 x4 x5 ρ
noncomputable def bq_purge_64i53 (x1 : Int32) (x2 : Int32) (x3 : Int32) (x4 : Int32) (x5 : Int32) (ρ : rf_S) : Option ((Int32 × Int32 × rf_S) ⊕ (Int32 × Int32 × rf_S)) := (lp (fun z : (Int32 × rf_S) => lq_purge_64i53 x1 x2 x3 x5 z.1 z.2) (x4, ρ)).bind (fun z => eq_purge_64i53 x1 x2 x3 x5 z.1 z.2)
set_option maxHeartbeats 4000000 in
theorem wq_purge_64i53 (C : rf_C D p s m args meth c cX12_purge 7 (some .int)) {r : Int32} {x1 : Int32} {x2 : Int32} {x3 : Int32} {x4 : Int32} {x5 : Int32} {ρ ρ' : rf_S} {H : Heap} {locs : List Loc} {ls : Array Slot} {o : (Int32 × Int32 × rf_S) ⊕ (Int32 × Int32 × rf_S)} (h : bq_purge_64i53 x1 x2 x3 x4 x5 ρ = some o) (hP : Sum.elim (fun z : (Int32 × Int32 × rf_S) => ∀ (H : Heap) (locs : List Loc) (ls : Array Slot), rf_G D h0 s z.2.2 H locs → lv_has ls 7 [(0, .ref h0), (1, .int x1), (2, .int x2), (3, .int x3), (4, .int z.1), (5, .int z.2.1)] → W p l e ({ frames := 9, cells := 0, slots := 0, locals := 219 }) s m args below meth c H locs 0 0 (MQ below (rf_Q D h0 (some (.int r)) ρ') args s 0 0 (rf_A h0)) (F0 m 53 ls [])) (fun z : (Int32 × Int32 × rf_S) => ∀ (H : Heap) (locs : List Loc) (ls : Array Slot), rf_G D h0 s z.2.2 H locs → lv_has ls 7 [(0, .ref h0), (1, .int x1), (2, .int x2), (3, .int x3), (4, .int z.1), (5, .int z.2.1)] → W p l e ({ frames := 9, cells := 0, slots := 0, locals := 219 }) s m args below meth c H locs 0 0 (MQ below (rf_Q D h0 (some (.int r)) ρ') args s 0 0 (rf_A h0)) (F0 m 129 ls [])) o) (G : rf_G D h0 s ρ H locs) (hl : lv_has ls 7 [(0, .ref h0), (1, .int x1), (2, .int x2), (3, .int x3), (4, .int x4), (5, .int x5)]) : W p l e ({ frames := 9, cells := 0, slots := 0, locals := 219 }) s m args below meth c H locs 0 0 (MQ below (rf_Q D h0 (some (.int r)) ρ') args s 0 0 (rf_A h0)) (F0 m 64 ls []) := by
  unfold bq_purge_64i53 at h
  obtain ⟨y, hy, h⟩ := bd_some h
  have hE : (fun z : (Int32 × rf_S) => ∀ (H : Heap) (locs : List Loc) (ls : Array Slot), rf_G D h0 s z.2 H locs → lv_has ls 7 [(0, .ref h0), (1, .int x1), (2, .int x2), (3, .int x3), (4, .int z.1), (5, .int x5)] → W p l e ({ frames := 9, cells := 0, slots := 0, locals := 219 }) s m args below meth c H locs 0 0 (MQ below (rf_Q D h0 (some (.int r)) ρ') args s 0 0 (rf_A h0)) (F0 m 117 ls [])) y := by
    intro H locs ls G hl
    obtain ⟨x4, ρ⟩ := y
    dsimp only at h G hl
    unfold eq_purge_64i53 at h
    exact wq_purge_117i53 C h hP G (lv_sub hl [0, 1, 2, 3, 4, 5] rfl)
  refine lp_recE (fun z : (Int32 × rf_S) => ∀ (H : Heap) (locs : List Loc) (ls : Array Slot), rf_G D h0 s z.2 H locs → lv_has ls 7 [(0, .ref h0), (1, .int x1), (2, .int x2), (3, .int x3), (4, .int z.1), (5, .int x5)] → W p l e ({ frames := 9, cells := 0, slots := 0, locals := 219 }) s m args below meth c H locs 0 0 (MQ below (rf_Q D h0 (some (.int r)) ρ') args s 0 0 (rf_A h0)) (F0 m 64 ls [])) (fun z : (Int32 × rf_S) => ∀ (H : Heap) (locs : List Loc) (ls : Array Slot), rf_G D h0 s z.2 H locs → lv_has ls 7 [(0, .ref h0), (1, .int x1), (2, .int x2), (3, .int x3), (4, .int z.1), (5, .int x5)] → W p l e ({ frames := 9, cells := 0, slots := 0, locals := 219 }) s m args below meth c H locs 0 0 (MQ below (rf_Q D h0 (some (.int r)) ρ') args s 0 0 (rf_A h0)) (F0 m 117 ls [])) ?_ _ _ hy hE _ _ _ G hl
  clear hE hy G hl h hP
  intro z o h hP H locs ls G hl
  obtain ⟨x4, ρ⟩ := z
  dsimp only at h G hl
  unfold lq_purge_64i53 at h
  refine lv_iload C.1 C.2.1 dX12_purge_64 (lv_at hl 4 rfl) ?_
  refine lv_aload_n C.1 C.2.1 dX12_purge_66 rfl (lv_at hl 0 rfl) ?_
  refine gf_78 C G dX12_purge_67 ?_
  refine lv_icmp_ge (tgt := 117) C.1 C.2.1 dX12_purge_70 (by decide) (fun hc => ?_) (fun hc => ?_)
  · rw [if_pos hc] at h
    cases h
    exact hP _ _ _ G (lv_sub hl [0, 1, 2, 3, 4, 5] rfl)
  · rw [if_neg hc] at h
    refine lv_aload_n C.1 C.2.1 dX12_purge_73 rfl (lv_at hl 0 rfl) ?_
    refine gf_74 C G dX12_purge_74 ?_
    refine lv_iload C.1 C.2.1 dX12_purge_77 (lv_at hl 4 rfl) ?_
    obtain ⟨hi, h⟩ := ix_some h
    refine rf_iald C G 44 rfl (by decide) rfl rfl hi dX12_purge_79 ?_
    refine lv_iload C.1 C.2.1 dX12_purge_80 (lv_at hl 5 rfl) ?_
    refine lv_icmp_ne (tgt := 117) C.1 C.2.1 dX12_purge_82 (by decide) (fun hc => ?_) (fun hc => ?_)
    · rw [if_neg hc] at h
      cases h
      exact hP _ _ _ G (lv_sub hl [0, 1, 2, 3, 4, 5] rfl)
    · rw [if_pos hc] at h
      refine lv_aload_n C.1 C.2.1 dX12_purge_85 rfl (lv_at hl 0 rfl) ?_
      refine gf_67 C G dX12_purge_86 ?_
      refine lv_bipush (v := (8:Int32)) C.1 C.2.1 dX12_purge_89 (by decide) ?_
      refine lv_aload_n C.1 C.2.1 dX12_purge_91 rfl (lv_at hl 0 rfl) ?_
      refine gf_75 C G dX12_purge_92 ?_
      refine lv_iload C.1 C.2.1 dX12_purge_95 (lv_at hl 4 rfl) ?_
      obtain ⟨hi, h⟩ := ix_some h
      refine rf_iald C G 45 rfl (by decide) rfl rfl hi dX12_purge_97 ?_
      refine lv_imul C.1 C.2.1 dX12_purge_98 ?_
      refine lv_iload_n C.1 C.2.1 dX12_purge_99 rfl (lv_at hl 1 rfl) ?_
      refine lv_iadd C.1 C.2.1 dX12_purge_100 ?_
      obtain ⟨hi, h⟩ := ix_some h
      refine rf_zald C G 37 rfl (by decide) rfl rfl hi dX12_purge_101 ?_
      refine lv_if_eq (tgt := 111) C.1 C.2.1 dX12_purge_102 (by decide) (fun hc => ?_) (fun hc => ?_)
      · rw [if_pos hc] at h
        exact wq_purge_111i64 C h hP G (lv_sub hl [0, 1, 2, 3, 4, 5] rfl)
      · rw [if_neg hc] at h
        refine lv_aload_n C.1 C.2.1 dX12_purge_105 rfl (lv_at hl 0 rfl) ?_
        refine lv_iload C.1 C.2.1 dX12_purge_106 (lv_at hl 4 rfl) ?_
        obtain ⟨ρ_6, hq, h⟩ := bd1_some h
        refine rf_callV (rest := []) C G cw_deliver [.int x4] _ (kq_deliver l D h0 hq) (Nat.le_of_ble_eq_true rfl) (Nat.le_of_ble_eq_true rfl) rfl rfl hl.1 (Nat.le_of_ble_eq_true rfl) (Nat.zero_le _) (Nat.zero_le _) dX12_purge_108 (fun H locs G => ?_)
        refine W.eq (g2 := F0 m 111 ls []) rfl ?_
        exact wq_purge_111i64 C h hP G (lv_sub hl [0, 1, 2, 3, 4, 5] rfl)
noncomputable def lq_purge_53 (x1 : Int32) (x2 : Int32) (x3 : Int32) (x4 : Int32) (x5 : Int32) (ρ : rf_S) : Option ((Int32 × Int32 × rf_S) ⊕ (Int32 × Int32 × rf_S)) := ix (0:Int32) 2 ((if (ρ.1 48 (0:Int32).toNatClampNeg) ≤ x5 then some (.inr (x4, x5, ρ)) else bq_purge_64i53 x1 x2 x3 x4 x5 ρ))
noncomputable def bq_purge_154 (x2 : Int32) (x3 : Int32) (x5 : Int32) (ρ : rf_S) : Option (Int32 × rf_S) := bd1 (fq_forget x2 ρ) (fun ρ_13 => vl (rf_w ρ_13 0 13 x3) (fun ρ_14 => (if x5 = 0 then some ((0:Int32), ρ_14) else some ((1:Int32), ρ_14))))
set_option maxHeartbeats 4000000 in
theorem wq_purge_154 (C : rf_C D p s m args meth c cX12_purge 7 (some .int)) {r : Int32} {x2 : Int32} {x3 : Int32} {x5 : Int32} {ρ ρ' : rf_S} {H : Heap} {locs : List Loc} {ls : Array Slot} (h : bq_purge_154 x2 x3 x5 ρ = some (r, ρ')) (G : rf_G D h0 s ρ H locs) (hl : lv_has ls 7 [(0, .ref h0), (2, .int x2), (3, .int x3), (5, .int x5)]) : W p l e ({ frames := 9, cells := 0, slots := 0, locals := 219 }) s m args below meth c H locs 0 0 (MQ below (rf_Q D h0 (some (.int r)) ρ') args s 0 0 (rf_A h0)) (F0 m 154 ls []) := by
  unfold bq_purge_154 at h
  refine lv_aload_n C.1 C.2.1 dX12_purge_154 rfl (lv_at hl 0 rfl) ?_
  refine lv_iload_n C.1 C.2.1 dX12_purge_155 rfl (lv_at hl 1 rfl) ?_
  obtain ⟨ρ_13, hq, h⟩ := bd1_some h
  refine rf_callV (rest := []) C G cw_forget [.int x2] _ (kq_forget l D h0 hq) (Nat.le_of_ble_eq_true rfl) (Nat.le_of_ble_eq_true rfl) rfl rfl hl.1 (Nat.le_of_ble_eq_true rfl) (Nat.zero_le _) (Nat.zero_le _) dX12_purge_156 (fun H locs G => ?_)
  refine W.eq (g2 := F0 m 159 ls []) rfl ?_
  refine lv_aload_n C.1 C.2.1 dX12_purge_159 rfl (lv_at hl 0 rfl) ?_
  refine lv_iload_n C.1 C.2.1 dX12_purge_160 rfl (lv_at hl 2 rfl) ?_
  refine pf_13 C G dX12_purge_161 (fun H locs G => ?_)
  refine rf_nm G h (fun ρ_14 G h => ?_)
  refine lv_iload C.1 C.2.1 dX12_purge_164 (lv_at hl 3 rfl) ?_
  refine lv_if_eq (tgt := 173) C.1 C.2.1 dX12_purge_166 (by decide) (fun hc => ?_) (fun hc => ?_)
  · rw [if_pos hc] at h
    refine lv_iconst (v := (0:Int32)) C.1 C.2.1 dX12_purge_173 (by decide) ?_
    exact rf_iret C G h dX12_purge_174
  · rw [if_neg hc] at h
    refine lv_iconst (v := (1:Int32)) C.1 C.2.1 dX12_purge_169 (by decide) ?_
    refine lv_goto (tgt := 174) C.1 C.2.1 dX12_purge_170 (by decide) ?_
    exact rf_iret C G h dX12_purge_174
noncomputable def eq_purge_53 (x1 : Int32) (x2 : Int32) (x3 : Int32) (x4 : Int32) (x5 : Int32) (ρ : rf_S) : Option (Int32 × rf_S) := vl (rf_w ρ 0 79 (0:Int32)) (fun ρ_10 => bd2 (fq_isAlike x1 ρ_10) (fun r_12 ρ_11 => (if (ρ_11.1 0 12) ≤ x2 then bq_purge_154 x2 x3 r_12 ρ_11 else vl (rf_w ρ_11 0 15 (-1:Int32)) (fun ρ_15 => bq_purge_154 x2 x3 r_12 ρ_15))))
noncomputable def bq_purge_53 (x1 : Int32) (x2 : Int32) (x3 : Int32) (x4 : Int32) (x5 : Int32) (ρ : rf_S) : Option (Int32 × rf_S) := (lp (fun z : (Int32 × Int32 × rf_S) => lq_purge_53 x1 x2 x3 z.1 z.2.1 z.2.2) (x4, x5, ρ)).bind (fun z => eq_purge_53 x1 x2 x3 z.1 z.2.1 z.2.2)
set_option maxHeartbeats 4000000 in
theorem wq_purge_53 (C : rf_C D p s m args meth c cX12_purge 7 (some .int)) {r : Int32} {x1 : Int32} {x2 : Int32} {x3 : Int32} {x4 : Int32} {x5 : Int32} {ρ ρ' : rf_S} {H : Heap} {locs : List Loc} {ls : Array Slot} (h : bq_purge_53 x1 x2 x3 x4 x5 ρ = some (r, ρ')) (G : rf_G D h0 s ρ H locs) (hl : lv_has ls 7 [(0, .ref h0), (1, .int x1), (2, .int x2), (3, .int x3), (4, .int x4), (5, .int x5)]) : W p l e ({ frames := 9, cells := 0, slots := 0, locals := 219 }) s m args below meth c H locs 0 0 (MQ below (rf_Q D h0 (some (.int r)) ρ') args s 0 0 (rf_A h0)) (F0 m 53 ls []) := by
  unfold bq_purge_53 at h
  obtain ⟨y, hy, h⟩ := bd_some h
  have hE : (fun z : (Int32 × Int32 × rf_S) => ∀ (H : Heap) (locs : List Loc) (ls : Array Slot), rf_G D h0 s z.2.2 H locs → lv_has ls 7 [(0, .ref h0), (1, .int x1), (2, .int x2), (3, .int x3), (4, .int z.1), (5, .int z.2.1)] → W p l e ({ frames := 9, cells := 0, slots := 0, locals := 219 }) s m args below meth c H locs 0 0 (MQ below (rf_Q D h0 (some (.int r)) ρ') args s 0 0 (rf_A h0)) (F0 m 129 ls [])) y := by
    intro H locs ls G hl
    obtain ⟨x4, x5, ρ⟩ := y
    dsimp only at h G hl
    unfold eq_purge_53 at h
    refine lv_aload_n C.1 C.2.1 dX12_purge_129 rfl (lv_at hl 0 rfl) ?_
    refine lv_iconst (v := (0:Int32)) C.1 C.2.1 dX12_purge_130 (by decide) ?_
    refine pf_79 C G dX12_purge_131 (fun H locs G => ?_)
    refine rf_nm G h (fun ρ_10 G h => ?_)
    refine lv_aload_n C.1 C.2.1 dX12_purge_134 rfl (lv_at hl 0 rfl) ?_
    refine lv_iload_n C.1 C.2.1 dX12_purge_135 rfl (lv_at hl 1 rfl) ?_
    obtain ⟨r_12, ρ_11, hq, h⟩ := bd2_some h
    refine rf_callV (rest := []) C G cw_isAlike [.int x1] _ (kq_isAlike l D h0 hq) (Nat.le_of_ble_eq_true rfl) (Nat.le_of_ble_eq_true rfl) rfl rfl hl.1 (Nat.le_of_ble_eq_true rfl) (Nat.zero_le _) (Nat.zero_le _) dX12_purge_136 (fun H locs G => ?_)
    refine W.eq (g2 := F0 m 139 ls [.int r_12]) rfl ?_
    refine lv_istore (lv' := [(5, .int r_12), (0, .ref h0), (1, .int x1), (2, .int x2), (3, .int x3), (4, .int x4)]) C.1 C.2.1 dX12_purge_139 hl (by decide) rfl (fun ls hl => ?_)
    refine lv_aload_n C.1 C.2.1 dX12_purge_141 rfl (lv_at hl 1 rfl) ?_
    refine gf_12 C G dX12_purge_142 ?_
    refine lv_iload_n C.1 C.2.1 dX12_purge_145 rfl (lv_at hl 3 rfl) ?_
    refine lv_icmp_le (tgt := 154) C.1 C.2.1 dX12_purge_146 (by decide) (fun hc => ?_) (fun hc => ?_)
    · rw [if_pos hc] at h
      exact wq_purge_154 C h G (lv_sub hl [1, 3, 4, 0] rfl)
    · rw [if_neg hc] at h
      refine lv_aload_n C.1 C.2.1 dX12_purge_149 rfl (lv_at hl 1 rfl) ?_
      refine lv_iconst (v := (-1:Int32)) C.1 C.2.1 dX12_purge_150 (by decide) ?_
      refine pf_15 C G dX12_purge_151 (fun H locs G => ?_)
      refine rf_nm G h (fun ρ_15 G h => ?_)
      exact wq_purge_154 C h G (lv_sub hl [1, 3, 4, 0] rfl)
  refine lp_recE (fun z : (Int32 × Int32 × rf_S) => ∀ (H : Heap) (locs : List Loc) (ls : Array Slot), rf_G D h0 s z.2.2 H locs → lv_has ls 7 [(0, .ref h0), (1, .int x1), (2, .int x2), (3, .int x3), (4, .int z.1), (5, .int z.2.1)] → W p l e ({ frames := 9, cells := 0, slots := 0, locals := 219 }) s m args below meth c H locs 0 0 (MQ below (rf_Q D h0 (some (.int r)) ρ') args s 0 0 (rf_A h0)) (F0 m 53 ls [])) (fun z : (Int32 × Int32 × rf_S) => ∀ (H : Heap) (locs : List Loc) (ls : Array Slot), rf_G D h0 s z.2.2 H locs → lv_has ls 7 [(0, .ref h0), (1, .int x1), (2, .int x2), (3, .int x3), (4, .int z.1), (5, .int z.2.1)] → W p l e ({ frames := 9, cells := 0, slots := 0, locals := 219 }) s m args below meth c H locs 0 0 (MQ below (rf_Q D h0 (some (.int r)) ρ') args s 0 0 (rf_A h0)) (F0 m 129 ls [])) ?_ _ _ hy hE _ _ _ G hl
  clear hE hy G hl h
  intro z o h hP H locs ls G hl
  obtain ⟨x4, x5, ρ⟩ := z
  dsimp only at h G hl
  unfold lq_purge_53 at h
  refine lv_iload C.1 C.2.1 dX12_purge_53 (lv_at hl 5 rfl) ?_
  refine lv_aload_n C.1 C.2.1 dX12_purge_55 rfl (lv_at hl 0 rfl) ?_
  refine gf_80 C G dX12_purge_56 ?_
  refine lv_iconst (v := (0:Int32)) C.1 C.2.1 dX12_purge_59 (by decide) ?_
  obtain ⟨hi, h⟩ := ix_some h
  refine rf_iald C G 48 rfl (by decide) rfl rfl hi dX12_purge_60 ?_
  refine lv_icmp_ge (tgt := 129) C.1 C.2.1 dX12_purge_61 (by decide) (fun hc => ?_) (fun hc => ?_)
  · rw [if_pos hc] at h
    cases h
    exact hP _ _ _ G (lv_sub hl [0, 1, 2, 3, 4, 5] rfl)
  · rw [if_neg hc] at h
    exact wq_purge_64i53 C h hP G (lv_sub hl [0, 1, 2, 3, 4, 5] rfl)
noncomputable def bq_purge_0 (x1 : Int32) (ρ : rf_S) : Option (Int32 × rf_S) := (if x1 < 0 then some ((-1:Int32), ρ) else (if x1 < (ρ.1 0 55) then (if (ρ.1 0 78) ≤ (500:Int32) then vl (ρ.1 0 12) (fun x2_1 => vl (ρ.1 0 13) (fun x3_2 => vl (rf_w ρ 0 79 (1:Int32)) (fun ρ_3 => bd1 (fq_prepare x1 ρ_3) (fun ρ_4 => bq_purge_53 x1 x2_1 x3_2 (0:Int32) (0:Int32) ρ_4)))) else some ((-4:Int32), ρ)) else some ((-1:Int32), ρ)))
set_option maxHeartbeats 4000000 in
theorem wq_purge_0 (C : rf_C D p s m args meth c cX12_purge 7 (some .int)) {r : Int32} {x1 : Int32} {ρ ρ' : rf_S} {H : Heap} {locs : List Loc} {ls : Array Slot} (h : bq_purge_0 x1 ρ = some (r, ρ')) (G : rf_G D h0 s ρ H locs) (hl : lv_has ls 7 [(0, .ref h0), (1, .int x1)]) : W p l e ({ frames := 9, cells := 0, slots := 0, locals := 219 }) s m args below meth c H locs 0 0 (MQ below (rf_Q D h0 (some (.int r)) ρ') args s 0 0 (rf_A h0)) (F0 m 0 ls []) := by
  unfold bq_purge_0 at h
  refine lv_iload_n C.1 C.2.1 dX12_purge_0 rfl (lv_at hl 1 rfl) ?_
  refine lv_if_lt (tgt := 12) C.1 C.2.1 dX12_purge_1 (by decide) (fun hc => ?_) (fun hc => ?_)
  · rw [if_pos hc] at h
    refine lv_iconst (v := (-1:Int32)) C.1 C.2.1 dX12_purge_12 (by decide) ?_
    exact rf_iret C G h dX12_purge_13
  · rw [if_neg hc] at h
    refine lv_iload_n C.1 C.2.1 dX12_purge_4 rfl (lv_at hl 1 rfl) ?_
    refine lv_aload_n C.1 C.2.1 dX12_purge_5 rfl (lv_at hl 0 rfl) ?_
    refine gf_55 C G dX12_purge_6 ?_
    refine lv_icmp_lt (tgt := 14) C.1 C.2.1 dX12_purge_9 (by decide) (fun hc => ?_) (fun hc => ?_)
    · rw [if_pos hc] at h
      refine lv_aload_n C.1 C.2.1 dX12_purge_14 rfl (lv_at hl 0 rfl) ?_
      refine gf_78 C G dX12_purge_15 ?_
      refine lv_sipush (v := (500:Int32)) C.1 C.2.1 dX12_purge_18 (by decide) ?_
      refine lv_icmp_le (tgt := 27) C.1 C.2.1 dX12_purge_21 (by decide) (fun hc => ?_) (fun hc => ?_)
      · rw [if_pos hc] at h
        refine lv_aload_n C.1 C.2.1 dX12_purge_27 rfl (lv_at hl 0 rfl) ?_
        refine gf_12 C G dX12_purge_28 ?_
        refine vt_i h (fun x2_1 h => ?_)
        refine lv_istore_n (lv' := [(2, .int x2_1), (0, .ref h0), (1, .int x1)]) C.1 C.2.1 dX12_purge_31 rfl hl (by decide) rfl (fun ls hl => ?_)
        refine lv_aload_n C.1 C.2.1 dX12_purge_32 rfl (lv_at hl 1 rfl) ?_
        refine gf_13 C G dX12_purge_33 ?_
        refine vt_i h (fun x3_2 h => ?_)
        refine lv_istore_n (lv' := [(3, .int x3_2), (2, .int x2_1), (0, .ref h0), (1, .int x1)]) C.1 C.2.1 dX12_purge_36 rfl hl (by decide) rfl (fun ls hl => ?_)
        refine lv_aload_n C.1 C.2.1 dX12_purge_37 rfl (lv_at hl 2 rfl) ?_
        refine lv_iconst (v := (1:Int32)) C.1 C.2.1 dX12_purge_38 (by decide) ?_
        refine pf_79 C G dX12_purge_39 (fun H locs G => ?_)
        refine rf_nm G h (fun ρ_3 G h => ?_)
        refine lv_aload_n C.1 C.2.1 dX12_purge_42 rfl (lv_at hl 2 rfl) ?_
        refine lv_iload_n C.1 C.2.1 dX12_purge_43 rfl (lv_at hl 3 rfl) ?_
        obtain ⟨ρ_4, hq, h⟩ := bd1_some h
        refine rf_callV (rest := []) C G cw_prepare [.int x1] _ (kq_prepare l D h0 hq) (Nat.le_of_ble_eq_true rfl) (Nat.le_of_ble_eq_true rfl) rfl rfl hl.1 (Nat.le_of_ble_eq_true rfl) (Nat.zero_le _) (Nat.zero_le _) dX12_purge_44 (fun H locs G => ?_)
        refine W.eq (g2 := F0 m 47 ls []) rfl ?_
        refine lv_iconst (v := (0:Int32)) C.1 C.2.1 dX12_purge_47 (by decide) ?_
        refine lv_istore (lv' := [(4, .int (0:Int32)), (3, .int x3_2), (2, .int x2_1), (0, .ref h0), (1, .int x1)]) C.1 C.2.1 dX12_purge_48 hl (by decide) rfl (fun ls hl => ?_)
        refine lv_iconst (v := (0:Int32)) C.1 C.2.1 dX12_purge_50 (by decide) ?_
        refine lv_istore (lv' := [(5, .int (0:Int32)), (4, .int (0:Int32)), (3, .int x3_2), (2, .int x2_1), (0, .ref h0), (1, .int x1)]) C.1 C.2.1 dX12_purge_51 hl (by decide) rfl (fun ls hl => ?_)
        exact wq_purge_53 C h G (lv_sub hl [4, 5, 3, 2, 1, 0] rfl)
      · rw [if_neg hc] at h
        refine lv_bipush (v := (-4:Int32)) C.1 C.2.1 dX12_purge_24 (by decide) ?_
        exact rf_iret C G h dX12_purge_26
    · rw [if_neg hc] at h
      refine lv_iconst (v := (-1:Int32)) C.1 C.2.1 dX12_purge_12 (by decide) ?_
      exact rf_iret C G h dX12_purge_13
noncomputable def fq_purge (x1 : Int32) (ρ : rf_S) : Option (Int32 × rf_S) := bq_purge_0 x1 ρ
theorem kq_purge (l : Launch) (D : rf_D) (h0 : Nat) {r : Int32} {x1 : Int32} {ρ ρ' : rf_S} (h : fq_purge x1 ρ = some (r, ρ')) : rf_Met l D h0 yX12_purge cX12_purge 7 (some .int) 9 219 [.ref h0, .int x1] ρ (some (.int r)) ρ' :=
  rf_of rfl cc_purge (Nat.le_of_ble_eq_true rfl) (fun p e s m args below meth c ls C G hl => wq_purge_0 C h G hl)
abbrev cX12_told : ByteArray := prog_14_method_125_code
def yX12_told : MethodName := ⟨RX12, "told", "(I)I"⟩
theorem dX12_told_0 : decode cX12_told 0 = .ok (.iload_n 1, 1) := by decide +kernel
theorem dX12_told_1 : decode cX12_told 1 = .ok (.tableswitch 106 0 8 #[51, 64, 69, 76, 81, 86, 91, 96, 101], 51) := by decide +kernel
theorem dX12_told_52 : decode cX12_told 52 = .ok (.aload_n 0, 1) := by decide +kernel
theorem dX12_told_53 : decode cX12_told 53 = .ok (.getfield 528, 3) := by decide +kernel
theorem dX12_told_56 : decode cX12_told 56 = .ok (.ifCond .eq 7, 3) := by decide +kernel
theorem dX12_told_59 : decode cX12_told 59 = .ok (.iconst 1, 1) := by decide +kernel
theorem dX12_told_60 : decode cX12_told 60 = .ok (.goto 4, 3) := by decide +kernel
theorem dX12_told_63 : decode cX12_told 63 = .ok (.iconst 0, 1) := by decide +kernel
theorem dX12_told_64 : decode cX12_told 64 = .ok (.ireturn, 1) := by decide +kernel
theorem dX12_told_65 : decode cX12_told 65 = .ok (.aload_n 0, 1) := by decide +kernel
theorem dX12_told_66 : decode cX12_told 66 = .ok (.getfield 535, 3) := by decide +kernel
theorem dX12_told_69 : decode cX12_told 69 = .ok (.ireturn, 1) := by decide +kernel
theorem dX12_told_70 : decode cX12_told 70 = .ok (.aload_n 0, 1) := by decide +kernel
theorem dX12_told_71 : decode cX12_told 71 = .ok (.getfield 167, 3) := by decide +kernel
theorem dX12_told_74 : decode cX12_told 74 = .ok (.iconst 0, 1) := by decide +kernel
theorem dX12_told_75 : decode cX12_told 75 = .ok (.iaload, 1) := by decide +kernel
theorem dX12_told_76 : decode cX12_told 76 = .ok (.ireturn, 1) := by decide +kernel
theorem dX12_told_77 : decode cX12_told 77 = .ok (.aload_n 0, 1) := by decide +kernel
theorem dX12_told_78 : decode cX12_told 78 = .ok (.getfield 513, 3) := by decide +kernel
theorem dX12_told_81 : decode cX12_told 81 = .ok (.ireturn, 1) := by decide +kernel
theorem dX12_told_82 : decode cX12_told 82 = .ok (.aload_n 0, 1) := by decide +kernel
theorem dX12_told_83 : decode cX12_told 83 = .ok (.getfield 516, 3) := by decide +kernel
theorem dX12_told_86 : decode cX12_told 86 = .ok (.ireturn, 1) := by decide +kernel
theorem dX12_told_87 : decode cX12_told 87 = .ok (.aload_n 0, 1) := by decide +kernel
theorem dX12_told_88 : decode cX12_told 88 = .ok (.getfield 674, 3) := by decide +kernel
theorem dX12_told_91 : decode cX12_told 91 = .ok (.ireturn, 1) := by decide +kernel
theorem dX12_told_92 : decode cX12_told 92 = .ok (.aload_n 0, 1) := by decide +kernel
theorem dX12_told_93 : decode cX12_told 93 = .ok (.getfield 681, 3) := by decide +kernel
theorem dX12_told_96 : decode cX12_told 96 = .ok (.ireturn, 1) := by decide +kernel
theorem dX12_told_97 : decode cX12_told 97 = .ok (.aload_n 0, 1) := by decide +kernel
theorem dX12_told_98 : decode cX12_told 98 = .ok (.getfield 456, 3) := by decide +kernel
theorem dX12_told_101 : decode cX12_told 101 = .ok (.ireturn, 1) := by decide +kernel
theorem dX12_told_102 : decode cX12_told 102 = .ok (.aload_n 0, 1) := by decide +kernel
theorem dX12_told_103 : decode cX12_told 103 = .ok (.getfield 338, 3) := by decide +kernel
theorem dX12_told_106 : decode cX12_told 106 = .ok (.ireturn, 1) := by decide +kernel
theorem dX12_told_107 : decode cX12_told 107 = .ok (.bipush (-2), 2) := by decide +kernel
theorem dX12_told_109 : decode cX12_told 109 = .ok (.ireturn, 1) := by decide +kernel
theorem cc_told : Cond.code yX12_told cX12_told 2 (some .int) ∈ rf_tb := rf_at 2388 (by decide +kernel) (by decide +kernel)
noncomputable def bq_told_0 (x1 : Int32) (ρ : rf_S) : Option (Int32 × rf_S) := (if x1 = (0:Int32) then (if (ρ.1 0 51) = 0 then some ((0:Int32), ρ) else some ((1:Int32), ρ)) else if x1 = (1:Int32) then some ((ρ.1 0 52), ρ) else if x1 = (2:Int32) then ix (0:Int32) 2 (some ((ρ.1 48 (0:Int32).toNatClampNeg), ρ)) else if x1 = (3:Int32) then some ((ρ.1 0 55), ρ) else if x1 = (4:Int32) then some ((ρ.1 0 60), ρ) else if x1 = (5:Int32) then some ((ρ.1 0 53), ρ) else if x1 = (6:Int32) then some ((ρ.1 0 110), ρ) else if x1 = (7:Int32) then some ((ρ.1 0 28), ρ) else if x1 = (8:Int32) then some ((ρ.1 0 26), ρ) else some ((-2:Int32), ρ))
set_option maxHeartbeats 4000000 in
theorem wq_told_0 (C : rf_C D p s m args meth c cX12_told 2 (some .int)) {r : Int32} {x1 : Int32} {ρ ρ' : rf_S} {H : Heap} {locs : List Loc} {ls : Array Slot} (h : bq_told_0 x1 ρ = some (r, ρ')) (G : rf_G D h0 s ρ H locs) (hl : lv_has ls 2 [(0, .ref h0), (1, .int x1)]) : W p l e ({ frames := 0, cells := 0, slots := 0, locals := 0 }) s m args below meth c H locs 0 0 (MQ below (rf_Q D h0 (some (.int r)) ρ') args s 0 0 (rf_A h0)) (F0 m 0 ls []) := by
  unfold bq_told_0 at h
  refine lv_iload_n C.1 C.2.1 dX12_told_0 rfl (lv_at hl 1 rfl) ?_
  by_cases hk0 : x1 = (0:Int32)
  · rw [if_pos hk0] at h
    refine lv_tableIn (tgt := 52) C.1 C.2.1 dX12_told_1 (by rw [hk0]; decide) (by rw [hk0]; decide) (by rw [hk0]; rfl) (by decide) ?_
    refine lv_aload_n C.1 C.2.1 dX12_told_52 rfl (lv_at hl 0 rfl) ?_
    refine gf_51 C G dX12_told_53 ?_
    refine lv_if_eq (tgt := 63) C.1 C.2.1 dX12_told_56 (by decide) (fun hc => ?_) (fun hc => ?_)
    · rw [if_pos hc] at h
      refine lv_iconst (v := (0:Int32)) C.1 C.2.1 dX12_told_63 (by decide) ?_
      exact rf_iret C G h dX12_told_64
    · rw [if_neg hc] at h
      refine lv_iconst (v := (1:Int32)) C.1 C.2.1 dX12_told_59 (by decide) ?_
      refine lv_goto (tgt := 64) C.1 C.2.1 dX12_told_60 (by decide) ?_
      exact rf_iret C G h dX12_told_64
  rw [if_neg hk0] at h
  by_cases hk1 : x1 = (1:Int32)
  · rw [if_pos hk1] at h
    refine lv_tableIn (tgt := 65) C.1 C.2.1 dX12_told_1 (by rw [hk1]; decide) (by rw [hk1]; decide) (by rw [hk1]; rfl) (by decide) ?_
    refine lv_aload_n C.1 C.2.1 dX12_told_65 rfl (lv_at hl 0 rfl) ?_
    refine gf_52 C G dX12_told_66 ?_
    exact rf_iret C G h dX12_told_69
  rw [if_neg hk1] at h
  by_cases hk2 : x1 = (2:Int32)
  · rw [if_pos hk2] at h
    refine lv_tableIn (tgt := 70) C.1 C.2.1 dX12_told_1 (by rw [hk2]; decide) (by rw [hk2]; decide) (by rw [hk2]; rfl) (by decide) ?_
    refine lv_aload_n C.1 C.2.1 dX12_told_70 rfl (lv_at hl 0 rfl) ?_
    refine gf_80 C G dX12_told_71 ?_
    refine lv_iconst (v := (0:Int32)) C.1 C.2.1 dX12_told_74 (by decide) ?_
    obtain ⟨hi, h⟩ := ix_some h
    refine rf_iald C G 48 rfl (by decide) rfl rfl hi dX12_told_75 ?_
    exact rf_iret C G h dX12_told_76
  rw [if_neg hk2] at h
  by_cases hk3 : x1 = (3:Int32)
  · rw [if_pos hk3] at h
    refine lv_tableIn (tgt := 77) C.1 C.2.1 dX12_told_1 (by rw [hk3]; decide) (by rw [hk3]; decide) (by rw [hk3]; rfl) (by decide) ?_
    refine lv_aload_n C.1 C.2.1 dX12_told_77 rfl (lv_at hl 0 rfl) ?_
    refine gf_55 C G dX12_told_78 ?_
    exact rf_iret C G h dX12_told_81
  rw [if_neg hk3] at h
  by_cases hk4 : x1 = (4:Int32)
  · rw [if_pos hk4] at h
    refine lv_tableIn (tgt := 82) C.1 C.2.1 dX12_told_1 (by rw [hk4]; decide) (by rw [hk4]; decide) (by rw [hk4]; rfl) (by decide) ?_
    refine lv_aload_n C.1 C.2.1 dX12_told_82 rfl (lv_at hl 0 rfl) ?_
    refine gf_60 C G dX12_told_83 ?_
    exact rf_iret C G h dX12_told_86
  rw [if_neg hk4] at h
  by_cases hk5 : x1 = (5:Int32)
  · rw [if_pos hk5] at h
    refine lv_tableIn (tgt := 87) C.1 C.2.1 dX12_told_1 (by rw [hk5]; decide) (by rw [hk5]; decide) (by rw [hk5]; rfl) (by decide) ?_
    refine lv_aload_n C.1 C.2.1 dX12_told_87 rfl (lv_at hl 0 rfl) ?_
    refine gf_53 C G dX12_told_88 ?_
    exact rf_iret C G h dX12_told_91
  rw [if_neg hk5] at h
  by_cases hk6 : x1 = (6:Int32)
  · rw [if_pos hk6] at h
    refine lv_tableIn (tgt := 92) C.1 C.2.1 dX12_told_1 (by rw [hk6]; decide) (by rw [hk6]; decide) (by rw [hk6]; rfl) (by decide) ?_
    refine lv_aload_n C.1 C.2.1 dX12_told_92 rfl (lv_at hl 0 rfl) ?_
    refine gf_110 C G dX12_told_93 ?_
    exact rf_iret C G h dX12_told_96
  rw [if_neg hk6] at h
  by_cases hk7 : x1 = (7:Int32)
  · rw [if_pos hk7] at h
    refine lv_tableIn (tgt := 97) C.1 C.2.1 dX12_told_1 (by rw [hk7]; decide) (by rw [hk7]; decide) (by rw [hk7]; rfl) (by decide) ?_
    refine lv_aload_n C.1 C.2.1 dX12_told_97 rfl (lv_at hl 0 rfl) ?_
    refine gf_28 C G dX12_told_98 ?_
    exact rf_iret C G h dX12_told_101
  rw [if_neg hk7] at h
  by_cases hk8 : x1 = (8:Int32)
  · rw [if_pos hk8] at h
    refine lv_tableIn (tgt := 102) C.1 C.2.1 dX12_told_1 (by rw [hk8]; decide) (by rw [hk8]; decide) (by rw [hk8]; rfl) (by decide) ?_
    refine lv_aload_n C.1 C.2.1 dX12_told_102 rfl (lv_at hl 0 rfl) ?_
    refine gf_26 C G dX12_told_103 ?_
    exact rf_iret C G h dX12_told_106
  rw [if_neg hk8] at h
  refine lv_tableOut (tgt := 107) C.1 C.2.1 dX12_told_1 ?_ (by decide) ?_
  · rcases Int.lt_or_le x1.toInt 0 with q | q
    · exact Or.inl q
    · rcases Int.lt_or_le 8 x1.toInt with q2 | q2
      · exact Or.inr q2
      · exfalso
        have hd : x1.toInt = (0 : Int) ∨ x1.toInt = (1 : Int) ∨ x1.toInt = (2 : Int) ∨ x1.toInt = (3 : Int) ∨ x1.toInt = (4 : Int) ∨ x1.toInt = (5 : Int) ∨ x1.toInt = (6 : Int) ∨ x1.toInt = (7 : Int) ∨ x1.toInt = (8 : Int) := by omega
        rcases hd with e | e | e | e | e | e | e | e | e
        · exact hk0 (Int32.toInt_inj.mp (e.trans (by decide)))
        · exact hk1 (Int32.toInt_inj.mp (e.trans (by decide)))
        · exact hk2 (Int32.toInt_inj.mp (e.trans (by decide)))
        · exact hk3 (Int32.toInt_inj.mp (e.trans (by decide)))
        · exact hk4 (Int32.toInt_inj.mp (e.trans (by decide)))
        · exact hk5 (Int32.toInt_inj.mp (e.trans (by decide)))
        · exact hk6 (Int32.toInt_inj.mp (e.trans (by decide)))
        · exact hk7 (Int32.toInt_inj.mp (e.trans (by decide)))
        · exact hk8 (Int32.toInt_inj.mp (e.trans (by decide)))
  · refine lv_bipush (v := (-2:Int32)) C.1 C.2.1 dX12_told_107 (by decide) ?_
    exact rf_iret C G h dX12_told_109
noncomputable def fq_told (x1 : Int32) (ρ : rf_S) : Option (Int32 × rf_S) := bq_told_0 x1 ρ
theorem kq_told (l : Launch) (D : rf_D) (h0 : Nat) {r : Int32} {x1 : Int32} {ρ ρ' : rf_S} (h : fq_told x1 ρ = some (r, ρ')) : rf_Met l D h0 yX12_told cX12_told 2 (some .int) 0 0 [.ref h0, .int x1] ρ (some (.int r)) ρ' :=
  rf_of rfl cc_told (Nat.le_of_ble_eq_true rfl) (fun p e s m args below meth c ls C G hl => wq_told_0 C h G hl)
end RQ17
