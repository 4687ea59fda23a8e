section CQ16
variable {p : Program} {l : Launch} {e : Env} {s : State} {m : MethodId} {args : Array Value} {below : List Frame} {meth : Method} {c : Code} {D : cl_D} {c0 : Nat}
abbrev cX11_make : ByteArray := prog_1_method_26_code
def yX11_make : MethodName := ⟨RX11, "make", "(IIII)I"⟩
theorem dX11_make_0 : decode cX11_make 0 = .ok (.iload_n 1, 1) := by decide +kernel
theorem dX11_make_1 : decode cX11_make 1 = .ok (.tableswitch 144 0 9 #[55, 144, 86, 125, 116, 125, 116, 125, 134, 125], 55) := by decide +kernel
theorem dX11_make_56 : decode cX11_make 56 = .ok (.aload_n 0, 1) := by decide +kernel
theorem dX11_make_57 : decode cX11_make 57 = .ok (.getfield 56, 3) := by decide +kernel
theorem dX11_make_60 : decode cX11_make 60 = .ok (.iconst 0, 1) := by decide +kernel
theorem dX11_make_61 : decode cX11_make 61 = .ok (.iload_n 2, 1) := by decide +kernel
theorem dX11_make_62 : decode cX11_make 62 = .ok (.aload_n 0, 1) := by decide +kernel
theorem dX11_make_63 : decode cX11_make 63 = .ok (.getfield 47, 3) := by decide +kernel
theorem dX11_make_66 : decode cX11_make 66 = .ok (.getfield 62, 3) := by decide +kernel
theorem dX11_make_69 : decode cX11_make 69 = .ok (.aload_n 0, 1) := by decide +kernel
theorem dX11_make_70 : decode cX11_make 70 = .ok (.getfield 47, 3) := by decide +kernel
theorem dX11_make_73 : decode cX11_make 73 = .ok (.getfield 62, 3) := by decide +kernel
theorem dX11_make_76 : decode cX11_make 76 = .ok (.aload_n 0, 1) := by decide +kernel
theorem dX11_make_77 : decode cX11_make 77 = .ok (.getfield 47, 3) := by decide +kernel
theorem dX11_make_80 : decode cX11_make 80 = .ok (.getfield 62, 3) := by decide +kernel
theorem dX11_make_83 : decode cX11_make 83 = .ok (.invokevirtual 327, 3) := by decide +kernel
theorem dX11_make_86 : decode cX11_make 86 = .ok (.ireturn, 1) := by decide +kernel
theorem dX11_make_87 : decode cX11_make 87 = .ok (.aload_n 0, 1) := by decide +kernel
theorem dX11_make_88 : decode cX11_make 88 = .ok (.getfield 56, 3) := by decide +kernel
theorem dX11_make_91 : decode cX11_make 91 = .ok (.invokevirtual 331, 3) := by decide +kernel
theorem dX11_make_94 : decode cX11_make 94 = .ok (.ifCond .eq 8, 3) := by decide +kernel
theorem dX11_make_97 : decode cX11_make 97 = .ok (.bipush (-4), 2) := by decide +kernel
theorem dX11_make_99 : decode cX11_make 99 = .ok (.goto 17, 3) := by decide +kernel
theorem dX11_make_102 : decode cX11_make 102 = .ok (.aload_n 0, 1) := by decide +kernel
theorem dX11_make_103 : decode cX11_make 103 = .ok (.getfield 56, 3) := by decide +kernel
theorem dX11_make_106 : decode cX11_make 106 = .ok (.aload_n 0, 1) := by decide +kernel
theorem dX11_make_107 : decode cX11_make 107 = .ok (.getfield 47, 3) := by decide +kernel
theorem dX11_make_110 : decode cX11_make 110 = .ok (.invokevirtual 335, 3) := by decide +kernel
theorem dX11_make_113 : decode cX11_make 113 = .ok (.invokevirtual 251, 3) := by decide +kernel
theorem dX11_make_116 : decode cX11_make 116 = .ok (.ireturn, 1) := by decide +kernel
theorem dX11_make_117 : decode cX11_make 117 = .ok (.aload_n 0, 1) := by decide +kernel
theorem dX11_make_118 : decode cX11_make 118 = .ok (.iload_n 1, 1) := by decide +kernel
theorem dX11_make_119 : decode cX11_make 119 = .ok (.iload_n 2, 1) := by decide +kernel
theorem dX11_make_120 : decode cX11_make 120 = .ok (.iload_n 2, 1) := by decide +kernel
theorem dX11_make_121 : decode cX11_make 121 = .ok (.iload_n 2, 1) := by decide +kernel
theorem dX11_make_122 : decode cX11_make 122 = .ok (.invokevirtual 339, 3) := by decide +kernel
theorem dX11_make_125 : decode cX11_make 125 = .ok (.ireturn, 1) := by decide +kernel
theorem dX11_make_126 : decode cX11_make 126 = .ok (.aload_n 0, 1) := by decide +kernel
theorem dX11_make_127 : decode cX11_make 127 = .ok (.iload_n 1, 1) := by decide +kernel
theorem dX11_make_128 : decode cX11_make 128 = .ok (.iload_n 2, 1) := by decide +kernel
theorem dX11_make_129 : decode cX11_make 129 = .ok (.iload_n 3, 1) := by decide +kernel
theorem dX11_make_130 : decode cX11_make 130 = .ok (.iload_n 3, 1) := by decide +kernel
theorem dX11_make_131 : decode cX11_make 131 = .ok (.invokevirtual 339, 3) := by decide +kernel
theorem dX11_make_134 : decode cX11_make 134 = .ok (.ireturn, 1) := by decide +kernel
theorem dX11_make_135 : decode cX11_make 135 = .ok (.aload_n 0, 1) := by decide +kernel
theorem dX11_make_136 : decode cX11_make 136 = .ok (.iload_n 1, 1) := by decide +kernel
theorem dX11_make_137 : decode cX11_make 137 = .ok (.iload_n 2, 1) := by decide +kernel
theorem dX11_make_138 : decode cX11_make 138 = .ok (.iload_n 3, 1) := by decide +kernel
theorem dX11_make_139 : decode cX11_make 139 = .ok (.iload 4, 2) := by decide +kernel
theorem dX11_make_141 : decode cX11_make 141 = .ok (.invokevirtual 339, 3) := by decide +kernel
theorem dX11_make_144 : decode cX11_make 144 = .ok (.ireturn, 1) := by decide +kernel
theorem dX11_make_145 : decode cX11_make 145 = .ok (.bipush (-2), 2) := by decide +kernel
theorem dX11_make_147 : decode cX11_make 147 = .ok (.ireturn, 1) := by decide +kernel
theorem cc_X11_make : Cond.code yX11_make cX11_make 5 (some .int) ∈ rf_tb := rf_at 1390 (by decide +kernel) (by decide +kernel)
theorem cw_RX11_331 : cl_wV RX11 RX8 yX8_isFull cX8_isFull 1 (some .boolean) 331 0 := ⟨⟨rf_at 1392 (by decide +kernel) (by decide +kernel), rf_at 1222 (by decide +kernel) (by decide +kernel), rf_at 1223 (by decide +kernel) (by decide +kernel), cc_X8_isFull, rf_at 11 (by decide +kernel) (by decide +kernel)⟩, ⟨by decide, by decide, by decide +kernel⟩⟩
theorem cw_RX11_335 : cl_wV RX11 RX10 yX10_newSecret cX10_newSecret 2 (some (.object "PartHouse$Term")) 335 0 := ⟨⟨rf_at 1393 (by decide +kernel) (by decide +kernel), rf_at 287 (by decide +kernel) (by decide +kernel), rf_at 288 (by decide +kernel) (by decide +kernel), cc_X10_newSecret, rf_at 9 (by decide +kernel) (by decide +kernel)⟩, ⟨by decide, by decide, by decide +kernel⟩⟩
theorem cw_RX11_339 : cl_wV RX11 RX11 yX11_makeOf cX11_makeOf 7 (some .int) 339 4 := ⟨⟨rf_at 1394 (by decide +kernel) (by decide +kernel), rf_at 1396 (by decide +kernel) (by decide +kernel), rf_sel (q := (yX11_makeOf, 15)) 67 (by decide +kernel) (by decide +kernel), cc_X11_makeOf, rf_at 1 (by decide +kernel) (by decide +kernel)⟩, ⟨by decide, by decide, by decide +kernel⟩⟩
noncomputable def bc_X11_make_126 (a : Nat) (x1 : Int32) (x2 : Int32) (x3 : Int32) (σ : cl_S) : Option (Int32 × cl_S) := bd2 (fc_X11_makeOf a x1 x2 x3 x3 σ) (fun r_45 σ_44 => some (r_45, σ_44))
set_option maxHeartbeats 4000000 in
theorem wc_X11_make_126 (C : cl_C D p s m args meth c cX11_make 5 (some .int) RX11) {r : Int32} {a : Nat} {x1 : Int32} {x2 : Int32} {x3 : Int32} {σ0 σ σ' : cl_S} {T : Nat → Nat × Nat} {H : Heap} {locs : List Loc} {ls : Array Slot} {cells slots : Nat} (h : bc_X11_make_126 a x1 x2 x3 σ = some (r, σ')) (G : cl_G true D c0 ({ frames := 5, cells := σ0.2.2.2.2.2.1, slots := σ0.2.2.2.2.2.2, locals := 123 }) s σ0.2.2.2.1 T σ H locs cells slots) (ha : (T a).1 = 27) (hl : lv_has ls 5 [(0, .ref (c0 + a)), (1, .int x1), (2, .int x2), (3, .int x3)]) : W p l e ({ frames := 5, cells := σ0.2.2.2.2.2.1, slots := σ0.2.2.2.2.2.2, locals := 123 }) s m args below meth c H locs cells slots (MQ below (cl_Q true D c0 (some (.int r)) cl_no σ0 σ') args s (σ0.2.2.2.2.2.1 - σ'.2.2.2.2.2.1) (σ0.2.2.2.2.2.2 - σ'.2.2.2.2.2.2) (cl_A c0 σ0.2.2.2.1 s.heap.size)) (F0 m 126 ls []) := by
  unfold bc_X11_make_126 at h
  refine lv_aload_n C.1 C.2.1 dX11_make_126 rfl (lv_at hl 0 rfl) ?_
  refine lv_iload_n C.1 C.2.1 dX11_make_127 rfl (lv_at hl 1 rfl) ?_
  refine lv_iload_n C.1 C.2.1 dX11_make_128 rfl (lv_at hl 2 rfl) ?_
  refine lv_iload_n C.1 C.2.1 dX11_make_129 rfl (lv_at hl 3 rfl) ?_
  refine lv_iload_n C.1 C.2.1 dX11_make_130 rfl (lv_at hl 3 rfl) ?_
  obtain ⟨r_45, σ_44, hq, h_46⟩ := bd2_some h
  refine cl_callV (ci := 11) (rest := []) C G rfl ha cw_RX11_339 [.int x1, .int x2, .int x3, .int x3] _ (kc_X11_makeOf l D c0 (by rw [G.1]; exact ha) hq) (Nat.le_of_ble_eq_true rfl) (Nat.le_of_ble_eq_true rfl) rfl rfl hl.1 (Nat.le_of_ble_eq_true rfl) dX11_make_131 (fun T_47 H locs cells slots t_48 hu G_49 => ?_)
  have ha := hu.kind ha (by decide)
  refine W.eq (g2 := F0 m 134 ls [.int r_45]) rfl ?_
  exact cl_iret ⟨rfl, rfl⟩ rfl C G_49 h_46 dX11_make_134
noncomputable def bc_X11_make_117 (a : Nat) (x1 : Int32) (x2 : Int32) (σ : cl_S) : Option (Int32 × cl_S) := bd2 (fc_X11_makeOf a x1 x2 x2 x2 σ) (fun r_51 σ_50 => some (r_51, σ_50))
set_option maxHeartbeats 4000000 in
theorem wc_X11_make_117 (C : cl_C D p s m args meth c cX11_make 5 (some .int) RX11) {r : Int32} {a : Nat} {x1 : Int32} {x2 : Int32} {σ0 σ σ' : cl_S} {T : Nat → Nat × Nat} {H : Heap} {locs : List Loc} {ls : Array Slot} {cells slots : Nat} (h : bc_X11_make_117 a x1 x2 σ = some (r, σ')) (G : cl_G true D c0 ({ frames := 5, cells := σ0.2.2.2.2.2.1, slots := σ0.2.2.2.2.2.2, locals := 123 }) s σ0.2.2.2.1 T σ H locs cells slots) (ha : (T a).1 = 27) (hl : lv_has ls 5 [(0, .ref (c0 + a)), (1, .int x1), (2, .int x2)]) : W p l e ({ frames := 5, cells := σ0.2.2.2.2.2.1, slots := σ0.2.2.2.2.2.2, locals := 123 }) s m args below meth c H locs cells slots (MQ below (cl_Q true D c0 (some (.int r)) cl_no σ0 σ') args s (σ0.2.2.2.2.2.1 - σ'.2.2.2.2.2.1) (σ0.2.2.2.2.2.2 - σ'.2.2.2.2.2.2) (cl_A c0 σ0.2.2.2.1 s.heap.size)) (F0 m 117 ls []) := by
  unfold bc_X11_make_117 at h
  refine lv_aload_n C.1 C.2.1 dX11_make_117 rfl (lv_at hl 0 rfl) ?_
  refine lv_iload_n C.1 C.2.1 dX11_make_118 rfl (lv_at hl 1 rfl) ?_
  refine lv_iload_n C.1 C.2.1 dX11_make_119 rfl (lv_at hl 2 rfl) ?_
  refine lv_iload_n C.1 C.2.1 dX11_make_120 rfl (lv_at hl 2 rfl) ?_
  refine lv_iload_n C.1 C.2.1 dX11_make_121 rfl (lv_at hl 2 rfl) ?_
  obtain ⟨r_51, σ_50, hq, h_52⟩ := bd2_some h
  refine cl_callV (ci := 11) (rest := []) C G rfl ha cw_RX11_339 [.int x1, .int x2, .int x2, .int x2] _ (kc_X11_makeOf l D c0 (by rw [G.1]; exact ha) hq) (Nat.le_of_ble_eq_true rfl) (Nat.le_of_ble_eq_true rfl) rfl rfl hl.1 (Nat.le_of_ble_eq_true rfl) dX11_make_122 (fun T_53 H locs cells slots t_54 hu G_55 => ?_)
  have ha := hu.kind ha (by decide)
  refine W.eq (g2 := F0 m 125 ls [.int r_51]) rfl ?_
  exact cl_iret ⟨rfl, rfl⟩ rfl C G_55 h_52 dX11_make_125
noncomputable def bc_X11_make_0 (a : Nat) (x1 : Int32) (x2 : Int32) (x3 : Int32) (x4 : Int32) (σ : cl_S) : Option (Int32 × cl_S) := (if x1 = (0:Int32) then vl (σ.2.2.1 31 4) (fun r_4 => vl (σ.2.2.1 31 4) (fun r_9 => vl (σ.2.2.1 31 4) (fun r_14 => bd2 (fc_X8_comeInMade 38 (0:Int32) x2 r_4 r_9 r_14 σ) (fun r_18 σ_17 => some (r_18, σ_17))))) else if x1 = (2:Int32) then bd2 (fc_X8_isFull 38 σ) (fun r_25 σ_24 => (if r_25 = 0 then bd2 (fc_X10_newSecret 31 σ_24) (fun r_33 σ_32 => bd2 (fc_X8_comeIn 38 r_33 σ_32) (fun r_39 σ_38 => some (r_39, σ_38))) else some ((-4:Int32), σ_24))) else if x1 = (3:Int32) then bc_X11_make_126 a x1 x2 x3 σ else if x1 = (4:Int32) then bc_X11_make_117 a x1 x2 σ else if x1 = (5:Int32) then bc_X11_make_126 a x1 x2 x3 σ else if x1 = (6:Int32) then bc_X11_make_117 a x1 x2 σ else if x1 = (7:Int32) then bc_X11_make_126 a x1 x2 x3 σ else if x1 = (8:Int32) then bd2 (fc_X11_makeOf a x1 x2 x3 x4 σ) (fun r_57 σ_56 => some (r_57, σ_56)) else if x1 = (9:Int32) then bc_X11_make_126 a x1 x2 x3 σ else some ((-2:Int32), σ))
set_option maxHeartbeats 4000000 in
theorem wc_X11_make_0 (C : cl_C D p s m args meth c cX11_make 5 (some .int) RX11) {r : Int32} {a : Nat} {x1 : Int32} {x2 : Int32} {x3 : Int32} {x4 : Int32} {σ0 σ σ' : cl_S} {T : Nat → Nat × Nat} {H : Heap} {locs : List Loc} {ls : Array Slot} {cells slots : Nat} (h : bc_X11_make_0 a x1 x2 x3 x4 σ = some (r, σ')) (G : cl_G true D c0 ({ frames := 5, cells := σ0.2.2.2.2.2.1, slots := σ0.2.2.2.2.2.2, locals := 123 }) s σ0.2.2.2.1 T σ H locs cells slots) (ha : (T a).1 = 27) (hl : lv_has ls 5 [(0, .ref (c0 + a)), (1, .int x1), (2, .int x2), (3, .int x3), (4, .int x4)]) : W p l e ({ frames := 5, cells := σ0.2.2.2.2.2.1, slots := σ0.2.2.2.2.2.2, locals := 123 }) s m args below meth c H locs cells slots (MQ below (cl_Q true D c0 (some (.int r)) cl_no σ0 σ') args s (σ0.2.2.2.2.2.1 - σ'.2.2.2.2.2.1) (σ0.2.2.2.2.2.2 - σ'.2.2.2.2.2.2) (cl_A c0 σ0.2.2.2.1 s.heap.size)) (F0 m 0 ls []) := by
  unfold bc_X11_make_0 at h
  refine lv_iload_n C.1 C.2.1 dX11_make_0 rfl (lv_at hl 1 rfl) ?_
  by_cases hk0 : x1 = (0:Int32)
  · rw [if_pos hk0] at h
    refine lv_tableIn (tgt := 56) C.1 C.2.1 dX11_make_1 (by rw [hk0]; decide) (by rw [hk0]; decide) (by rw [hk0]; rfl) (by decide) ?_
    refine lv_aload_n C.1 C.2.1 dX11_make_56 rfl (lv_at hl 0 rfl) ?_
    refine cg_11_56 C G ha dX11_make_57 (fun t_1 => ?_)
    have t_1 : (T 38).1 = 24 := by rw [t_1]
    refine lv_iconst (v := (0:Int32)) C.1 C.2.1 dX11_make_60 (by decide) ?_
    refine lv_iload_n C.1 C.2.1 dX11_make_61 rfl (lv_at hl 2 rfl) ?_
    refine lv_aload_n C.1 C.2.1 dX11_make_62 rfl (lv_at hl 0 rfl) ?_
    refine cg_11_47 C G ha dX11_make_63 (fun t_2 => ?_)
    have t_2 : (T 31).1 = 26 := by rw [t_2]
    refine cg_11_62 C G t_2 dX11_make_66 (fun t_3 => ?_)
    refine vt_r (K := 25) t_3 h (fun r_4 t_5 h_6 => ?_)
    refine lv_aload_n C.1 C.2.1 dX11_make_69 rfl (lv_at hl 0 rfl) ?_
    refine cg_11_47 C G ha dX11_make_70 (fun t_7 => ?_)
    have t_7 : (T 31).1 = 26 := by rw [t_7]
    refine cg_11_62 C G t_7 dX11_make_73 (fun t_8 => ?_)
    refine vt_r (K := 25) t_8 h_6 (fun r_9 t_10 h_11 => ?_)
    refine lv_aload_n C.1 C.2.1 dX11_make_76 rfl (lv_at hl 0 rfl) ?_
    refine cg_11_47 C G ha dX11_make_77 (fun t_12 => ?_)
    have t_12 : (T 31).1 = 26 := by rw [t_12]
    refine cg_11_62 C G t_12 dX11_make_80 (fun t_13 => ?_)
    refine vt_r (K := 25) t_13 h_11 (fun r_14 t_15 h_16 => ?_)
    obtain ⟨r_18, σ_17, hq, h_19⟩ := bd2_some h_16
    refine cl_callV (ci := 8) (rest := []) C G rfl t_1 cw_RX11_327 [.int (0:Int32), .int x2, cl_rf c0 r_4, cl_rf c0 r_9, cl_rf c0 r_14] _ (kc_X8_comeInMade l D c0 (by rw [G.1]; exact t_1) hq (by rw [G.1]; exact t_5) (by rw [G.1]; exact t_10) (by rw [G.1]; exact t_15)) (Nat.le_of_ble_eq_true rfl) (Nat.le_of_ble_eq_true rfl) rfl rfl hl.1 (Nat.le_of_ble_eq_true rfl) dX11_make_83 (fun T_20 H locs cells slots t_21 hu G_22 => ?_)
    have ha := hu.kind ha (by decide)
    refine W.eq (g2 := F0 m 86 ls [.int r_18]) rfl ?_
    exact cl_iret ⟨rfl, rfl⟩ rfl C G_22 h_19 dX11_make_86
  rw [if_neg hk0] at h
  by_cases hk2 : x1 = (2:Int32)
  · rw [if_pos hk2] at h
    refine lv_tableIn (tgt := 87) C.1 C.2.1 dX11_make_1 (by rw [hk2]; decide) (by rw [hk2]; decide) (by rw [hk2]; rfl) (by decide) ?_
    refine lv_aload_n C.1 C.2.1 dX11_make_87 rfl (lv_at hl 0 rfl) ?_
    refine cg_11_56 C G ha dX11_make_88 (fun t_23 => ?_)
    have t_23 : (T 38).1 = 24 := by rw [t_23]
    obtain ⟨r_25, σ_24, hq, h_26⟩ := bd2_some h
    refine cl_callV (ci := 8) (rest := []) C G rfl t_23 cw_RX11_331 [] _ (kc_X8_isFull l D c0 (by rw [G.1]; exact t_23) hq) (Nat.le_of_ble_eq_true rfl) (Nat.le_of_ble_eq_true rfl) rfl rfl hl.1 (Nat.le_of_ble_eq_true rfl) dX11_make_91 (fun T_27 H locs cells slots t_28 hu G_29 => ?_)
    have ha := hu.kind ha (by decide)
    refine W.eq (g2 := F0 m 94 ls [.int r_25]) rfl ?_
    refine lv_if_eq (tgt := 102) C.1 C.2.1 dX11_make_94 (by decide) (fun hc => ?_) (fun hc => ?_)
    · rw [if_pos hc] at h_26
      refine lv_aload_n C.1 C.2.1 dX11_make_102 rfl (lv_at hl 0 rfl) ?_
      refine cg_11_56 C G_29 ha dX11_make_103 (fun t_30 => ?_)
      have t_30 : (T_27 38).1 = 24 := by rw [t_30]
      refine lv_aload_n C.1 C.2.1 dX11_make_106 rfl (lv_at hl 0 rfl) ?_
      refine cg_11_47 C G_29 ha dX11_make_107 (fun t_31 => ?_)
      have t_31 : (T_27 31).1 = 26 := by rw [t_31]
      obtain ⟨r_33, σ_32, hq, h_34⟩ := bd2_some h_26
      refine cl_callV (ci := 10) (rest := [.ref (c0 + 38)]) C G_29 rfl t_31 cw_RX11_335 [] _ (kc_X10_newSecret l D c0 (by rw [G_29.1]; exact t_31) hq) (Nat.le_of_ble_eq_true rfl) (Nat.le_of_ble_eq_true rfl) rfl rfl hl.1 (Nat.le_of_ble_eq_true rfl) dX11_make_110 (fun T_35 H locs cells slots t_36 hu G_37 => ?_)
      have ha := hu.kind ha (by decide)
      have t_30 := hu.kind t_30 (by decide)
      refine W.eq (g2 := F0 m 113 ls [cl_rf c0 r_33, .ref (c0 + 38)]) rfl ?_
      obtain ⟨r_39, σ_38, hq, h_40⟩ := bd2_some h_34
      refine cl_callV (ci := 8) (rest := []) C G_37 rfl t_30 cw_RX11_251 [cl_rf c0 r_33] _ (kc_X8_comeIn l D c0 (by rw [G_37.1]; exact t_30) hq (by rw [G_37.1]; exact t_36)) (Nat.le_of_ble_eq_true rfl) (Nat.le_of_ble_eq_true rfl) rfl rfl hl.1 (Nat.le_of_ble_eq_true rfl) dX11_make_113 (fun T_41 H locs cells slots t_42 hu G_43 => ?_)
      have ha := hu.kind ha (by decide)
      refine W.eq (g2 := F0 m 116 ls [.int r_39]) rfl ?_
      exact cl_iret ⟨rfl, rfl⟩ rfl C G_43 h_40 dX11_make_116
    · rw [if_neg hc] at h_26
      refine lv_bipush (v := (-4:Int32)) C.1 C.2.1 dX11_make_97 (by decide) ?_
      refine lv_goto (tgt := 116) C.1 C.2.1 dX11_make_99 (by decide) ?_
      exact cl_iret ⟨rfl, rfl⟩ rfl C G_29 h_26 dX11_make_116
  rw [if_neg hk2] at h
  by_cases hk3 : x1 = (3:Int32)
  · rw [if_pos hk3] at h
    refine lv_tableIn (tgt := 126) C.1 C.2.1 dX11_make_1 (by rw [hk3]; decide) (by rw [hk3]; decide) (by rw [hk3]; rfl) (by decide) ?_
    exact wc_X11_make_126 C h G ha (lv_sub hl [0, 1, 2, 3] rfl)
  rw [if_neg hk3] at h
  by_cases hk4 : x1 = (4:Int32)
  · rw [if_pos hk4] at h
    refine lv_tableIn (tgt := 117) C.1 C.2.1 dX11_make_1 (by rw [hk4]; decide) (by rw [hk4]; decide) (by rw [hk4]; rfl) (by decide) ?_
    exact wc_X11_make_117 C h G ha (lv_sub hl [0, 1, 2] rfl)
  rw [if_neg hk4] at h
  by_cases hk5 : x1 = (5:Int32)
  · rw [if_pos hk5] at h
    refine lv_tableIn (tgt := 126) C.1 C.2.1 dX11_make_1 (by rw [hk5]; decide) (by rw [hk5]; decide) (by rw [hk5]; rfl) (by decide) ?_
    exact wc_X11_make_126 C h G ha (lv_sub hl [0, 1, 2, 3] rfl)
  rw [if_neg hk5] at h
  by_cases hk6 : x1 = (6:Int32)
  · rw [if_pos hk6] at h
    refine lv_tableIn (tgt := 117) C.1 C.2.1 dX11_make_1 (by rw [hk6]; decide) (by rw [hk6]; decide) (by rw [hk6]; rfl) (by decide) ?_
    exact wc_X11_make_117 C h G ha (lv_sub hl [0, 1, 2] rfl)
  rw [if_neg hk6] at h
  by_cases hk7 : x1 = (7:Int32)
  · rw [if_pos hk7] at h
    refine lv_tableIn (tgt := 126) C.1 C.2.1 dX11_make_1 (by rw [hk7]; decide) (by rw [hk7]; decide) (by rw [hk7]; rfl) (by decide) ?_
    exact wc_X11_make_126 C h G ha (lv_sub hl [0, 1, 2, 3] rfl)
  rw [if_neg hk7] at h
  by_cases hk8 : x1 = (8:Int32)
  · rw [if_pos hk8] at h
    refine lv_tableIn (tgt := 135) C.1 C.2.1 dX11_make_1 (by rw [hk8]; decide) (by rw [hk8]; decide) (by rw [hk8]; rfl) (by decide) ?_
    refine lv_aload_n C.1 C.2.1 dX11_make_135 rfl (lv_at hl 0 rfl) ?_
    refine lv_iload_n C.1 C.2.1 dX11_make_136 rfl (lv_at hl 1 rfl) ?_
    refine lv_iload_n C.1 C.2.1 dX11_make_137 rfl (lv_at hl 2 rfl) ?_
    refine lv_iload_n C.1 C.2.1 dX11_make_138 rfl (lv_at hl 3 rfl) ?_
    refine lv_iload C.1 C.2.1 dX11_make_139 (lv_at hl 4 rfl) ?_
    obtain ⟨r_57, σ_56, hq, h_58⟩ := bd2_some h
    refine cl_callV (ci := 11) (rest := []) C G rfl ha cw_RX11_339 [.int x1, .int x2, .int x3, .int x4] _ (kc_X11_makeOf l D c0 (by rw [G.1]; exact ha) hq) (Nat.le_of_ble_eq_true rfl) (Nat.le_of_ble_eq_true rfl) rfl rfl hl.1 (Nat.le_of_ble_eq_true rfl) dX11_make_141 (fun T_59 H locs cells slots t_60 hu G_61 => ?_)
    have ha := hu.kind ha (by decide)
    refine W.eq (g2 := F0 m 144 ls [.int r_57]) rfl ?_
    exact cl_iret ⟨rfl, rfl⟩ rfl C G_61 h_58 dX11_make_144
  rw [if_neg hk8] at h
  by_cases hk9 : x1 = (9:Int32)
  · rw [if_pos hk9] at h
    refine lv_tableIn (tgt := 126) C.1 C.2.1 dX11_make_1 (by rw [hk9]; decide) (by rw [hk9]; decide) (by rw [hk9]; rfl) (by decide) ?_
    exact wc_X11_make_126 C h G ha (lv_sub hl [0, 1, 2, 3] rfl)
  rw [if_neg hk9] at h
  by_cases hk1 : x1 = (1:Int32)
  · refine lv_tableIn (tgt := 145) C.1 C.2.1 dX11_make_1 (by rw [hk1]; decide) (by rw [hk1]; decide) (by rw [hk1]; rfl) (by decide) ?_
    refine lv_bipush (v := (-2:Int32)) C.1 C.2.1 dX11_make_145 (by decide) ?_
    exact cl_iret ⟨rfl, rfl⟩ rfl C G h dX11_make_147
  refine lv_tableOut (tgt := 145) C.1 C.2.1 dX11_make_1 ?_ (by decide) ?_
  · rcases Int.lt_or_le x1.toInt 0 with q | q
    · exact Or.inl q
    · rcases Int.lt_or_le 9 x1.toInt with q2 | q2
      · exact Or.inr q2
      · exfalso
        have hd : x1.toInt = (0 : Int) ∨ x1.toInt = (1 : Int) ∨ x1.toInt = (2 : Int) ∨ x1.toInt = (3 : Int) ∨ x1.toInt = (4 : Int) ∨ x1.toInt = (5 : Int) ∨ x1.toInt = (6 : Int) ∨ x1.toInt = (7 : Int) ∨ x1.toInt = (8 : Int) ∨ x1.toInt = (9 : Int) := by omega
        rcases hd with e | e | e | e | e | e | e | e | e | e
        · exact hk0 (Int32.toInt_inj.mp (e.trans (by decide)))
        · exact hk1 (Int32.toInt_inj.mp (e.trans (by decide)))
        · exact hk2 (Int32.toInt_inj.mp (e.trans (by decide)))
        · exact hk3 (Int32.toInt_inj.mp (e.trans (by decide)))
        · exact hk4 (Int32.toInt_inj.mp (e.trans (by decide)))
        · exact hk5 (Int32.toInt_inj.mp (e.trans (by decide)))
        · exact hk6 (Int32.toInt_inj.mp (e.trans (by decide)))
        · exact hk7 (Int32.toInt_inj.mp (e.trans (by decide)))
        · exact hk8 (Int32.toInt_inj.mp (e.trans (by decide)))
        · exact hk9 (Int32.toInt_inj.mp (e.trans (by decide)))
  · refine lv_bipush (v := (-2:Int32)) C.1 C.2.1 dX11_make_145 (by decide) ?_
    exact cl_iret ⟨rfl, rfl⟩ rfl C G h dX11_make_147
noncomputable def fc_X11_make (a : Nat) (x1 : Int32) (x2 : Int32) (x3 : Int32) (x4 : Int32) (σ : cl_S) : Option (Int32 × cl_S) := bc_X11_make_0 a x1 x2 x3 x4 σ
theorem kc_X11_make (l : Launch) (D : cl_D) (c0 : Nat) {r : Int32} {a : Nat} {x1 : Int32} {x2 : Int32} {x3 : Int32} {x4 : Int32} {σ σ' : cl_S} (ha : (σ.2.2.2.1 a).1 = 27) (h : fc_X11_make a x1 x2 x3 x4 σ = some (r, σ')) : cl_Met true l D c0 yX11_make cX11_make 5 (some .int) 5 123 [.ref (c0 + a), .int x1, .int x2, .int x3, .int x4] σ (some (.int r)) cl_no σ' :=
  cl_of (by decide) (Nat.le_of_ble_eq_true rfl) (fun p e s m args below meth c ls C hn G hl => wc_X11_make_0 C h G ha hl)
abbrev cX11_takePart : ByteArray := prog_1_method_29_code
def yX11_takePart : MethodName := ⟨RX11, "takePart", "(LPartHouse$Term;ILPartHouse$Term;)I"⟩
theorem dX11_takePart_0 : decode cX11_takePart 0 = .ok (.aload_n 1, 1) := by decide +kernel
theorem dX11_takePart_1 : decode cX11_takePart 1 = .ok (.getfield 358, 3) := by decide +kernel
theorem dX11_takePart_4 : decode cX11_takePart 4 = .ok (.iload_n 2, 1) := by decide +kernel
theorem dX11_takePart_5 : decode cX11_takePart 5 = .ok (.if_icmp .ne 14, 3) := by decide +kernel
theorem dX11_takePart_8 : decode cX11_takePart 8 = .ok (.aload_n 0, 1) := by decide +kernel
theorem dX11_takePart_9 : decode cX11_takePart 9 = .ok (.getfield 56, 3) := by decide +kernel
theorem dX11_takePart_12 : decode cX11_takePart 12 = .ok (.aload_n 3, 1) := by decide +kernel
theorem dX11_takePart_13 : decode cX11_takePart 13 = .ok (.invokevirtual 251, 3) := by decide +kernel
theorem dX11_takePart_16 : decode cX11_takePart 16 = .ok (.goto 5, 3) := by decide +kernel
theorem dX11_takePart_19 : decode cX11_takePart 19 = .ok (.bipush (-3), 2) := by decide +kernel
theorem dX11_takePart_21 : decode cX11_takePart 21 = .ok (.ireturn, 1) := by decide +kernel
theorem cc_X11_takePart : Cond.code yX11_takePart cX11_takePart 4 (some .int) ∈ rf_tb := rf_at 1406 (by decide +kernel) (by decide +kernel)
noncomputable def bc_X11_takePart_0 (a : Nat) (x1 : (Option Nat)) (x2 : Int32) (x3 : (Option Nat)) (σ : cl_S) : Option (Int32 × cl_S) := nn x1 (fun a_1 => (if (σ.1 a_1 0) = x2 then bd2 (fc_X8_comeIn 38 x3 σ) (fun r_6 σ_5 => some (r_6, σ_5)) else some ((-3:Int32), σ)))
set_option maxHeartbeats 4000000 in
theorem wc_X11_takePart_0 (C : cl_C D p s m args meth c cX11_takePart 4 (some .int) RX11) {r : Int32} {a : Nat} {x1 : (Option Nat)} {x2 : Int32} {x3 : (Option Nat)} {σ0 σ σ' : cl_S} {T : Nat → Nat × Nat} {H : Heap} {locs : List Loc} {ls : Array Slot} {cells slots : Nat} (h : bc_X11_takePart_0 a x1 x2 x3 σ = some (r, σ')) (G : cl_G true D c0 ({ frames := 2, cells := σ0.2.2.2.2.2.1, slots := σ0.2.2.2.2.2.2, locals := 45 }) s σ0.2.2.2.1 T σ H locs cells slots) (ha : (T a).1 = 27) (f1 : cl_RT T x1 25) (f3 : cl_RT T x3 25) (hl : lv_has ls 4 [(0, .ref (c0 + a)), (1, cl_rf c0 x1), (2, .int x2), (3, cl_rf c0 x3)]) : W p l e ({ frames := 2, cells := σ0.2.2.2.2.2.1, slots := σ0.2.2.2.2.2.2, locals := 45 }) s m args below meth c H locs cells slots (MQ below (cl_Q true D c0 (some (.int r)) cl_no σ0 σ') args s (σ0.2.2.2.2.2.1 - σ'.2.2.2.2.2.1) (σ0.2.2.2.2.2.2 - σ'.2.2.2.2.2.2) (cl_A c0 σ0.2.2.2.1 s.heap.size)) (F0 m 0 ls []) := by
  unfold bc_X11_takePart_0 at h
  refine cl_aload_n C.1 C.2.1 dX11_takePart_0 rfl (lv_at hl 1 rfl) ?_
  obtain ⟨a_1, rfl, h_3⟩ := nn_some h
  have t_2 := f1 _ rfl
  refine cg_11_358 C G t_2 dX11_takePart_1 ?_
  refine lv_iload_n C.1 C.2.1 dX11_takePart_4 rfl (lv_at hl 2 rfl) ?_
  refine lv_icmp_ne (tgt := 19) C.1 C.2.1 dX11_takePart_5 (by decide) (fun hc => ?_) (fun hc => ?_)
  · rw [if_neg hc] at h_3
    refine lv_bipush (v := (-3:Int32)) C.1 C.2.1 dX11_takePart_19 (by decide) ?_
    exact cl_iret ⟨rfl, rfl⟩ rfl C G h_3 dX11_takePart_21
  · rw [if_pos hc] at h_3
    refine lv_aload_n C.1 C.2.1 dX11_takePart_8 rfl (lv_at hl 0 rfl) ?_
    refine cg_11_56 C G ha dX11_takePart_9 (fun t_4 => ?_)
    have t_4 : (T 38).1 = 24 := by rw [t_4]
    refine cl_aload_n C.1 C.2.1 dX11_takePart_12 rfl (lv_at hl 3 rfl) ?_
    obtain ⟨r_6, σ_5, hq, h_7⟩ := bd2_some h_3
    refine cl_callV (ci := 8) (rest := []) C G rfl t_4 cw_RX11_251 [cl_rf c0 x3] _ (kc_X8_comeIn l D c0 (by rw [G.1]; exact t_4) hq (by rw [G.1]; exact f3)) (Nat.le_of_ble_eq_true rfl) (Nat.le_of_ble_eq_true rfl) rfl rfl hl.1 (Nat.le_of_ble_eq_true rfl) dX11_takePart_13 (fun T_8 H locs cells slots t_9 hu G_10 => ?_)
    have ha := hu.kind ha (by decide)
    have t_2 := hu.kind t_2 (by decide)
    have f3 := f3.up hu (by decide)
    refine W.eq (g2 := F0 m 16 ls [.int r_6]) rfl ?_
    refine lv_goto (tgt := 21) C.1 C.2.1 dX11_takePart_16 (by decide) ?_
    exact cl_iret ⟨rfl, rfl⟩ rfl C G_10 h_7 dX11_takePart_21
noncomputable def fc_X11_takePart (a : Nat) (x1 : (Option Nat)) (x2 : Int32) (x3 : (Option Nat)) (σ : cl_S) : Option (Int32 × cl_S) := bc_X11_takePart_0 a x1 x2 x3 σ
theorem kc_X11_takePart (l : Launch) (D : cl_D) (c0 : Nat) {r : Int32} {a : Nat} {x1 : (Option Nat)} {x2 : Int32} {x3 : (Option Nat)} {σ σ' : cl_S} (ha : (σ.2.2.2.1 a).1 = 27) (h : fc_X11_takePart a x1 x2 x3 σ = some (r, σ')) (f1 : cl_RT σ.2.2.2.1 x1 25) (f3 : cl_RT σ.2.2.2.1 x3 25) : cl_Met true l D c0 yX11_takePart cX11_takePart 4 (some .int) 2 45 [.ref (c0 + a), cl_rf c0 x1, .int x2, cl_rf c0 x3] σ (some (.int r)) cl_no σ' :=
  by cases x1 <;> cases x3 <;> exact cl_of (by decide) (Nat.le_of_ble_eq_true rfl) (fun p e s m args below meth c ls C hn G hl => wc_X11_takePart_0 C h G ha f1 f3 hl)
abbrev cX11_take : ByteArray := prog_1_method_28_code
def yX11_take : MethodName := ⟨RX11, "take", "(III)I"⟩
theorem dX11_take_0 : decode cX11_take 0 = .ok (.aload_n 0, 1) := by decide +kernel
theorem dX11_take_1 : decode cX11_take 1 = .ok (.getfield 56, 3) := by decide +kernel
theorem dX11_take_4 : decode cX11_take 4 = .ok (.iload_n 1, 1) := by decide +kernel
theorem dX11_take_5 : decode cX11_take 5 = .ok (.invokevirtual 230, 3) := by decide +kernel
theorem dX11_take_8 : decode cX11_take 8 = .ok (.ifCond .eq 19, 3) := by decide +kernel
theorem dX11_take_11 : decode cX11_take 11 = .ok (.iload_n 2, 1) := by decide +kernel
theorem dX11_take_12 : decode cX11_take 12 = .ok (.iconst 4, 1) := by decide +kernel
theorem dX11_take_13 : decode cX11_take 13 = .ok (.if_icmp .ne 16, 3) := by decide +kernel
theorem dX11_take_16 : decode cX11_take 16 = .ok (.aload_n 0, 1) := by decide +kernel
theorem dX11_take_17 : decode cX11_take 17 = .ok (.getfield 56, 3) := by decide +kernel
theorem dX11_take_20 : decode cX11_take 20 = .ok (.iload_n 3, 1) := by decide +kernel
theorem dX11_take_21 : decode cX11_take 21 = .ok (.invokevirtual 230, 3) := by decide +kernel
theorem dX11_take_24 : decode cX11_take 24 = .ok (.ifCond .ne 5, 3) := by decide +kernel
theorem dX11_take_27 : decode cX11_take 27 = .ok (.iconst (-1), 1) := by decide +kernel
theorem dX11_take_28 : decode cX11_take 28 = .ok (.ireturn, 1) := by decide +kernel
theorem dX11_take_29 : decode cX11_take 29 = .ok (.aload_n 0, 1) := by decide +kernel
theorem dX11_take_30 : decode cX11_take 30 = .ok (.getfield 56, 3) := by decide +kernel
theorem dX11_take_33 : decode cX11_take 33 = .ok (.iload_n 1, 1) := by decide +kernel
theorem dX11_take_34 : decode cX11_take 34 = .ok (.invokevirtual 233, 3) := by decide +kernel
theorem dX11_take_37 : decode cX11_take 37 = .ok (.astore 4, 2) := by decide +kernel
theorem dX11_take_39 : decode cX11_take 39 = .ok (.iload_n 2, 1) := by decide +kernel
theorem dX11_take_40 : decode cX11_take 40 = .ok (.tableswitch 125 0 4 #[36, 49, 62, 76, 90], 36) := by decide +kernel
theorem dX11_take_76 : decode cX11_take 76 = .ok (.aload_n 0, 1) := by decide +kernel
theorem dX11_take_77 : decode cX11_take 77 = .ok (.aload 4, 2) := by decide +kernel
theorem dX11_take_79 : decode cX11_take 79 = .ok (.iconst 3, 1) := by decide +kernel
theorem dX11_take_80 : decode cX11_take 80 = .ok (.aload 4, 2) := by decide +kernel
theorem dX11_take_82 : decode cX11_take 82 = .ok (.getfield 345, 3) := by decide +kernel
theorem dX11_take_85 : decode cX11_take 85 = .ok (.invokevirtual 348, 3) := by decide +kernel
theorem dX11_take_88 : decode cX11_take 88 = .ok (.ireturn, 1) := by decide +kernel
theorem dX11_take_89 : decode cX11_take 89 = .ok (.aload_n 0, 1) := by decide +kernel
theorem dX11_take_90 : decode cX11_take 90 = .ok (.aload 4, 2) := by decide +kernel
theorem dX11_take_92 : decode cX11_take 92 = .ok (.iconst 3, 1) := by decide +kernel
theorem dX11_take_93 : decode cX11_take 93 = .ok (.aload 4, 2) := by decide +kernel
theorem dX11_take_95 : decode cX11_take 95 = .ok (.getfield 352, 3) := by decide +kernel
theorem dX11_take_98 : decode cX11_take 98 = .ok (.invokevirtual 348, 3) := by decide +kernel
theorem dX11_take_101 : decode cX11_take 101 = .ok (.ireturn, 1) := by decide +kernel
theorem dX11_take_102 : decode cX11_take 102 = .ok (.aload_n 0, 1) := by decide +kernel
theorem dX11_take_103 : decode cX11_take 103 = .ok (.aload 4, 2) := by decide +kernel
theorem dX11_take_105 : decode cX11_take 105 = .ok (.bipush 7, 2) := by decide +kernel
theorem dX11_take_107 : decode cX11_take 107 = .ok (.aload 4, 2) := by decide +kernel
theorem dX11_take_109 : decode cX11_take 109 = .ok (.getfield 352, 3) := by decide +kernel
theorem dX11_take_112 : decode cX11_take 112 = .ok (.invokevirtual 348, 3) := by decide +kernel
theorem dX11_take_115 : decode cX11_take 115 = .ok (.ireturn, 1) := by decide +kernel
theorem dX11_take_116 : decode cX11_take 116 = .ok (.aload_n 0, 1) := by decide +kernel
theorem dX11_take_117 : decode cX11_take 117 = .ok (.aload 4, 2) := by decide +kernel
theorem dX11_take_119 : decode cX11_take 119 = .ok (.bipush 8, 2) := by decide +kernel
theorem dX11_take_121 : decode cX11_take 121 = .ok (.aload 4, 2) := by decide +kernel
theorem dX11_take_123 : decode cX11_take 123 = .ok (.getfield 352, 3) := by decide +kernel
theorem dX11_take_126 : decode cX11_take 126 = .ok (.invokevirtual 348, 3) := by decide +kernel
theorem dX11_take_129 : decode cX11_take 129 = .ok (.ireturn, 1) := by decide +kernel
theorem dX11_take_130 : decode cX11_take 130 = .ok (.aload 4, 2) := by decide +kernel
theorem dX11_take_132 : decode cX11_take 132 = .ok (.getfield 345, 3) := by decide +kernel
theorem dX11_take_135 : decode cX11_take 135 = .ok (.aload_n 0, 1) := by decide +kernel
theorem dX11_take_136 : decode cX11_take 136 = .ok (.getfield 56, 3) := by decide +kernel
theorem dX11_take_139 : decode cX11_take 139 = .ok (.iload_n 3, 1) := by decide +kernel
theorem dX11_take_140 : decode cX11_take 140 = .ok (.invokevirtual 233, 3) := by decide +kernel
theorem dX11_take_143 : decode cX11_take 143 = .ok (.if_acmp .ne 19, 3) := by decide +kernel
theorem dX11_take_146 : decode cX11_take 146 = .ok (.aload_n 0, 1) := by decide +kernel
theorem dX11_take_147 : decode cX11_take 147 = .ok (.aload 4, 2) := by decide +kernel
theorem dX11_take_149 : decode cX11_take 149 = .ok (.bipush 8, 2) := by decide +kernel
theorem dX11_take_151 : decode cX11_take 151 = .ok (.aload 4, 2) := by decide +kernel
theorem dX11_take_153 : decode cX11_take 153 = .ok (.getfield 355, 3) := by decide +kernel
theorem dX11_take_156 : decode cX11_take 156 = .ok (.invokevirtual 348, 3) := by decide +kernel
theorem dX11_take_159 : decode cX11_take 159 = .ok (.goto 5, 3) := by decide +kernel
theorem dX11_take_162 : decode cX11_take 162 = .ok (.bipush (-3), 2) := by decide +kernel
theorem dX11_take_164 : decode cX11_take 164 = .ok (.ireturn, 1) := by decide +kernel
theorem dX11_take_165 : decode cX11_take 165 = .ok (.bipush (-2), 2) := by decide +kernel
theorem dX11_take_167 : decode cX11_take 167 = .ok (.ireturn, 1) := by decide +kernel
theorem cc_X11_take : Cond.code yX11_take cX11_take 5 (some .int) ∈ rf_tb := rf_at 1402 (by decide +kernel) (by decide +kernel)
theorem cw_RX11_348 : cl_wV RX11 RX11 yX11_takePart cX11_takePart 4 (some .int) 348 3 := ⟨⟨rf_at 1403 (by decide +kernel) (by decide +kernel), rf_at 1405 (by decide +kernel) (by decide +kernel), rf_sel (q := (yX11_takePart, 15)) 68 (by decide +kernel) (by decide +kernel), cc_X11_takePart, rf_at 1 (by decide +kernel) (by decide +kernel)⟩, ⟨by decide, by decide, by decide +kernel⟩⟩
noncomputable def bc_X11_take_29 (a : Nat) (x1 : Int32) (x2 : Int32) (x3 : Int32) (σ : cl_S) : Option (Int32 × cl_S) := bd2 (fc_X8_at 38 x1 σ) (fun r_10 σ_9 => (if x2 = (0:Int32) then nn r_10 (fun a_16 => vl (σ_9.2.2.1 a_16 3) (fun r_20 => bd2 (fc_X11_takePart a (some a_16) (3:Int32) r_20 σ_9) (fun r_24 σ_23 => some (r_24, σ_23)))) else if x2 = (1:Int32) then nn r_10 (fun a_29 => vl (σ_9.2.2.1 a_29 4) (fun r_33 => bd2 (fc_X11_takePart a (some a_29) (3:Int32) r_33 σ_9) (fun r_37 σ_36 => some (r_37, σ_36)))) else if x2 = (2:Int32) then nn r_10 (fun a_42 => vl (σ_9.2.2.1 a_42 4) (fun r_46 => bd2 (fc_X11_takePart a (some a_42) (7:Int32) r_46 σ_9) (fun r_50 σ_49 => some (r_50, σ_49)))) else if x2 = (3:Int32) then nn r_10 (fun a_55 => vl (σ_9.2.2.1 a_55 4) (fun r_59 => bd2 (fc_X11_takePart a (some a_55) (8:Int32) r_59 σ_9) (fun r_63 σ_62 => some (r_63, σ_62)))) else if x2 = (4:Int32) then nn r_10 (fun a_68 => vl (σ_9.2.2.1 a_68 3) (fun r_72 => bd2 (fc_X8_at 38 x3 σ_9) (fun r_77 σ_76 => (if r_72 = r_77 then vl (σ_76.2.2.1 a_68 5) (fun r_83 => bd2 (fc_X11_takePart a (some a_68) (8:Int32) r_83 σ_76) (fun r_87 σ_86 => some (r_87, σ_86))) else some ((-3:Int32), σ_76))))) else some ((-2:Int32), σ_9)))
set_option maxHeartbeats 4000000 in
theorem wc_X11_take_29 (C : cl_C D p s m args meth c cX11_take 5 (some .int) RX11) {r : Int32} {a : Nat} {x1 : Int32} {x2 : Int32} {x3 : Int32} {σ0 σ σ' : cl_S} {T : Nat → Nat × Nat} {H : Heap} {locs : List Loc} {ls : Array Slot} {cells slots : Nat} (h : bc_X11_take_29 a x1 x2 x3 σ = some (r, σ')) (G : cl_G true D c0 ({ frames := 3, cells := σ0.2.2.2.2.2.1, slots := σ0.2.2.2.2.2.2, locals := 68 }) s σ0.2.2.2.1 T σ H locs cells slots) (ha : (T a).1 = 27) (hl : lv_has ls 5 [(0, .ref (c0 + a)), (1, .int x1), (2, .int x2), (3, .int x3)]) : W p l e ({ frames := 3, cells := σ0.2.2.2.2.2.1, slots := σ0.2.2.2.2.2.2, locals := 68 }) s m args below meth c H locs cells slots (MQ below (cl_Q true D c0 (some (.int r)) cl_no σ0 σ') args s (σ0.2.2.2.2.2.1 - σ'.2.2.2.2.2.1) (σ0.2.2.2.2.2.2 - σ'.2.2.2.2.2.2) (cl_A c0 σ0.2.2.2.1 s.heap.size)) (F0 m 29 ls []) := by
  unfold bc_X11_take_29 at h
  refine lv_aload_n C.1 C.2.1 dX11_take_29 rfl (lv_at hl 0 rfl) ?_
  refine cg_11_56 C G ha dX11_take_30 (fun t_8 => ?_)
  have t_8 : (T 38).1 = 24 := by rw [t_8]
  refine lv_iload_n C.1 C.2.1 dX11_take_33 rfl (lv_at hl 1 rfl) ?_
  obtain ⟨r_10, σ_9, hq, h_11⟩ := bd2_some h
  refine cl_callV (ci := 8) (rest := []) C G rfl t_8 cw_RX11_233 [.int x1] _ (kc_X8_at l D c0 (by rw [G.1]; exact t_8) hq) (Nat.le_of_ble_eq_true rfl) (Nat.le_of_ble_eq_true rfl) rfl rfl hl.1 (Nat.le_of_ble_eq_true rfl) dX11_take_34 (fun T_12 H locs cells slots t_13 hu G_14 => ?_)
  have ha := hu.kind ha (by decide)
  refine W.eq (g2 := F0 m 37 ls [cl_rf c0 r_10]) rfl ?_
  refine cl_astore (lv' := [(4, cl_rf c0 r_10), (0, .ref (c0 + a)), (1, .int x1), (2, .int x2), (3, .int x3)]) C.1 C.2.1 dX11_take_37 hl (by decide) rfl (fun ls hl_15 => ?_)
  refine lv_iload_n C.1 C.2.1 dX11_take_39 rfl (lv_at hl_15 3 rfl) ?_
  by_cases hk0 : x2 = (0:Int32)
  · rw [if_pos hk0] at h_11
    refine lv_tableIn (tgt := 76) C.1 C.2.1 dX11_take_40 (by rw [hk0]; decide) (by rw [hk0]; decide) (by rw [hk0]; rfl) (by decide) ?_
    refine lv_aload_n C.1 C.2.1 dX11_take_76 rfl (lv_at hl_15 1 rfl) ?_
    refine cl_aload C.1 C.2.1 dX11_take_77 (lv_at hl_15 0 rfl) ?_
    refine lv_iconst (v := (3:Int32)) C.1 C.2.1 dX11_take_79 (by decide) ?_
    refine cl_aload C.1 C.2.1 dX11_take_80 (lv_at hl_15 0 rfl) ?_
    obtain ⟨a_16, rfl, h_18⟩ := nn_some h_11
    have t_17 := t_13 _ rfl
    refine cg_11_345 C G_14 t_17 dX11_take_82 (fun t_19 => ?_)
    refine vt_r (K := 25) t_19 h_18 (fun r_20 t_21 h_22 => ?_)
    obtain ⟨r_24, σ_23, hq, h_25⟩ := bd2_some h_22
    refine cl_callV (ci := 11) (rest := []) C G_14 rfl ha cw_RX11_348 [.ref (c0 + a_16), .int (3:Int32), cl_rf c0 r_20] _ (kc_X11_takePart l D c0 (by rw [G_14.1]; exact ha) hq (by rw [G_14.1]; exact (cl_RTs t_17)) (by rw [G_14.1]; exact t_21)) (Nat.le_of_ble_eq_true rfl) (Nat.le_of_ble_eq_true rfl) rfl rfl hl_15.1 (Nat.le_of_ble_eq_true rfl) dX11_take_85 (fun T_26 H locs cells slots t_27 hu G_28 => ?_)
    have t_17 := hu.kind t_17 (by decide)
    have ha := hu.kind ha (by decide)
    refine W.eq (g2 := F0 m 88 ls [.int r_24]) rfl ?_
    exact cl_iret ⟨rfl, rfl⟩ rfl C G_28 h_25 dX11_take_88
  rw [if_neg hk0] at h_11
  by_cases hk1 : x2 = (1:Int32)
  · rw [if_pos hk1] at h_11
    refine lv_tableIn (tgt := 89) C.1 C.2.1 dX11_take_40 (by rw [hk1]; decide) (by rw [hk1]; decide) (by rw [hk1]; rfl) (by decide) ?_
    refine lv_aload_n C.1 C.2.1 dX11_take_89 rfl (lv_at hl_15 1 rfl) ?_
    refine cl_aload C.1 C.2.1 dX11_take_90 (lv_at hl_15 0 rfl) ?_
    refine lv_iconst (v := (3:Int32)) C.1 C.2.1 dX11_take_92 (by decide) ?_
    refine cl_aload C.1 C.2.1 dX11_take_93 (lv_at hl_15 0 rfl) ?_
    obtain ⟨a_29, rfl, h_31⟩ := nn_some h_11
    have t_30 := t_13 _ rfl
    refine cg_11_352 C G_14 t_30 dX11_take_95 (fun t_32 => ?_)
    refine vt_r (K := 25) t_32 h_31 (fun r_33 t_34 h_35 => ?_)
    obtain ⟨r_37, σ_36, hq, h_38⟩ := bd2_some h_35
    refine cl_callV (ci := 11) (rest := []) C G_14 rfl ha cw_RX11_348 [.ref (c0 + a_29), .int (3:Int32), cl_rf c0 r_33] _ (kc_X11_takePart l D c0 (by rw [G_14.1]; exact ha) hq (by rw [G_14.1]; exact (cl_RTs t_30)) (by rw [G_14.1]; exact t_34)) (Nat.le_of_ble_eq_true rfl) (Nat.le_of_ble_eq_true rfl) rfl rfl hl_15.1 (Nat.le_of_ble_eq_true rfl) dX11_take_98 (fun T_39 H locs cells slots t_40 hu G_41 => ?_)
    have t_30 := hu.kind t_30 (by decide)
    have ha := hu.kind ha (by decide)
    refine W.eq (g2 := F0 m 101 ls [.int r_37]) rfl ?_
    exact cl_iret ⟨rfl, rfl⟩ rfl C G_41 h_38 dX11_take_101
  rw [if_neg hk1] at h_11
  by_cases hk2 : x2 = (2:Int32)
  · rw [if_pos hk2] at h_11
    refine lv_tableIn (tgt := 102) C.1 C.2.1 dX11_take_40 (by rw [hk2]; decide) (by rw [hk2]; decide) (by rw [hk2]; rfl) (by decide) ?_
    refine lv_aload_n C.1 C.2.1 dX11_take_102 rfl (lv_at hl_15 1 rfl) ?_
    refine cl_aload C.1 C.2.1 dX11_take_103 (lv_at hl_15 0 rfl) ?_
    refine lv_bipush (v := (7:Int32)) C.1 C.2.1 dX11_take_105 (by decide) ?_
    refine cl_aload C.1 C.2.1 dX11_take_107 (lv_at hl_15 0 rfl) ?_
    obtain ⟨a_42, rfl, h_44⟩ := nn_some h_11
    have t_43 := t_13 _ rfl
    refine cg_11_352 C G_14 t_43 dX11_take_109 (fun t_45 => ?_)
    refine vt_r (K := 25) t_45 h_44 (fun r_46 t_47 h_48 => ?_)
    obtain ⟨r_50, σ_49, hq, h_51⟩ := bd2_some h_48
    refine cl_callV (ci := 11) (rest := []) C G_14 rfl ha cw_RX11_348 [.ref (c0 + a_42), .int (7:Int32), cl_rf c0 r_46] _ (kc_X11_takePart l D c0 (by rw [G_14.1]; exact ha) hq (by rw [G_14.1]; exact (cl_RTs t_43)) (by rw [G_14.1]; exact t_47)) (Nat.le_of_ble_eq_true rfl) (Nat.le_of_ble_eq_true rfl) rfl rfl hl_15.1 (Nat.le_of_ble_eq_true rfl) dX11_take_112 (fun T_52 H locs cells slots t_53 hu G_54 => ?_)
    have t_43 := hu.kind t_43 (by decide)
    have ha := hu.kind ha (by decide)
    refine W.eq (g2 := F0 m 115 ls [.int r_50]) rfl ?_
    exact cl_iret ⟨rfl, rfl⟩ rfl C G_54 h_51 dX11_take_115
  rw [if_neg hk2] at h_11
  by_cases hk3 : x2 = (3:Int32)
  · rw [if_pos hk3] at h_11
    refine lv_tableIn (tgt := 116) C.1 C.2.1 dX11_take_40 (by rw [hk3]; decide) (by rw [hk3]; decide) (by rw [hk3]; rfl) (by decide) ?_
    refine lv_aload_n C.1 C.2.1 dX11_take_116 rfl (lv_at hl_15 1 rfl) ?_
    refine cl_aload C.1 C.2.1 dX11_take_117 (lv_at hl_15 0 rfl) ?_
    refine lv_bipush (v := (8:Int32)) C.1 C.2.1 dX11_take_119 (by decide) ?_
    refine cl_aload C.1 C.2.1 dX11_take_121 (lv_at hl_15 0 rfl) ?_
    obtain ⟨a_55, rfl, h_57⟩ := nn_some h_11
    have t_56 := t_13 _ rfl
    refine cg_11_352 C G_14 t_56 dX11_take_123 (fun t_58 => ?_)
    refine vt_r (K := 25) t_58 h_57 (fun r_59 t_60 h_61 => ?_)
    obtain ⟨r_63, σ_62, hq, h_64⟩ := bd2_some h_61
    refine cl_callV (ci := 11) (rest := []) C G_14 rfl ha cw_RX11_348 [.ref (c0 + a_55), .int (8:Int32), cl_rf c0 r_59] _ (kc_X11_takePart l D c0 (by rw [G_14.1]; exact ha) hq (by rw [G_14.1]; exact (cl_RTs t_56)) (by rw [G_14.1]; exact t_60)) (Nat.le_of_ble_eq_true rfl) (Nat.le_of_ble_eq_true rfl) rfl rfl hl_15.1 (Nat.le_of_ble_eq_true rfl) dX11_take_126 (fun T_65 H locs cells slots t_66 hu G_67 => ?_)
    have t_56 := hu.kind t_56 (by decide)
    have ha := hu.kind ha (by decide)
    refine W.eq (g2 := F0 m 129 ls [.int r_63]) rfl ?_
    exact cl_iret ⟨rfl, rfl⟩ rfl C G_67 h_64 dX11_take_129
  rw [if_neg hk3] at h_11
  by_cases hk4 : x2 = (4:Int32)
  · rw [if_pos hk4] at h_11
    refine lv_tableIn (tgt := 130) C.1 C.2.1 dX11_take_40 (by rw [hk4]; decide) (by rw [hk4]; decide) (by rw [hk4]; rfl) (by decide) ?_
    refine cl_aload C.1 C.2.1 dX11_take_130 (lv_at hl_15 0 rfl) ?_
    obtain ⟨a_68, rfl, h_70⟩ := nn_some h_11
    have t_69 := t_13 _ rfl
    refine cg_11_345 C G_14 t_69 dX11_take_132 (fun t_71 => ?_)
    refine vt_r (K := 25) t_71 h_70 (fun r_72 t_73 h_74 => ?_)
    refine lv_aload_n C.1 C.2.1 dX11_take_135 rfl (lv_at hl_15 1 rfl) ?_
    refine cg_11_56 C G_14 ha dX11_take_136 (fun t_75 => ?_)
    have t_75 : (T_12 38).1 = 24 := by rw [t_75]
    refine lv_iload_n C.1 C.2.1 dX11_take_139 rfl (lv_at hl_15 4 rfl) ?_
    obtain ⟨r_77, σ_76, hq, h_78⟩ := bd2_some h_74
    refine cl_callV (ci := 8) (rest := [cl_rf c0 r_72]) C G_14 rfl t_75 cw_RX11_233 [.int x3] _ (kc_X8_at l D c0 (by rw [G_14.1]; exact t_75) hq) (Nat.le_of_ble_eq_true rfl) (Nat.le_of_ble_eq_true rfl) rfl rfl hl_15.1 (by cases r_72 <;> exact Nat.le_of_ble_eq_true rfl) dX11_take_140 (fun T_79 H locs cells slots t_80 hu G_81 => ?_)
    have t_69 := hu.kind t_69 (by decide)
    have ha := hu.kind ha (by decide)
    have t_73 := t_73.up hu (by decide)
    refine W.eq (g2 := F0 m 143 ls [cl_rf c0 r_77, cl_rf c0 r_72]) rfl ?_
    refine cl_acmp_ne (rx := r_72) (ry := r_77) (tgt := 162) C.1 C.2.1 dX11_take_143 (by decide) (fun hc => ?_) (fun hc => ?_)
    · rw [if_neg hc] at h_78
      refine lv_bipush (v := (-3:Int32)) C.1 C.2.1 dX11_take_162 (by decide) ?_
      exact cl_iret ⟨rfl, rfl⟩ rfl C G_81 h_78 dX11_take_164
    · rw [if_pos hc] at h_78
      refine lv_aload_n C.1 C.2.1 dX11_take_146 rfl (lv_at hl_15 1 rfl) ?_
      refine lv_aload C.1 C.2.1 dX11_take_147 (lv_at hl_15 0 rfl) ?_
      refine lv_bipush (v := (8:Int32)) C.1 C.2.1 dX11_take_149 (by decide) ?_
      refine lv_aload C.1 C.2.1 dX11_take_151 (lv_at hl_15 0 rfl) ?_
      refine cg_11_355 C G_81 t_69 dX11_take_153 (fun t_82 => ?_)
      refine vt_r (K := 25) t_82 h_78 (fun r_83 t_84 h_85 => ?_)
      obtain ⟨r_87, σ_86, hq, h_88⟩ := bd2_some h_85
      refine cl_callV (ci := 11) (rest := []) C G_81 rfl ha cw_RX11_348 [.ref (c0 + a_68), .int (8:Int32), cl_rf c0 r_83] _ (kc_X11_takePart l D c0 (by rw [G_81.1]; exact ha) hq (by rw [G_81.1]; exact (cl_RTs t_69)) (by rw [G_81.1]; exact t_84)) (Nat.le_of_ble_eq_true rfl) (Nat.le_of_ble_eq_true rfl) rfl rfl hl_15.1 (Nat.le_of_ble_eq_true rfl) dX11_take_156 (fun T_89 H locs cells slots t_90 hu G_91 => ?_)
      have t_69 := hu.kind t_69 (by decide)
      have ha := hu.kind ha (by decide)
      refine W.eq (g2 := F0 m 159 ls [.int r_87]) rfl ?_
      refine lv_goto (tgt := 164) C.1 C.2.1 dX11_take_159 (by decide) ?_
      exact cl_iret ⟨rfl, rfl⟩ rfl C G_91 h_88 dX11_take_164
  rw [if_neg hk4] at h_11
  refine lv_tableOut (tgt := 165) C.1 C.2.1 dX11_take_40 ?_ (by decide) ?_
  · rcases Int.lt_or_le x2.toInt 0 with q | q
    · exact Or.inl q
    · rcases Int.lt_or_le 4 x2.toInt with q2 | q2
      · exact Or.inr q2
      · exfalso
        have hd : x2.toInt = (0 : Int) ∨ x2.toInt = (1 : Int) ∨ x2.toInt = (2 : Int) ∨ x2.toInt = (3 : Int) ∨ x2.toInt = (4 : Int) := by omega
        rcases hd with e | e | e | e | e
        · exact hk0 (Int32.toInt_inj.mp (e.trans (by decide)))
        · exact hk1 (Int32.toInt_inj.mp (e.trans (by decide)))
        · exact hk2 (Int32.toInt_inj.mp (e.trans (by decide)))
        · exact hk3 (Int32.toInt_inj.mp (e.trans (by decide)))
        · exact hk4 (Int32.toInt_inj.mp (e.trans (by decide)))
  · refine lv_bipush (v := (-2:Int32)) C.1 C.2.1 dX11_take_165 (by decide) ?_
    exact cl_iret ⟨rfl, rfl⟩ rfl C G_14 h_11 dX11_take_167
noncomputable def bc_X11_take_0 (a : Nat) (x1 : Int32) (x2 : Int32) (x3 : Int32) (σ : cl_S) : Option (Int32 × cl_S) := bd2 (fc_X8_has 38 x1 σ) (fun r_3 σ_2 => (if r_3 = 0 then some ((-1:Int32), σ_2) else (if x2 = (4:Int32) then bd2 (fc_X8_has 38 x3 σ_2) (fun r_94 σ_93 => (if r_94 = 0 then some ((-1:Int32), σ_93) else bc_X11_take_29 a x1 x2 x3 σ_93)) else bc_X11_take_29 a x1 x2 x3 σ_2)))
set_option maxHeartbeats 4000000 in
theorem wc_X11_take_0 (C : cl_C D p s m args meth c cX11_take 5 (some .int) RX11) {r : Int32} {a : Nat} {x1 : Int32} {x2 : Int32} {x3 : Int32} {σ0 σ σ' : cl_S} {T : Nat → Nat × Nat} {H : Heap} {locs : List Loc} {ls : Array Slot} {cells slots : Nat} (h : bc_X11_take_0 a x1 x2 x3 σ = some (r, σ')) (G : cl_G true D c0 ({ frames := 3, cells := σ0.2.2.2.2.2.1, slots := σ0.2.2.2.2.2.2, locals := 68 }) s σ0.2.2.2.1 T σ H locs cells slots) (ha : (T a).1 = 27) (hl : lv_has ls 5 [(0, .ref (c0 + a)), (1, .int x1), (2, .int x2), (3, .int x3)]) : W p l e ({ frames := 3, cells := σ0.2.2.2.2.2.1, slots := σ0.2.2.2.2.2.2, locals := 68 }) s m args below meth c H locs cells slots (MQ below (cl_Q true D c0 (some (.int r)) cl_no σ0 σ') args s (σ0.2.2.2.2.2.1 - σ'.2.2.2.2.2.1) (σ0.2.2.2.2.2.2 - σ'.2.2.2.2.2.2) (cl_A c0 σ0.2.2.2.1 s.heap.size)) (F0 m 0 ls []) := by
  unfold bc_X11_take_0 at h
  refine lv_aload_n C.1 C.2.1 dX11_take_0 rfl (lv_at hl 0 rfl) ?_
  refine cg_11_56 C G ha dX11_take_1 (fun t_1 => ?_)
  have t_1 : (T 38).1 = 24 := by rw [t_1]
  refine lv_iload_n C.1 C.2.1 dX11_take_4 rfl (lv_at hl 1 rfl) ?_
  obtain ⟨r_3, σ_2, hq, h_4⟩ := bd2_some h
  refine cl_callV (ci := 8) (rest := []) C G rfl t_1 cw_RX11_230 [.int x1] _ (kc_X8_has l D c0 (by rw [G.1]; exact t_1) hq) (Nat.le_of_ble_eq_true rfl) (Nat.le_of_ble_eq_true rfl) rfl rfl hl.1 (Nat.le_of_ble_eq_true rfl) dX11_take_5 (fun T_5 H locs cells slots t_6 hu G_7 => ?_)
  have ha := hu.kind ha (by decide)
  refine W.eq (g2 := F0 m 8 ls [.int r_3]) rfl ?_
  refine lv_if_eq (tgt := 27) C.1 C.2.1 dX11_take_8 (by decide) (fun hc => ?_) (fun hc => ?_)
  · rw [if_pos hc] at h_4
    refine lv_iconst (v := (-1:Int32)) C.1 C.2.1 dX11_take_27 (by decide) ?_
    exact cl_iret ⟨rfl, rfl⟩ rfl C G_7 h_4 dX11_take_28
  · rw [if_neg hc] at h_4
    refine lv_iload_n C.1 C.2.1 dX11_take_11 rfl (lv_at hl 2 rfl) ?_
    refine lv_iconst (v := (4:Int32)) C.1 C.2.1 dX11_take_12 (by decide) ?_
    refine lv_icmp_ne (tgt := 29) C.1 C.2.1 dX11_take_13 (by decide) (fun hc => ?_) (fun hc => ?_)
    · rw [if_neg hc] at h_4
      exact wc_X11_take_29 C h_4 G_7 ha (lv_sub hl [0, 1, 2, 3] rfl)
    · rw [if_pos hc] at h_4
      refine lv_aload_n C.1 C.2.1 dX11_take_16 rfl (lv_at hl 0 rfl) ?_
      refine cg_11_56 C G_7 ha dX11_take_17 (fun t_92 => ?_)
      have t_92 : (T_5 38).1 = 24 := by rw [t_92]
      refine lv_iload_n C.1 C.2.1 dX11_take_20 rfl (lv_at hl 3 rfl) ?_
      obtain ⟨r_94, σ_93, hq, h_95⟩ := bd2_some h_4
      refine cl_callV (ci := 8) (rest := []) C G_7 rfl t_92 cw_RX11_230 [.int x3] _ (kc_X8_has l D c0 (by rw [G_7.1]; exact t_92) hq) (Nat.le_of_ble_eq_true rfl) (Nat.le_of_ble_eq_true rfl) rfl rfl hl.1 (Nat.le_of_ble_eq_true rfl) dX11_take_21 (fun T_96 H locs cells slots t_97 hu G_98 => ?_)
      have ha := hu.kind ha (by decide)
      refine W.eq (g2 := F0 m 24 ls [.int r_94]) rfl ?_
      refine lv_if_ne (tgt := 29) C.1 C.2.1 dX11_take_24 (by decide) (fun hc => ?_) (fun hc => ?_)
      · rw [if_neg hc] at h_95
        exact wc_X11_take_29 C h_95 G_98 ha (lv_sub hl [0, 1, 2, 3] rfl)
      · rw [if_pos hc] at h_95
        refine lv_iconst (v := (-1:Int32)) C.1 C.2.1 dX11_take_27 (by decide) ?_
        exact cl_iret ⟨rfl, rfl⟩ rfl C G_98 h_95 dX11_take_28
noncomputable def fc_X11_take (a : Nat) (x1 : Int32) (x2 : Int32) (x3 : Int32) (σ : cl_S) : Option (Int32 × cl_S) := bc_X11_take_0 a x1 x2 x3 σ
theorem kc_X11_take (l : Launch) (D : cl_D) (c0 : Nat) {r : Int32} {a : Nat} {x1 : Int32} {x2 : Int32} {x3 : Int32} {σ σ' : cl_S} (ha : (σ.2.2.2.1 a).1 = 27) (h : fc_X11_take a x1 x2 x3 σ = some (r, σ')) : cl_Met true l D c0 yX11_take cX11_take 5 (some .int) 3 68 [.ref (c0 + a), .int x1, .int x2, .int x3] σ (some (.int r)) cl_no σ' :=
  cl_of (by decide) (Nat.le_of_ble_eq_true rfl) (fun p e s m args below meth c ls C hn G hl => wc_X11_take_0 C h G ha hl)
abbrev cX11_kind : ByteArray := prog_1_method_30_code
def yX11_kind : MethodName := ⟨RX11, "kind", "(I)I"⟩
theorem dX11_kind_0 : decode cX11_kind 0 = .ok (.aload_n 0, 1) := by decide +kernel
theorem dX11_kind_1 : decode cX11_kind 1 = .ok (.getfield 56, 3) := by decide +kernel
theorem dX11_kind_4 : decode cX11_kind 4 = .ok (.iload_n 1, 1) := by decide +kernel
theorem dX11_kind_5 : decode cX11_kind 5 = .ok (.invokevirtual 230, 3) := by decide +kernel
theorem dX11_kind_8 : decode cX11_kind 8 = .ok (.ifCond .eq 17, 3) := by decide +kernel
theorem dX11_kind_11 : decode cX11_kind 11 = .ok (.aload_n 0, 1) := by decide +kernel
theorem dX11_kind_12 : decode cX11_kind 12 = .ok (.getfield 56, 3) := by decide +kernel
theorem dX11_kind_15 : decode cX11_kind 15 = .ok (.iload_n 1, 1) := by decide +kernel
theorem dX11_kind_16 : decode cX11_kind 16 = .ok (.invokevirtual 233, 3) := by decide +kernel
theorem dX11_kind_19 : decode cX11_kind 19 = .ok (.getfield 358, 3) := by decide +kernel
theorem dX11_kind_22 : decode cX11_kind 22 = .ok (.goto 4, 3) := by decide +kernel
theorem dX11_kind_25 : decode cX11_kind 25 = .ok (.iconst (-1), 1) := by decide +kernel
theorem dX11_kind_26 : decode cX11_kind 26 = .ok (.ireturn, 1) := by decide +kernel
theorem cc_X11_kind : Cond.code yX11_kind cX11_kind 2 (some .int) ∈ rf_tb := rf_at 1410 (by decide +kernel) (by decide +kernel)
noncomputable def bc_X11_kind_0 (a : Nat) (x1 : Int32) (σ : cl_S) : Option (Int32 × cl_S) := bd2 (fc_X8_has 38 x1 σ) (fun r_3 σ_2 => (if r_3 = 0 then some ((-1:Int32), σ_2) else bd2 (fc_X8_at 38 x1 σ_2) (fun r_10 σ_9 => nn r_10 (fun a_15 => some ((σ_9.1 a_15 0), σ_9)))))
set_option maxHeartbeats 4000000 in
theorem wc_X11_kind_0 (C : cl_C D p s m args meth c cX11_kind 2 (some .int) RX11) {r : Int32} {a : Nat} {x1 : Int32} {σ0 σ σ' : cl_S} {T : Nat → Nat × Nat} {H : Heap} {locs : List Loc} {ls : Array Slot} {cells slots : Nat} (h : bc_X11_kind_0 a x1 σ = some (r, σ')) (G : cl_G true D c0 ({ frames := 2, cells := σ0.2.2.2.2.2.1, slots := σ0.2.2.2.2.2.2, locals := 42 }) s σ0.2.2.2.1 T σ H locs cells slots) (ha : (T a).1 = 27) (hl : lv_has ls 2 [(0, .ref (c0 + a)), (1, .int x1)]) : W p l e ({ frames := 2, cells := σ0.2.2.2.2.2.1, slots := σ0.2.2.2.2.2.2, locals := 42 }) s m args below meth c H locs cells slots (MQ below (cl_Q true D c0 (some (.int r)) cl_no σ0 σ') args s (σ0.2.2.2.2.2.1 - σ'.2.2.2.2.2.1) (σ0.2.2.2.2.2.2 - σ'.2.2.2.2.2.2) (cl_A c0 σ0.2.2.2.1 s.heap.size)) (F0 m 0 ls []) := by
  unfold bc_X11_kind_0 at h
  refine lv_aload_n C.1 C.2.1 dX11_kind_0 rfl (lv_at hl 0 rfl) ?_
  refine cg_11_56 C G ha dX11_kind_1 (fun t_1 => ?_)
  have t_1 : (T 38).1 = 24 := by rw [t_1]
  refine lv_iload_n C.1 C.2.1 dX11_kind_4 rfl (lv_at hl 1 rfl) ?_
  obtain ⟨r_3, σ_2, hq, h_4⟩ := bd2_some h
  refine cl_callV (ci := 8) (rest := []) C G rfl t_1 cw_RX11_230 [.int x1] _ (kc_X8_has l D c0 (by rw [G.1]; exact t_1) hq) (Nat.le_of_ble_eq_true rfl) (Nat.le_of_ble_eq_true rfl) rfl rfl hl.1 (Nat.le_of_ble_eq_true rfl) dX11_kind_5 (fun T_5 H locs cells slots t_6 hu G_7 => ?_)
  have ha := hu.kind ha (by decide)
  refine W.eq (g2 := F0 m 8 ls [.int r_3]) rfl ?_
  refine lv_if_eq (tgt := 25) C.1 C.2.1 dX11_kind_8 (by decide) (fun hc => ?_) (fun hc => ?_)
  · rw [if_pos hc] at h_4
    refine lv_iconst (v := (-1:Int32)) C.1 C.2.1 dX11_kind_25 (by decide) ?_
    exact cl_iret ⟨rfl, rfl⟩ rfl C G_7 h_4 dX11_kind_26
  · rw [if_neg hc] at h_4
    refine lv_aload_n C.1 C.2.1 dX11_kind_11 rfl (lv_at hl 0 rfl) ?_
    refine cg_11_56 C G_7 ha dX11_kind_12 (fun t_8 => ?_)
    have t_8 : (T_5 38).1 = 24 := by rw [t_8]
    refine lv_iload_n C.1 C.2.1 dX11_kind_15 rfl (lv_at hl 1 rfl) ?_
    obtain ⟨r_10, σ_9, hq, h_11⟩ := bd2_some h_4
    refine cl_callV (ci := 8) (rest := []) C G_7 rfl t_8 cw_RX11_233 [.int x1] _ (kc_X8_at l D c0 (by rw [G_7.1]; exact t_8) hq) (Nat.le_of_ble_eq_true rfl) (Nat.le_of_ble_eq_true rfl) rfl rfl hl.1 (Nat.le_of_ble_eq_true rfl) dX11_kind_16 (fun T_12 H locs cells slots t_13 hu G_14 => ?_)
    have ha := hu.kind ha (by decide)
    refine W.eq (g2 := F0 m 19 ls [cl_rf c0 r_10]) rfl ?_
    obtain ⟨a_15, rfl, h_17⟩ := nn_some h_11
    have t_16 := t_13 _ rfl
    refine cg_11_358 C G_14 t_16 dX11_kind_19 ?_
    refine lv_goto (tgt := 26) C.1 C.2.1 dX11_kind_22 (by decide) ?_
    exact cl_iret ⟨rfl, rfl⟩ rfl C G_14 h_17 dX11_kind_26
noncomputable def fc_X11_kind (a : Nat) (x1 : Int32) (σ : cl_S) : Option (Int32 × cl_S) := bc_X11_kind_0 a x1 σ
theorem kc_X11_kind (l : Launch) (D : cl_D) (c0 : Nat) {r : Int32} {a : Nat} {x1 : Int32} {σ σ' : cl_S} (ha : (σ.2.2.2.1 a).1 = 27) (h : fc_X11_kind a x1 σ = some (r, σ')) : cl_Met true l D c0 yX11_kind cX11_kind 2 (some .int) 2 42 [.ref (c0 + a), .int x1] σ (some (.int r)) cl_no σ' :=
  cl_of (by decide) (Nat.le_of_ble_eq_true rfl) (fun p e s m args below meth c ls C hn G hl => wc_X11_kind_0 C h G ha hl)
abbrev cX11_number : ByteArray := prog_1_method_31_code
def yX11_number : MethodName := ⟨RX11, "number", "(I)I"⟩
theorem dX11_number_0 : decode cX11_number 0 = .ok (.aload_n 0, 1) := by decide +kernel
theorem dX11_number_1 : decode cX11_number 1 = .ok (.getfield 56, 3) := by decide +kernel
theorem dX11_number_4 : decode cX11_number 4 = .ok (.iload_n 1, 1) := by decide +kernel
theorem dX11_number_5 : decode cX11_number 5 = .ok (.invokevirtual 233, 3) := by decide +kernel
theorem dX11_number_8 : decode cX11_number 8 = .ok (.getfield 358, 3) := by decide +kernel
theorem dX11_number_11 : decode cX11_number 11 = .ok (.ifCond .ne 17, 3) := by decide +kernel
theorem dX11_number_14 : decode cX11_number 14 = .ok (.aload_n 0, 1) := by decide +kernel
theorem dX11_number_15 : decode cX11_number 15 = .ok (.getfield 56, 3) := by decide +kernel
theorem dX11_number_18 : decode cX11_number 18 = .ok (.iload_n 1, 1) := by decide +kernel
theorem dX11_number_19 : decode cX11_number 19 = .ok (.invokevirtual 233, 3) := by decide +kernel
theorem dX11_number_22 : decode cX11_number 22 = .ok (.getfield 361, 3) := by decide +kernel
theorem dX11_number_25 : decode cX11_number 25 = .ok (.goto 4, 3) := by decide +kernel
theorem dX11_number_28 : decode cX11_number 28 = .ok (.iconst 0, 1) := by decide +kernel
theorem dX11_number_29 : decode cX11_number 29 = .ok (.ireturn, 1) := by decide +kernel
theorem cc_X11_number : Cond.code yX11_number cX11_number 2 (some .int) ∈ rf_tb := rf_at 1414 (by decide +kernel) (by decide +kernel)
noncomputable def bc_X11_number_0 (a : Nat) (x1 : Int32) (σ : cl_S) : Option (Int32 × cl_S) := bd2 (fc_X8_at 38 x1 σ) (fun r_3 σ_2 => nn r_3 (fun a_8 => (if (σ_2.1 a_8 0) = 0 then bd2 (fc_X8_at 38 x1 σ_2) (fun r_13 σ_12 => nn r_13 (fun a_18 => some ((σ_12.1 a_18 1), σ_12))) else some ((0:Int32), σ_2))))
set_option maxHeartbeats 4000000 in
theorem wc_X11_number_0 (C : cl_C D p s m args meth c cX11_number 2 (some .int) RX11) {r : Int32} {a : Nat} {x1 : Int32} {σ0 σ σ' : cl_S} {T : Nat → Nat × Nat} {H : Heap} {locs : List Loc} {ls : Array Slot} {cells slots : Nat} (h : bc_X11_number_0 a x1 σ = some (r, σ')) (G : cl_G true D c0 ({ frames := 2, cells := σ0.2.2.2.2.2.1, slots := σ0.2.2.2.2.2.2, locals := 42 }) s σ0.2.2.2.1 T σ H locs cells slots) (ha : (T a).1 = 27) (hl : lv_has ls 2 [(0, .ref (c0 + a)), (1, .int x1)]) : W p l e ({ frames := 2, cells := σ0.2.2.2.2.2.1, slots := σ0.2.2.2.2.2.2, locals := 42 }) s m args below meth c H locs cells slots (MQ below (cl_Q true D c0 (some (.int r)) cl_no σ0 σ') args s (σ0.2.2.2.2.2.1 - σ'.2.2.2.2.2.1) (σ0.2.2.2.2.2.2 - σ'.2.2.2.2.2.2) (cl_A c0 σ0.2.2.2.1 s.heap.size)) (F0 m 0 ls []) := by
  unfold bc_X11_number_0 at h
  refine lv_aload_n C.1 C.2.1 dX11_number_0 rfl (lv_at hl 0 rfl) ?_
  refine cg_11_56 C G ha dX11_number_1 (fun t_1 => ?_)
  have t_1 : (T 38).1 = 24 := by rw [t_1]
  refine lv_iload_n C.1 C.2.1 dX11_number_4 rfl (lv_at hl 1 rfl) ?_
  obtain ⟨r_3, σ_2, hq, h_4⟩ := bd2_some h
  refine cl_callV (ci := 8) (rest := []) C G rfl t_1 cw_RX11_233 [.int x1] _ (kc_X8_at l D c0 (by rw [G.1]; exact t_1) hq) (Nat.le_of_ble_eq_true rfl) (Nat.le_of_ble_eq_true rfl) rfl rfl hl.1 (Nat.le_of_ble_eq_true rfl) dX11_number_5 (fun T_5 H locs cells slots t_6 hu G_7 => ?_)
  have ha := hu.kind ha (by decide)
  refine W.eq (g2 := F0 m 8 ls [cl_rf c0 r_3]) rfl ?_
  obtain ⟨a_8, rfl, h_10⟩ := nn_some h_4
  have t_9 := t_6 _ rfl
  refine cg_11_358 C G_7 t_9 dX11_number_8 ?_
  refine lv_if_ne (tgt := 28) C.1 C.2.1 dX11_number_11 (by decide) (fun hc => ?_) (fun hc => ?_)
  · rw [if_neg hc] at h_10
    refine lv_iconst (v := (0:Int32)) C.1 C.2.1 dX11_number_28 (by decide) ?_
    exact cl_iret ⟨rfl, rfl⟩ rfl C G_7 h_10 dX11_number_29
  · rw [if_pos hc] at h_10
    refine lv_aload_n C.1 C.2.1 dX11_number_14 rfl (lv_at hl 0 rfl) ?_
    refine cg_11_56 C G_7 ha dX11_number_15 (fun t_11 => ?_)
    have t_11 : (T_5 38).1 = 24 := by rw [t_11]
    refine lv_iload_n C.1 C.2.1 dX11_number_18 rfl (lv_at hl 1 rfl) ?_
    obtain ⟨r_13, σ_12, hq, h_14⟩ := bd2_some h_10
    refine cl_callV (ci := 8) (rest := []) C G_7 rfl t_11 cw_RX11_233 [.int x1] _ (kc_X8_at l D c0 (by rw [G_7.1]; exact t_11) hq) (Nat.le_of_ble_eq_true rfl) (Nat.le_of_ble_eq_true rfl) rfl rfl hl.1 (Nat.le_of_ble_eq_true rfl) dX11_number_19 (fun T_15 H locs cells slots t_16 hu G_17 => ?_)
    have ha := hu.kind ha (by decide)
    refine W.eq (g2 := F0 m 22 ls [cl_rf c0 r_13]) rfl ?_
    obtain ⟨a_18, rfl, h_20⟩ := nn_some h_14
    have t_19 := t_16 _ rfl
    refine cg_11_361 C G_17 t_19 dX11_number_22 ?_
    refine lv_goto (tgt := 29) C.1 C.2.1 dX11_number_25 (by decide) ?_
    exact cl_iret ⟨rfl, rfl⟩ rfl C G_17 h_20 dX11_number_29
noncomputable def fc_X11_number (a : Nat) (x1 : Int32) (σ : cl_S) : Option (Int32 × cl_S) := bc_X11_number_0 a x1 σ
theorem kc_X11_number (l : Launch) (D : cl_D) (c0 : Nat) {r : Int32} {a : Nat} {x1 : Int32} {σ σ' : cl_S} (ha : (σ.2.2.2.1 a).1 = 27) (h : fc_X11_number a x1 σ = some (r, σ')) : cl_Met true l D c0 yX11_number cX11_number 2 (some .int) 2 42 [.ref (c0 + a), .int x1] σ (some (.int r)) cl_no σ' :=
  cl_of (by decide) (Nat.le_of_ble_eq_true rfl) (fun p e s m args below meth c ls C hn G hl => wc_X11_number_0 C h G ha hl)
abbrev cX11_measure : ByteArray := prog_1_method_32_code
def yX11_measure : MethodName := ⟨RX11, "measure", "(I)I"⟩
theorem dX11_measure_0 : decode cX11_measure 0 = .ok (.aload_n 0, 1) := by decide +kernel
theorem dX11_measure_1 : decode cX11_measure 1 = .ok (.iload_n 1, 1) := by decide +kernel
theorem dX11_measure_2 : decode cX11_measure 2 = .ok (.invokevirtual 219, 3) := by decide +kernel
theorem dX11_measure_5 : decode cX11_measure 5 = .ok (.ifCond .eq 25, 3) := by decide +kernel
theorem dX11_measure_8 : decode cX11_measure 8 = .ok (.aload_n 0, 1) := by decide +kernel
theorem dX11_measure_9 : decode cX11_measure 9 = .ok (.getfield 56, 3) := by decide +kernel
theorem dX11_measure_12 : decode cX11_measure 12 = .ok (.aload_n 0, 1) := by decide +kernel
theorem dX11_measure_13 : decode cX11_measure 13 = .ok (.getfield 81, 3) := by decide +kernel
theorem dX11_measure_16 : decode cX11_measure 16 = .ok (.getfield 175, 3) := by decide +kernel
theorem dX11_measure_19 : decode cX11_measure 19 = .ok (.iload_n 1, 1) := by decide +kernel
theorem dX11_measure_20 : decode cX11_measure 20 = .ok (.aaload, 1) := by decide +kernel
theorem dX11_measure_21 : decode cX11_measure 21 = .ok (.getfield 188, 3) := by decide +kernel
theorem dX11_measure_24 : decode cX11_measure 24 = .ok (.invokevirtual 251, 3) := by decide +kernel
theorem dX11_measure_27 : decode cX11_measure 27 = .ok (.goto 4, 3) := by decide +kernel
theorem dX11_measure_30 : decode cX11_measure 30 = .ok (.iconst (-1), 1) := by decide +kernel
theorem dX11_measure_31 : decode cX11_measure 31 = .ok (.ireturn, 1) := by decide +kernel
theorem cc_X11_measure : Cond.code yX11_measure cX11_measure 2 (some .int) ∈ rf_tb := rf_at 1418 (by decide +kernel) (by decide +kernel)
noncomputable def bc_X11_measure_0 (a : Nat) (x1 : Int32) (σ : cl_S) : Option (Int32 × cl_S) := bd2 (fc_X11_isPartition a x1 σ) (fun r_2 σ_1 => (if r_2 = 0 then some ((-1:Int32), σ_1) else ix x1 8 (vl (σ_1.2.2.1 (47 + 12 + cl_md 47) x1.toNatClampNeg) (fun r_12 => nn r_12 (fun a_15 => vl (σ_1.2.2.1 a_15 16) (fun r_19 => bd2 (fc_X8_comeIn 38 r_19 σ_1) (fun r_23 σ_22 => some (r_23, σ_22))))))))
set_option maxHeartbeats 4000000 in
theorem wc_X11_measure_0 (C : cl_C D p s m args meth c cX11_measure 2 (some .int) RX11) {r : Int32} {a : Nat} {x1 : Int32} {σ0 σ σ' : cl_S} {T : Nat → Nat × Nat} {H : Heap} {locs : List Loc} {ls : Array Slot} {cells slots : Nat} (h : bc_X11_measure_0 a x1 σ = some (r, σ')) (G : cl_G true D c0 ({ frames := 2, cells := σ0.2.2.2.2.2.1, slots := σ0.2.2.2.2.2.2, locals := 45 }) s σ0.2.2.2.1 T σ H locs cells slots) (ha : (T a).1 = 27) (hl : lv_has ls 2 [(0, .ref (c0 + a)), (1, .int x1)]) : W p l e ({ frames := 2, cells := σ0.2.2.2.2.2.1, slots := σ0.2.2.2.2.2.2, locals := 45 }) s m args below meth c H locs cells slots (MQ below (cl_Q true D c0 (some (.int r)) cl_no σ0 σ') args s (σ0.2.2.2.2.2.1 - σ'.2.2.2.2.2.1) (σ0.2.2.2.2.2.2 - σ'.2.2.2.2.2.2) (cl_A c0 σ0.2.2.2.1 s.heap.size)) (F0 m 0 ls []) := by
  unfold bc_X11_measure_0 at h
  refine lv_aload_n C.1 C.2.1 dX11_measure_0 rfl (lv_at hl 0 rfl) ?_
  refine lv_iload_n C.1 C.2.1 dX11_measure_1 rfl (lv_at hl 1 rfl) ?_
  obtain ⟨r_2, σ_1, hq, h_3⟩ := bd2_some h
  refine cl_callV (ci := 11) (rest := []) C G rfl ha cw_RX11_219 [.int x1] _ (kc_X11_isPartition l D c0 (by rw [G.1]; exact ha) hq) (Nat.le_of_ble_eq_true rfl) (Nat.le_of_ble_eq_true rfl) rfl rfl hl.1 (Nat.le_of_ble_eq_true rfl) dX11_measure_2 (fun T_4 H locs cells slots t_5 hu G_6 => ?_)
  have ha := hu.kind ha (by decide)
  refine W.eq (g2 := F0 m 5 ls [.int r_2]) rfl ?_
  refine lv_if_eq (tgt := 30) C.1 C.2.1 dX11_measure_5 (by decide) (fun hc => ?_) (fun hc => ?_)
  · rw [if_pos hc] at h_3
    refine lv_iconst (v := (-1:Int32)) C.1 C.2.1 dX11_measure_30 (by decide) ?_
    exact cl_iret ⟨rfl, rfl⟩ rfl C G_6 h_3 dX11_measure_31
  · rw [if_neg hc] at h_3
    refine lv_aload_n C.1 C.2.1 dX11_measure_8 rfl (lv_at hl 0 rfl) ?_
    refine cg_11_56 C G_6 ha dX11_measure_9 (fun t_7 => ?_)
    have t_7 : (T_4 38).1 = 24 := by rw [t_7]
    refine lv_aload_n C.1 C.2.1 dX11_measure_12 rfl (lv_at hl 0 rfl) ?_
    refine cg_11_81 C G_6 ha dX11_measure_13 (fun t_8 => ?_)
    have t_8 : (T_4 47).1 = 21 := by rw [t_8]
    refine cg_11_175 C G_6 t_8 dX11_measure_16 (fun t_9 => ?_)
    refine lv_iload_n C.1 C.2.1 dX11_measure_19 rfl (lv_at hl 1 rfl) ?_
    obtain ⟨hi, h_10⟩ := ix_some h_3
    refine cl_aald C G_6 t_9 (by decide) (by decide) rfl hi dX11_measure_20 (fun t_11 => ?_)
    refine vt_r (K := 22) t_11 h_10 (fun r_12 t_13 h_14 => ?_)
    obtain ⟨a_15, rfl, h_17⟩ := nn_some h_14
    have t_16 := t_13 _ rfl
    refine cg_11_188 C G_6 t_16 dX11_measure_21 (fun t_18 => ?_)
    refine vt_r (K := 25) t_18 h_17 (fun r_19 t_20 h_21 => ?_)
    obtain ⟨r_23, σ_22, hq, h_24⟩ := bd2_some h_21
    refine cl_callV (ci := 8) (rest := []) C G_6 rfl t_7 cw_RX11_251 [cl_rf c0 r_19] _ (kc_X8_comeIn l D c0 (by rw [G_6.1]; exact t_7) hq (by rw [G_6.1]; exact t_20)) (Nat.le_of_ble_eq_true rfl) (Nat.le_of_ble_eq_true rfl) rfl rfl hl.1 (Nat.le_of_ble_eq_true rfl) dX11_measure_24 (fun T_25 H locs cells slots t_26 hu G_27 => ?_)
    have ha := hu.kind ha (by decide)
    refine W.eq (g2 := F0 m 27 ls [.int r_23]) rfl ?_
    refine lv_goto (tgt := 31) C.1 C.2.1 dX11_measure_27 (by decide) ?_
    exact cl_iret ⟨rfl, rfl⟩ rfl C G_27 h_24 dX11_measure_31
noncomputable def fc_X11_measure (a : Nat) (x1 : Int32) (σ : cl_S) : Option (Int32 × cl_S) := bc_X11_measure_0 a x1 σ
theorem kc_X11_measure (l : Launch) (D : cl_D) (c0 : Nat) {r : Int32} {a : Nat} {x1 : Int32} {σ σ' : cl_S} (ha : (σ.2.2.2.1 a).1 = 27) (h : fc_X11_measure a x1 σ = some (r, σ')) : cl_Met true l D c0 yX11_measure cX11_measure 2 (some .int) 2 45 [.ref (c0 + a), .int x1] σ (some (.int r)) cl_no σ' :=
  cl_of (by decide) (Nat.le_of_ble_eq_true rfl) (fun p e s m args below meth c ls C hn G hl => wc_X11_measure_0 C h G ha hl)
abbrev cX11_termOf : ByteArray := prog_1_method_40_code
def yX11_termOf : MethodName := ⟨RX11, "termOf", "(II)LPartHouse$Term;"⟩
theorem dX11_termOf_0 : decode cX11_termOf 0 = .ok (.iload_n 1, 1) := by decide +kernel
theorem dX11_termOf_1 : decode cX11_termOf 1 = .ok (.iconst (-1), 1) := by decide +kernel
theorem dX11_termOf_2 : decode cX11_termOf 2 = .ok (.if_icmp .ne 12, 3) := by decide +kernel
theorem dX11_termOf_5 : decode cX11_termOf 5 = .ok (.aload_n 0, 1) := by decide +kernel
theorem dX11_termOf_6 : decode cX11_termOf 6 = .ok (.getfield 56, 3) := by decide +kernel
theorem dX11_termOf_9 : decode cX11_termOf 9 = .ok (.iload_n 2, 1) := by decide +kernel
theorem dX11_termOf_10 : decode cX11_termOf 10 = .ok (.invokevirtual 233, 3) := by decide +kernel
theorem dX11_termOf_13 : decode cX11_termOf 13 = .ok (.areturn, 1) := by decide +kernel
theorem dX11_termOf_14 : decode cX11_termOf 14 = .ok (.aload_n 0, 1) := by decide +kernel
theorem dX11_termOf_15 : decode cX11_termOf 15 = .ok (.iload_n 1, 1) := by decide +kernel
theorem dX11_termOf_16 : decode cX11_termOf 16 = .ok (.invokevirtual 219, 3) := by decide +kernel
theorem dX11_termOf_19 : decode cX11_termOf 19 = .ok (.ifCond .eq 22, 3) := by decide +kernel
theorem dX11_termOf_22 : decode cX11_termOf 22 = .ok (.aload_n 0, 1) := by decide +kernel
theorem dX11_termOf_23 : decode cX11_termOf 23 = .ok (.getfield 81, 3) := by decide +kernel
theorem dX11_termOf_26 : decode cX11_termOf 26 = .ok (.getfield 175, 3) := by decide +kernel
theorem dX11_termOf_29 : decode cX11_termOf 29 = .ok (.iload_n 1, 1) := by decide +kernel
theorem dX11_termOf_30 : decode cX11_termOf 30 = .ok (.aaload, 1) := by decide +kernel
theorem dX11_termOf_31 : decode cX11_termOf 31 = .ok (.getfield 272, 3) := by decide +kernel
theorem dX11_termOf_34 : decode cX11_termOf 34 = .ok (.iload_n 2, 1) := by decide +kernel
theorem dX11_termOf_35 : decode cX11_termOf 35 = .ok (.invokevirtual 233, 3) := by decide +kernel
theorem dX11_termOf_38 : decode cX11_termOf 38 = .ok (.goto 10, 3) := by decide +kernel
theorem dX11_termOf_41 : decode cX11_termOf 41 = .ok (.aload_n 0, 1) := by decide +kernel
theorem dX11_termOf_42 : decode cX11_termOf 42 = .ok (.getfield 47, 3) := by decide +kernel
theorem dX11_termOf_45 : decode cX11_termOf 45 = .ok (.getfield 62, 3) := by decide +kernel
theorem dX11_termOf_48 : decode cX11_termOf 48 = .ok (.areturn, 1) := by decide +kernel
theorem cc_X11_termOf : Cond.code yX11_termOf cX11_termOf 3 (some (.object "PartHouse$Term")) ∈ rf_tb := rf_at 1426 (by decide +kernel) (by decide +kernel)
noncomputable def bc_X11_termOf_0 (a : Nat) (x1 : Int32) (x2 : Int32) (σ : cl_S) : Option ((Option Nat) × cl_S) := (if x1 = (-1:Int32) then bd2 (fc_X8_at 38 x2 σ) (fun r_31 σ_30 => some (r_31, σ_30)) else bd2 (fc_X11_isPartition a x1 σ) (fun r_2 σ_1 => (if r_2 = 0 then vl (σ_1.2.2.1 31 4) (fun r_9 => some (r_9, σ_1)) else ix x1 8 (vl (σ_1.2.2.1 (47 + 12 + cl_md 47) x1.toNatClampNeg) (fun r_16 => nn r_16 (fun a_19 => bd2 (fc_X8_at (a_19 + 9) x2 σ_1) (fun r_24 σ_23 => some (r_24, σ_23))))))))
set_option maxHeartbeats 4000000 in
theorem wc_X11_termOf_0 (C : cl_C D p s m args meth c cX11_termOf 3 (some (.object "PartHouse$Term")) RX11) {r : (Option Nat)} {a : Nat} {x1 : Int32} {x2 : Int32} {σ0 σ σ' : cl_S} {T : Nat → Nat × Nat} {H : Heap} {locs : List Loc} {ls : Array Slot} {cells slots : Nat} (h : bc_X11_termOf_0 a x1 x2 σ = some (r, σ')) (G : cl_G true D c0 ({ frames := 2, cells := σ0.2.2.2.2.2.1, slots := σ0.2.2.2.2.2.2, locals := 42 }) s σ0.2.2.2.1 T σ H locs cells slots) (ha : (T a).1 = 27) (hl : lv_has ls 3 [(0, .ref (c0 + a)), (1, .int x1), (2, .int x2)]) : W p l e ({ frames := 2, cells := σ0.2.2.2.2.2.1, slots := σ0.2.2.2.2.2.2, locals := 42 }) s m args below meth c H locs cells slots (MQ below (cl_Q true D c0 (some (cl_rf c0 r)) (fun T1 => cl_RT T1 r 25) σ0 σ') args s (σ0.2.2.2.2.2.1 - σ'.2.2.2.2.2.1) (σ0.2.2.2.2.2.2 - σ'.2.2.2.2.2.2) (cl_A c0 σ0.2.2.2.1 s.heap.size)) (F0 m 0 ls []) := by
  unfold bc_X11_termOf_0 at h
  refine lv_iload_n C.1 C.2.1 dX11_termOf_0 rfl (lv_at hl 1 rfl) ?_
  refine lv_iconst (v := (-1:Int32)) C.1 C.2.1 dX11_termOf_1 (by decide) ?_
  refine lv_icmp_ne (tgt := 14) C.1 C.2.1 dX11_termOf_2 (by decide) (fun hc => ?_) (fun hc => ?_)
  · rw [if_neg hc] at h
    refine lv_aload_n C.1 C.2.1 dX11_termOf_14 rfl (lv_at hl 0 rfl) ?_
    refine lv_iload_n C.1 C.2.1 dX11_termOf_15 rfl (lv_at hl 1 rfl) ?_
    obtain ⟨r_2, σ_1, hq, h_3⟩ := bd2_some h
    refine cl_callV (ci := 11) (rest := []) C G rfl ha cw_RX11_219 [.int x1] _ (kc_X11_isPartition l D c0 (by rw [G.1]; exact ha) hq) (Nat.le_of_ble_eq_true rfl) (Nat.le_of_ble_eq_true rfl) rfl rfl hl.1 (Nat.le_of_ble_eq_true rfl) dX11_termOf_16 (fun T_4 H locs cells slots t_5 hu G_6 => ?_)
    have ha := hu.kind ha (by decide)
    refine W.eq (g2 := F0 m 19 ls [.int r_2]) rfl ?_
    refine lv_if_eq (tgt := 41) C.1 C.2.1 dX11_termOf_19 (by decide) (fun hc => ?_) (fun hc => ?_)
    · rw [if_pos hc] at h_3
      refine lv_aload_n C.1 C.2.1 dX11_termOf_41 rfl (lv_at hl 0 rfl) ?_
      refine cg_11_47 C G_6 ha dX11_termOf_42 (fun t_7 => ?_)
      have t_7 : (T_4 31).1 = 26 := by rw [t_7]
      refine cg_11_62 C G_6 t_7 dX11_termOf_45 (fun t_8 => ?_)
      refine vt_r (K := 25) t_8 h_3 (fun r_9 t_10 h_11 => ?_)
      exact cl_aret (v := r_9) ⟨rfl, rfl⟩ rfl C G_6 h_11 (by first | exact Or.inl ⟨_, rfl⟩ | exact Or.inr ⟨_, rfl⟩) t_10 dX11_termOf_48
    · rw [if_neg hc] at h_3
      refine lv_aload_n C.1 C.2.1 dX11_termOf_22 rfl (lv_at hl 0 rfl) ?_
      refine cg_11_81 C G_6 ha dX11_termOf_23 (fun t_12 => ?_)
      have t_12 : (T_4 47).1 = 21 := by rw [t_12]
      refine cg_11_175 C G_6 t_12 dX11_termOf_26 (fun t_13 => ?_)
      refine lv_iload_n C.1 C.2.1 dX11_termOf_29 rfl (lv_at hl 1 rfl) ?_
      obtain ⟨hi, h_14⟩ := ix_some h_3
      refine cl_aald C G_6 t_13 (by decide) (by decide) rfl hi dX11_termOf_30 (fun t_15 => ?_)
      refine vt_r (K := 22) t_15 h_14 (fun r_16 t_17 h_18 => ?_)
      obtain ⟨a_19, rfl, h_21⟩ := nn_some h_18
      have t_20 := t_17 _ rfl
      refine cg_11_272 C G_6 t_20 dX11_termOf_31 (fun t_22 => ?_)
      have t_22 : (T_4 (a_19 + 9)).1 = 24 := by rw [t_22]
      refine lv_iload_n C.1 C.2.1 dX11_termOf_34 rfl (lv_at hl 2 rfl) ?_
      obtain ⟨r_24, σ_23, hq, h_25⟩ := bd2_some h_21
      refine cl_callV (ci := 8) (rest := []) C G_6 rfl t_22 cw_RX11_233 [.int x2] _ (kc_X8_at l D c0 (by rw [G_6.1]; exact t_22) hq) (Nat.le_of_ble_eq_true rfl) (Nat.le_of_ble_eq_true rfl) rfl rfl hl.1 (Nat.le_of_ble_eq_true rfl) dX11_termOf_35 (fun T_26 H locs cells slots t_27 hu G_28 => ?_)
      have ha := hu.kind ha (by decide)
      refine W.eq (g2 := F0 m 38 ls [cl_rf c0 r_24]) rfl ?_
      refine lv_goto (tgt := 48) C.1 C.2.1 dX11_termOf_38 (by decide) ?_
      exact cl_aret (v := r_24) ⟨rfl, rfl⟩ rfl C G_28 h_25 (by first | exact Or.inl ⟨_, rfl⟩ | exact Or.inr ⟨_, rfl⟩) t_27 dX11_termOf_48
  · rw [if_pos hc] at h
    refine lv_aload_n C.1 C.2.1 dX11_termOf_5 rfl (lv_at hl 0 rfl) ?_
    refine cg_11_56 C G ha dX11_termOf_6 (fun t_29 => ?_)
    have t_29 : (T 38).1 = 24 := by rw [t_29]
    refine lv_iload_n C.1 C.2.1 dX11_termOf_9 rfl (lv_at hl 2 rfl) ?_
    obtain ⟨r_31, σ_30, hq, h_32⟩ := bd2_some h
    refine cl_callV (ci := 8) (rest := []) C G rfl t_29 cw_RX11_233 [.int x2] _ (kc_X8_at l D c0 (by rw [G.1]; exact t_29) hq) (Nat.le_of_ble_eq_true rfl) (Nat.le_of_ble_eq_true rfl) rfl rfl hl.1 (Nat.le_of_ble_eq_true rfl) dX11_termOf_10 (fun T_33 H locs cells slots t_34 hu G_35 => ?_)
    have ha := hu.kind ha (by decide)
    refine W.eq (g2 := F0 m 13 ls [cl_rf c0 r_31]) rfl ?_
    exact cl_aret (v := r_31) ⟨rfl, rfl⟩ rfl C G_35 h_32 (by first | exact Or.inl ⟨_, rfl⟩ | exact Or.inr ⟨_, rfl⟩) t_34 dX11_termOf_13
noncomputable def fc_X11_termOf (a : Nat) (x1 : Int32) (x2 : Int32) (σ : cl_S) : Option ((Option Nat) × cl_S) := bc_X11_termOf_0 a x1 x2 σ
theorem kc_X11_termOf (l : Launch) (D : cl_D) (c0 : Nat) {r : (Option Nat)} {a : Nat} {x1 : Int32} {x2 : Int32} {σ σ' : cl_S} (ha : (σ.2.2.2.1 a).1 = 27) (h : fc_X11_termOf a x1 x2 σ = some (r, σ')) : cl_Met true l D c0 yX11_termOf cX11_termOf 3 (some (.object "PartHouse$Term")) 2 42 [.ref (c0 + a), .int x1, .int x2] σ (some (cl_rf c0 r)) (fun T1 => cl_RT T1 r 25) σ' :=
  cl_of (by decide) (Nat.le_of_ble_eq_true rfl) (fun p e s m args below meth c ls C hn G hl => wc_X11_termOf_0 C h G ha hl)
abbrev cX11_knows : ByteArray := prog_1_method_33_code
def yX11_knows : MethodName := ⟨RX11, "knows", "(II)I"⟩
theorem dX11_knows_0 : decode cX11_knows 0 = .ok (.aload_n 0, 1) := by decide +kernel
theorem dX11_knows_1 : decode cX11_knows 1 = .ok (.iload_n 1, 1) := by decide +kernel
theorem dX11_knows_2 : decode cX11_knows 2 = .ok (.iload_n 2, 1) := by decide +kernel
theorem dX11_knows_3 : decode cX11_knows 3 = .ok (.invokevirtual 364, 3) := by decide +kernel
theorem dX11_knows_6 : decode cX11_knows 6 = .ok (.astore_n 3, 1) := by decide +kernel
theorem dX11_knows_7 : decode cX11_knows 7 = .ok (.aload_n 3, 1) := by decide +kernel
theorem dX11_knows_8 : decode cX11_knows 8 = .ok (.aload_n 0, 1) := by decide +kernel
theorem dX11_knows_9 : decode cX11_knows 9 = .ok (.getfield 47, 3) := by decide +kernel
theorem dX11_knows_12 : decode cX11_knows 12 = .ok (.getfield 62, 3) := by decide +kernel
theorem dX11_knows_15 : decode cX11_knows 15 = .ok (.if_acmp .ne 5, 3) := by decide +kernel
theorem dX11_knows_18 : decode cX11_knows 18 = .ok (.iconst (-1), 1) := by decide +kernel
theorem dX11_knows_19 : decode cX11_knows 19 = .ok (.ireturn, 1) := by decide +kernel
theorem dX11_knows_20 : decode cX11_knows 20 = .ok (.aload_n 0, 1) := by decide +kernel
theorem dX11_knows_21 : decode cX11_knows 21 = .ok (.getfield 47, 3) := by decide +kernel
theorem dX11_knows_24 : decode cX11_knows 24 = .ok (.aload_n 3, 1) := by decide +kernel
theorem dX11_knows_25 : decode cX11_knows 25 = .ok (.invokevirtual 368, 3) := by decide +kernel
theorem dX11_knows_28 : decode cX11_knows 28 = .ok (.ifCond .ge 7, 3) := by decide +kernel
theorem dX11_knows_31 : decode cX11_knows 31 = .ok (.iconst 0, 1) := by decide +kernel
theorem dX11_knows_32 : decode cX11_knows 32 = .ok (.goto 4, 3) := by decide +kernel
theorem dX11_knows_35 : decode cX11_knows 35 = .ok (.iconst 1, 1) := by decide +kernel
theorem dX11_knows_36 : decode cX11_knows 36 = .ok (.ireturn, 1) := by decide +kernel
theorem cc_X11_knows : Cond.code yX11_knows cX11_knows 4 (some .int) ∈ rf_tb := rf_at 1422 (by decide +kernel) (by decide +kernel)
theorem cw_RX11_364 : cl_wV RX11 RX11 yX11_termOf cX11_termOf 3 (some (.object "PartHouse$Term")) 364 2 := ⟨⟨rf_at 1423 (by decide +kernel) (by decide +kernel), rf_at 1425 (by decide +kernel) (by decide +kernel), rf_sel (q := (yX11_termOf, 15)) 69 (by decide +kernel) (by decide +kernel), cc_X11_termOf, rf_at 1 (by decide +kernel) (by decide +kernel)⟩, ⟨by decide, by decide, by decide +kernel⟩⟩
theorem cw_RX11_368 : cl_wV RX11 RX10 yX10_roundOf cX10_roundOf 2 (some .int) 368 1 := ⟨⟨rf_at 1427 (by decide +kernel) (by decide +kernel), rf_at 1428 (by decide +kernel) (by decide +kernel), rf_at 1429 (by decide +kernel) (by decide +kernel), cc_X10_roundOf, rf_at 9 (by decide +kernel) (by decide +kernel)⟩, ⟨by decide, by decide, by decide +kernel⟩⟩
noncomputable def bc_X11_knows_0 (a : Nat) (x1 : Int32) (x2 : Int32) (σ : cl_S) : Option (Int32 × cl_S) := bd2 (fc_X11_termOf a x1 x2 σ) (fun r_2 σ_1 => vl (σ_1.2.2.1 31 4) (fun r_10 => (if r_2 = r_10 then some ((-1:Int32), σ_1) else bd2 (fc_X10_roundOf 31 r_2 σ_1) (fun r_15 σ_14 => (if 0 ≤ r_15 then some ((1:Int32), σ_14) else some ((0:Int32), σ_14))))))
set_option maxHeartbeats 4000000 in
theorem wc_X11_knows_0 (C : cl_C D p s m args meth c cX11_knows 4 (some .int) RX11) {r : Int32} {a : Nat} {x1 : Int32} {x2 : Int32} {σ0 σ σ' : cl_S} {T : Nat → Nat × Nat} {H : Heap} {locs : List Loc} {ls : Array Slot} {cells slots : Nat} (h : bc_X11_knows_0 a x1 x2 σ = some (r, σ')) (G : cl_G true D c0 ({ frames := 4, cells := σ0.2.2.2.2.2.1, slots := σ0.2.2.2.2.2.2, locals := 88 }) s σ0.2.2.2.1 T σ H locs cells slots) (ha : (T a).1 = 27) (hl : lv_has ls 4 [(0, .ref (c0 + a)), (1, .int x1), (2, .int x2)]) : W p l e ({ frames := 4, cells := σ0.2.2.2.2.2.1, slots := σ0.2.2.2.2.2.2, locals := 88 }) s m args below meth c H locs cells slots (MQ below (cl_Q true D c0 (some (.int r)) cl_no σ0 σ') args s (σ0.2.2.2.2.2.1 - σ'.2.2.2.2.2.1) (σ0.2.2.2.2.2.2 - σ'.2.2.2.2.2.2) (cl_A c0 σ0.2.2.2.1 s.heap.size)) (F0 m 0 ls []) := by
  unfold bc_X11_knows_0 at h
  refine lv_aload_n C.1 C.2.1 dX11_knows_0 rfl (lv_at hl 0 rfl) ?_
  refine lv_iload_n C.1 C.2.1 dX11_knows_1 rfl (lv_at hl 1 rfl) ?_
  refine lv_iload_n C.1 C.2.1 dX11_knows_2 rfl (lv_at hl 2 rfl) ?_
  obtain ⟨r_2, σ_1, hq, h_3⟩ := bd2_some h
  refine cl_callV (ci := 11) (rest := []) C G rfl ha cw_RX11_364 [.int x1, .int x2] _ (kc_X11_termOf l D c0 (by rw [G.1]; exact ha) hq) (Nat.le_of_ble_eq_true rfl) (Nat.le_of_ble_eq_true rfl) rfl rfl hl.1 (Nat.le_of_ble_eq_true rfl) dX11_knows_3 (fun T_4 H locs cells slots t_5 hu G_6 => ?_)
  have ha := hu.kind ha (by decide)
  refine W.eq (g2 := F0 m 6 ls [cl_rf c0 r_2]) rfl ?_
  refine cl_astore_n (lv' := [(3, cl_rf c0 r_2), (0, .ref (c0 + a)), (1, .int x1), (2, .int x2)]) C.1 C.2.1 dX11_knows_6 rfl hl (by decide) rfl (fun ls hl_7 => ?_)
  refine cl_aload_n C.1 C.2.1 dX11_knows_7 rfl (lv_at hl_7 0 rfl) ?_
  refine lv_aload_n C.1 C.2.1 dX11_knows_8 rfl (lv_at hl_7 1 rfl) ?_
  refine cg_11_47 C G_6 ha dX11_knows_9 (fun t_8 => ?_)
  have t_8 : (T_4 31).1 = 26 := by rw [t_8]
  refine cg_11_62 C G_6 t_8 dX11_knows_12 (fun t_9 => ?_)
  refine vt_r (K := 25) t_9 h_3 (fun r_10 t_11 h_12 => ?_)
  refine cl_acmp_ne (rx := r_2) (ry := r_10) (tgt := 20) C.1 C.2.1 dX11_knows_15 (by decide) (fun hc => ?_) (fun hc => ?_)
  · rw [if_neg hc] at h_12
    refine lv_aload_n C.1 C.2.1 dX11_knows_20 rfl (lv_at hl_7 1 rfl) ?_
    refine cg_11_47 C G_6 ha dX11_knows_21 (fun t_13 => ?_)
    have t_13 : (T_4 31).1 = 26 := by rw [t_13]
    refine cl_aload_n C.1 C.2.1 dX11_knows_24 rfl (lv_at hl_7 0 rfl) ?_
    obtain ⟨r_15, σ_14, hq, h_16⟩ := bd2_some h_12
    refine cl_callV (ci := 10) (rest := []) C G_6 rfl t_13 cw_RX11_368 [cl_rf c0 r_2] _ (kc_X10_roundOf l D c0 (by rw [G_6.1]; exact t_13) hq (by rw [G_6.1]; exact t_5)) (Nat.le_of_ble_eq_true rfl) (Nat.le_of_ble_eq_true rfl) rfl rfl hl_7.1 (Nat.le_of_ble_eq_true rfl) dX11_knows_25 (fun T_17 H locs cells slots t_18 hu G_19 => ?_)
    have t_5 := t_5.up hu (by decide)
    have ha := hu.kind ha (by decide)
    refine W.eq (g2 := F0 m 28 ls [.int r_15]) rfl ?_
    refine lv_if_ge (tgt := 35) C.1 C.2.1 dX11_knows_28 (by decide) (fun hc => ?_) (fun hc => ?_)
    · rw [if_pos hc] at h_16
      refine lv_iconst (v := (1:Int32)) C.1 C.2.1 dX11_knows_35 (by decide) ?_
      exact cl_iret ⟨rfl, rfl⟩ rfl C G_19 h_16 dX11_knows_36
    · rw [if_neg hc] at h_16
      refine lv_iconst (v := (0:Int32)) C.1 C.2.1 dX11_knows_31 (by decide) ?_
      refine lv_goto (tgt := 36) C.1 C.2.1 dX11_knows_32 (by decide) ?_
      exact cl_iret ⟨rfl, rfl⟩ rfl C G_19 h_16 dX11_knows_36
  · rw [if_pos hc] at h_12
    refine lv_iconst (v := (-1:Int32)) C.1 C.2.1 dX11_knows_18 (by decide) ?_
    exact cl_iret ⟨rfl, rfl⟩ rfl C G_6 h_12 dX11_knows_19
noncomputable def fc_X11_knows (a : Nat) (x1 : Int32) (x2 : Int32) (σ : cl_S) : Option (Int32 × cl_S) := bc_X11_knows_0 a x1 x2 σ
theorem kc_X11_knows (l : Launch) (D : cl_D) (c0 : Nat) {r : Int32} {a : Nat} {x1 : Int32} {x2 : Int32} {σ σ' : cl_S} (ha : (σ.2.2.2.1 a).1 = 27) (h : fc_X11_knows a x1 x2 σ = some (r, σ')) : cl_Met true l D c0 yX11_knows cX11_knows 4 (some .int) 4 88 [.ref (c0 + a), .int x1, .int x2] σ (some (.int r)) cl_no σ' :=
  cl_of (by decide) (Nat.le_of_ble_eq_true rfl) (fun p e s m args below meth c ls C hn G hl => wc_X11_knows_0 C h G ha hl)
abbrev cX11_far : ByteArray := prog_1_method_34_code
def yX11_far : MethodName := ⟨RX11, "far", "(II)I"⟩
theorem dX11_far_0 : decode cX11_far 0 = .ok (.aload_n 0, 1) := by decide +kernel
theorem dX11_far_1 : decode cX11_far 1 = .ok (.iload_n 1, 1) := by decide +kernel
theorem dX11_far_2 : decode cX11_far 2 = .ok (.iload_n 2, 1) := by decide +kernel
theorem dX11_far_3 : decode cX11_far 3 = .ok (.invokevirtual 364, 3) := by decide +kernel
theorem dX11_far_6 : decode cX11_far 6 = .ok (.astore_n 3, 1) := by decide +kernel
theorem dX11_far_7 : decode cX11_far 7 = .ok (.aload_n 3, 1) := by decide +kernel
theorem dX11_far_8 : decode cX11_far 8 = .ok (.aload_n 0, 1) := by decide +kernel
theorem dX11_far_9 : decode cX11_far 9 = .ok (.getfield 47, 3) := by decide +kernel
theorem dX11_far_12 : decode cX11_far 12 = .ok (.getfield 62, 3) := by decide +kernel
theorem dX11_far_15 : decode cX11_far 15 = .ok (.if_acmp .ne 5, 3) := by decide +kernel
theorem dX11_far_18 : decode cX11_far 18 = .ok (.iconst (-1), 1) := by decide +kernel
theorem dX11_far_19 : decode cX11_far 19 = .ok (.ireturn, 1) := by decide +kernel
theorem dX11_far_20 : decode cX11_far 20 = .ok (.aload_n 0, 1) := by decide +kernel
theorem dX11_far_21 : decode cX11_far 21 = .ok (.getfield 47, 3) := by decide +kernel
theorem dX11_far_24 : decode cX11_far 24 = .ok (.aload_n 3, 1) := by decide +kernel
theorem dX11_far_25 : decode cX11_far 25 = .ok (.invokevirtual 368, 3) := by decide +kernel
theorem dX11_far_28 : decode cX11_far 28 = .ok (.istore 4, 2) := by decide +kernel
theorem dX11_far_30 : decode cX11_far 30 = .ok (.iload 4, 2) := by decide +kernel
theorem dX11_far_32 : decode cX11_far 32 = .ok (.ifCond .ge 8, 3) := by decide +kernel
theorem dX11_far_35 : decode cX11_far 35 = .ok (.bipush (-3), 2) := by decide +kernel
theorem dX11_far_37 : decode cX11_far 37 = .ok (.goto 5, 3) := by decide +kernel
theorem dX11_far_40 : decode cX11_far 40 = .ok (.iload 4, 2) := by decide +kernel
theorem dX11_far_42 : decode cX11_far 42 = .ok (.ireturn, 1) := by decide +kernel
theorem cc_X11_far : Cond.code yX11_far cX11_far 5 (some .int) ∈ rf_tb := rf_at 1458 (by decide +kernel) (by decide +kernel)
noncomputable def bc_X11_far_0 (a : Nat) (x1 : Int32) (x2 : Int32) (σ : cl_S) : Option (Int32 × cl_S) := bd2 (fc_X11_termOf a x1 x2 σ) (fun r_2 σ_1 => vl (σ_1.2.2.1 31 4) (fun r_10 => (if r_2 = r_10 then some ((-1:Int32), σ_1) else bd2 (fc_X10_roundOf 31 r_2 σ_1) (fun r_15 σ_14 => (if 0 ≤ r_15 then some (r_15, σ_14) else some ((-3:Int32), σ_14))))))
set_option maxHeartbeats 4000000 in
theorem wc_X11_far_0 (C : cl_C D p s m args meth c cX11_far 5 (some .int) RX11) {r : Int32} {a : Nat} {x1 : Int32} {x2 : Int32} {σ0 σ σ' : cl_S} {T : Nat → Nat × Nat} {H : Heap} {locs : List Loc} {ls : Array Slot} {cells slots : Nat} (h : bc_X11_far_0 a x1 x2 σ = some (r, σ')) (G : cl_G true D c0 ({ frames := 4, cells := σ0.2.2.2.2.2.1, slots := σ0.2.2.2.2.2.2, locals := 88 }) s σ0.2.2.2.1 T σ H locs cells slots) (ha : (T a).1 = 27) (hl : lv_has ls 5 [(0, .ref (c0 + a)), (1, .int x1), (2, .int x2)]) : W p l e ({ frames := 4, cells := σ0.2.2.2.2.2.1, slots := σ0.2.2.2.2.2.2, locals := 88 }) s m args below meth c H locs cells slots (MQ below (cl_Q true D c0 (some (.int r)) cl_no σ0 σ') args s (σ0.2.2.2.2.2.1 - σ'.2.2.2.2.2.1) (σ0.2.2.2.2.2.2 - σ'.2.2.2.2.2.2) (cl_A c0 σ0.2.2.2.1 s.heap.size)) (F0 m 0 ls []) := by
  unfold bc_X11_far_0 at h
  refine lv_aload_n C.1 C.2.1 dX11_far_0 rfl (lv_at hl 0 rfl) ?_
  refine lv_iload_n C.1 C.2.1 dX11_far_1 rfl (lv_at hl 1 rfl) ?_
  refine lv_iload_n C.1 C.2.1 dX11_far_2 rfl (lv_at hl 2 rfl) ?_
  obtain ⟨r_2, σ_1, hq, h_3⟩ := bd2_some h
  refine cl_callV (ci := 11) (rest := []) C G rfl ha cw_RX11_364 [.int x1, .int x2] _ (kc_X11_termOf l D c0 (by rw [G.1]; exact ha) hq) (Nat.le_of_ble_eq_true rfl) (Nat.le_of_ble_eq_true rfl) rfl rfl hl.1 (Nat.le_of_ble_eq_true rfl) dX11_far_3 (fun T_4 H locs cells slots t_5 hu G_6 => ?_)
  have ha := hu.kind ha (by decide)
  refine W.eq (g2 := F0 m 6 ls [cl_rf c0 r_2]) rfl ?_
  refine cl_astore_n (lv' := [(3, cl_rf c0 r_2), (0, .ref (c0 + a)), (1, .int x1), (2, .int x2)]) C.1 C.2.1 dX11_far_6 rfl hl (by decide) rfl (fun ls hl_7 => ?_)
  refine cl_aload_n C.1 C.2.1 dX11_far_7 rfl (lv_at hl_7 0 rfl) ?_
  refine lv_aload_n C.1 C.2.1 dX11_far_8 rfl (lv_at hl_7 1 rfl) ?_
  refine cg_11_47 C G_6 ha dX11_far_9 (fun t_8 => ?_)
  have t_8 : (T_4 31).1 = 26 := by rw [t_8]
  refine cg_11_62 C G_6 t_8 dX11_far_12 (fun t_9 => ?_)
  refine vt_r (K := 25) t_9 h_3 (fun r_10 t_11 h_12 => ?_)
  refine cl_acmp_ne (rx := r_2) (ry := r_10) (tgt := 20) C.1 C.2.1 dX11_far_15 (by decide) (fun hc => ?_) (fun hc => ?_)
  · rw [if_neg hc] at h_12
    refine lv_aload_n C.1 C.2.1 dX11_far_20 rfl (lv_at hl_7 1 rfl) ?_
    refine cg_11_47 C G_6 ha dX11_far_21 (fun t_13 => ?_)
    have t_13 : (T_4 31).1 = 26 := by rw [t_13]
    refine cl_aload_n C.1 C.2.1 dX11_far_24 rfl (lv_at hl_7 0 rfl) ?_
    obtain ⟨r_15, σ_14, hq, h_16⟩ := bd2_some h_12
    refine cl_callV (ci := 10) (rest := []) C G_6 rfl t_13 cw_RX11_368 [cl_rf c0 r_2] _ (kc_X10_roundOf l D c0 (by rw [G_6.1]; exact t_13) hq (by rw [G_6.1]; exact t_5)) (Nat.le_of_ble_eq_true rfl) (Nat.le_of_ble_eq_true rfl) rfl rfl hl_7.1 (Nat.le_of_ble_eq_true rfl) dX11_far_25 (fun T_17 H locs cells slots t_18 hu G_19 => ?_)
    have t_5 := t_5.up hu (by decide)
    have ha := hu.kind ha (by decide)
    refine W.eq (g2 := F0 m 28 ls [.int r_15]) rfl ?_
    refine lv_istore (lv' := [(4, .int r_15), (3, cl_rf c0 r_2), (0, .ref (c0 + a)), (1, .int x1), (2, .int x2)]) C.1 C.2.1 dX11_far_28 hl_7 (by decide) (by first | rfl | (cases r_2 <;> rfl)) (fun ls hl_20 => ?_)
    refine lv_iload C.1 C.2.1 dX11_far_30 (lv_at hl_20 0 rfl) ?_
    refine lv_if_ge (tgt := 40) C.1 C.2.1 dX11_far_32 (by decide) (fun hc => ?_) (fun hc => ?_)
    · rw [if_pos hc] at h_16
      refine lv_iload C.1 C.2.1 dX11_far_40 (lv_at hl_20 0 rfl) ?_
      exact cl_iret ⟨rfl, rfl⟩ rfl C G_19 h_16 dX11_far_42
    · rw [if_neg hc] at h_16
      refine lv_bipush (v := (-3:Int32)) C.1 C.2.1 dX11_far_35 (by decide) ?_
      refine lv_goto (tgt := 42) C.1 C.2.1 dX11_far_37 (by decide) ?_
      exact cl_iret ⟨rfl, rfl⟩ rfl C G_19 h_16 dX11_far_42
  · rw [if_pos hc] at h_12
    refine lv_iconst (v := (-1:Int32)) C.1 C.2.1 dX11_far_18 (by decide) ?_
    exact cl_iret ⟨rfl, rfl⟩ rfl C G_6 h_12 dX11_far_19
noncomputable def fc_X11_far (a : Nat) (x1 : Int32) (x2 : Int32) (σ : cl_S) : Option (Int32 × cl_S) := bc_X11_far_0 a x1 x2 σ
theorem kc_X11_far (l : Launch) (D : cl_D) (c0 : Nat) {r : Int32} {a : Nat} {x1 : Int32} {x2 : Int32} {σ σ' : cl_S} (ha : (σ.2.2.2.1 a).1 = 27) (h : fc_X11_far a x1 x2 σ = some (r, σ')) : cl_Met true l D c0 yX11_far cX11_far 5 (some .int) 4 88 [.ref (c0 + a), .int x1, .int x2] σ (some (.int r)) cl_no σ' :=
  cl_of (by decide) (Nat.le_of_ble_eq_true rfl) (fun p e s m args below meth c ls C hn G hl => wc_X11_far_0 C h G ha hl)
abbrev cX11_same : ByteArray := prog_1_method_35_code
def yX11_same : MethodName := ⟨RX11, "same", "(IIII)I"⟩
theorem dX11_same_0 : decode cX11_same 0 = .ok (.aload_n 0, 1) := by decide +kernel
theorem dX11_same_1 : decode cX11_same 1 = .ok (.iload_n 1, 1) := by decide +kernel
theorem dX11_same_2 : decode cX11_same 2 = .ok (.iload_n 2, 1) := by decide +kernel
theorem dX11_same_3 : decode cX11_same 3 = .ok (.invokevirtual 364, 3) := by decide +kernel
theorem dX11_same_6 : decode cX11_same 6 = .ok (.astore 5, 2) := by decide +kernel
theorem dX11_same_8 : decode cX11_same 8 = .ok (.aload_n 0, 1) := by decide +kernel
theorem dX11_same_9 : decode cX11_same 9 = .ok (.iload_n 3, 1) := by decide +kernel
theorem dX11_same_10 : decode cX11_same 10 = .ok (.iload 4, 2) := by decide +kernel
theorem dX11_same_12 : decode cX11_same 12 = .ok (.invokevirtual 364, 3) := by decide +kernel
theorem dX11_same_15 : decode cX11_same 15 = .ok (.astore 6, 2) := by decide +kernel
theorem dX11_same_17 : decode cX11_same 17 = .ok (.aload 5, 2) := by decide +kernel
theorem dX11_same_19 : decode cX11_same 19 = .ok (.aload_n 0, 1) := by decide +kernel
theorem dX11_same_20 : decode cX11_same 20 = .ok (.getfield 47, 3) := by decide +kernel
theorem dX11_same_23 : decode cX11_same 23 = .ok (.getfield 62, 3) := by decide +kernel
theorem dX11_same_26 : decode cX11_same 26 = .ok (.if_acmp .eq 15, 3) := by decide +kernel
theorem dX11_same_29 : decode cX11_same 29 = .ok (.aload 6, 2) := by decide +kernel
theorem dX11_same_31 : decode cX11_same 31 = .ok (.aload_n 0, 1) := by decide +kernel
theorem dX11_same_32 : decode cX11_same 32 = .ok (.getfield 47, 3) := by decide +kernel
theorem dX11_same_35 : decode cX11_same 35 = .ok (.getfield 62, 3) := by decide +kernel
theorem dX11_same_38 : decode cX11_same 38 = .ok (.if_acmp .ne 5, 3) := by decide +kernel
theorem dX11_same_41 : decode cX11_same 41 = .ok (.iconst (-1), 1) := by decide +kernel
theorem dX11_same_42 : decode cX11_same 42 = .ok (.ireturn, 1) := by decide +kernel
theorem dX11_same_43 : decode cX11_same 43 = .ok (.aload 5, 2) := by decide +kernel
theorem dX11_same_45 : decode cX11_same 45 = .ok (.aload 6, 2) := by decide +kernel
theorem dX11_same_47 : decode cX11_same 47 = .ok (.if_acmp .ne 7, 3) := by decide +kernel
theorem dX11_same_50 : decode cX11_same 50 = .ok (.iconst 1, 1) := by decide +kernel
theorem dX11_same_51 : decode cX11_same 51 = .ok (.goto 4, 3) := by decide +kernel
theorem dX11_same_54 : decode cX11_same 54 = .ok (.iconst 0, 1) := by decide +kernel
theorem dX11_same_55 : decode cX11_same 55 = .ok (.ireturn, 1) := by decide +kernel
theorem cc_X11_same : Cond.code yX11_same cX11_same 7 (some .int) ∈ rf_tb := rf_at 1462 (by decide +kernel) (by decide +kernel)
noncomputable def bc_X11_same_0 (a : Nat) (x1 : Int32) (x2 : Int32) (x3 : Int32) (x4 : Int32) (σ : cl_S) : Option (Int32 × cl_S) := bd2 (fc_X11_termOf a x1 x2 σ) (fun r_2 σ_1 => bd2 (fc_X11_termOf a x3 x4 σ_1) (fun r_9 σ_8 => vl (σ_8.2.2.1 31 4) (fun r_17 => (if r_2 = r_17 then some ((-1:Int32), σ_8) else vl (σ_8.2.2.1 31 4) (fun r_22 => (if r_9 = r_22 then some ((-1:Int32), σ_8) else (if r_2 = r_9 then some ((1:Int32), σ_8) else some ((0:Int32), σ_8))))))))
set_option maxHeartbeats 4000000 in
theorem wc_X11_same_0 (C : cl_C D p s m args meth c cX11_same 7 (some .int) RX11) {r : Int32} {a : Nat} {x1 : Int32} {x2 : Int32} {x3 : Int32} {x4 : Int32} {σ0 σ σ' : cl_S} {T : Nat → Nat × Nat} {H : Heap} {locs : List Loc} {ls : Array Slot} {cells slots : Nat} (h : bc_X11_same_0 a x1 x2 x3 x4 σ = some (r, σ')) (G : cl_G true D c0 ({ frames := 3, cells := σ0.2.2.2.2.2.1, slots := σ0.2.2.2.2.2.2, locals := 64 }) s σ0.2.2.2.1 T σ H locs cells slots) (ha : (T a).1 = 27) (hl : lv_has ls 7 [(0, .ref (c0 + a)), (1, .int x1), (2, .int x2), (3, .int x3), (4, .int x4)]) : W p l e ({ frames := 3, cells := σ0.2.2.2.2.2.1, slots := σ0.2.2.2.2.2.2, locals := 64 }) s m args below meth c H locs cells slots (MQ below (cl_Q true D c0 (some (.int r)) cl_no σ0 σ') args s (σ0.2.2.2.2.2.1 - σ'.2.2.2.2.2.1) (σ0.2.2.2.2.2.2 - σ'.2.2.2.2.2.2) (cl_A c0 σ0.2.2.2.1 s.heap.size)) (F0 m 0 ls []) := by
  unfold bc_X11_same_0 at h
  refine lv_aload_n C.1 C.2.1 dX11_same_0 rfl (lv_at hl 0 rfl) ?_
  refine lv_iload_n C.1 C.2.1 dX11_same_1 rfl (lv_at hl 1 rfl) ?_
  refine lv_iload_n C.1 C.2.1 dX11_same_2 rfl (lv_at hl 2 rfl) ?_
  obtain ⟨r_2, σ_1, hq, h_3⟩ := bd2_some h
  refine cl_callV (ci := 11) (rest := []) C G rfl ha cw_RX11_364 [.int x1, .int x2] _ (kc_X11_termOf l D c0 (by rw [G.1]; exact ha) hq) (Nat.le_of_ble_eq_true rfl) (Nat.le_of_ble_eq_true rfl) rfl rfl hl.1 (Nat.le_of_ble_eq_true rfl) dX11_same_3 (fun T_4 H locs cells slots t_5 hu G_6 => ?_)
  have ha := hu.kind ha (by decide)
  refine W.eq (g2 := F0 m 6 ls [cl_rf c0 r_2]) rfl ?_
  refine cl_astore (lv' := [(5, cl_rf c0 r_2), (0, .ref (c0 + a)), (1, .int x1), (2, .int x2), (3, .int x3), (4, .int x4)]) C.1 C.2.1 dX11_same_6 hl (by decide) rfl (fun ls hl_7 => ?_)
  refine lv_aload_n C.1 C.2.1 dX11_same_8 rfl (lv_at hl_7 1 rfl) ?_
  refine lv_iload_n C.1 C.2.1 dX11_same_9 rfl (lv_at hl_7 4 rfl) ?_
  refine lv_iload C.1 C.2.1 dX11_same_10 (lv_at hl_7 5 rfl) ?_
  obtain ⟨r_9, σ_8, hq, h_10⟩ := bd2_some h_3
  refine cl_callV (ci := 11) (rest := []) C G_6 rfl ha cw_RX11_364 [.int x3, .int x4] _ (kc_X11_termOf l D c0 (by rw [G_6.1]; exact ha) hq) (Nat.le_of_ble_eq_true rfl) (Nat.le_of_ble_eq_true rfl) rfl rfl hl_7.1 (Nat.le_of_ble_eq_true rfl) dX11_same_12 (fun T_11 H locs cells slots t_12 hu G_13 => ?_)
  have t_5 := t_5.up hu (by decide)
  have ha := hu.kind ha (by decide)
  refine W.eq (g2 := F0 m 15 ls [cl_rf c0 r_9]) rfl ?_
  refine cl_astore (lv' := [(6, cl_rf c0 r_9), (5, cl_rf c0 r_2), (0, .ref (c0 + a)), (1, .int x1), (2, .int x2), (3, .int x3), (4, .int x4)]) C.1 C.2.1 dX11_same_15 hl_7 (by decide) (by first | rfl | (cases r_2 <;> rfl)) (fun ls hl_14 => ?_)
  refine cl_aload C.1 C.2.1 dX11_same_17 (lv_at hl_14 1 rfl) ?_
  refine lv_aload_n C.1 C.2.1 dX11_same_19 rfl (lv_at hl_14 2 rfl) ?_
  refine cg_11_47 C G_13 ha dX11_same_20 (fun t_15 => ?_)
  have t_15 : (T_11 31).1 = 26 := by rw [t_15]
  refine cg_11_62 C G_13 t_15 dX11_same_23 (fun t_16 => ?_)
  refine vt_r (K := 25) t_16 h_10 (fun r_17 t_18 h_19 => ?_)
  refine cl_acmp_eq (rx := r_2) (ry := r_17) (tgt := 41) C.1 C.2.1 dX11_same_26 (by decide) (fun hc => ?_) (fun hc => ?_)
  · rw [if_pos hc] at h_19
    refine lv_iconst (v := (-1:Int32)) C.1 C.2.1 dX11_same_41 (by decide) ?_
    exact cl_iret ⟨rfl, rfl⟩ rfl C G_13 h_19 dX11_same_42
  · rw [if_neg hc] at h_19
    refine cl_aload C.1 C.2.1 dX11_same_29 (lv_at hl_14 0 rfl) ?_
    refine lv_aload_n C.1 C.2.1 dX11_same_31 rfl (lv_at hl_14 2 rfl) ?_
    refine cg_11_47 C G_13 ha dX11_same_32 (fun t_20 => ?_)
    have t_20 : (T_11 31).1 = 26 := by rw [t_20]
    refine cg_11_62 C G_13 t_20 dX11_same_35 (fun t_21 => ?_)
    refine vt_r (K := 25) t_21 h_19 (fun r_22 t_23 h_24 => ?_)
    refine cl_acmp_ne (rx := r_9) (ry := r_22) (tgt := 43) C.1 C.2.1 dX11_same_38 (by decide) (fun hc => ?_) (fun hc => ?_)
    · rw [if_neg hc] at h_24
      refine cl_aload C.1 C.2.1 dX11_same_43 (lv_at hl_14 1 rfl) ?_
      refine cl_aload C.1 C.2.1 dX11_same_45 (lv_at hl_14 0 rfl) ?_
      refine cl_acmp_ne (rx := r_2) (ry := r_9) (tgt := 54) C.1 C.2.1 dX11_same_47 (by decide) (fun hc => ?_) (fun hc => ?_)
      · rw [if_neg hc] at h_24
        refine lv_iconst (v := (0:Int32)) C.1 C.2.1 dX11_same_54 (by decide) ?_
        exact cl_iret ⟨rfl, rfl⟩ rfl C G_13 h_24 dX11_same_55
      · rw [if_pos hc] at h_24
        refine lv_iconst (v := (1:Int32)) C.1 C.2.1 dX11_same_50 (by decide) ?_
        refine lv_goto (tgt := 55) C.1 C.2.1 dX11_same_51 (by decide) ?_
        exact cl_iret ⟨rfl, rfl⟩ rfl C G_13 h_24 dX11_same_55
    · rw [if_pos hc] at h_24
      refine lv_iconst (v := (-1:Int32)) C.1 C.2.1 dX11_same_41 (by decide) ?_
      exact cl_iret ⟨rfl, rfl⟩ rfl C G_13 h_24 dX11_same_42
noncomputable def fc_X11_same (a : Nat) (x1 : Int32) (x2 : Int32) (x3 : Int32) (x4 : Int32) (σ : cl_S) : Option (Int32 × cl_S) := bc_X11_same_0 a x1 x2 x3 x4 σ
theorem kc_X11_same (l : Launch) (D : cl_D) (c0 : Nat) {r : Int32} {a : Nat} {x1 : Int32} {x2 : Int32} {x3 : Int32} {x4 : Int32} {σ σ' : cl_S} (ha : (σ.2.2.2.1 a).1 = 27) (h : fc_X11_same a x1 x2 x3 x4 σ = some (r, σ')) : cl_Met true l D c0 yX11_same cX11_same 7 (some .int) 3 64 [.ref (c0 + a), .int x1, .int x2, .int x3, .int x4] σ (some (.int r)) cl_no σ' :=
  cl_of (by decide) (Nat.le_of_ble_eq_true rfl) (fun p e s m args below meth c ls C hn G hl => wc_X11_same_0 C h G ha hl)
abbrev cX11_flows : ByteArray := prog_1_method_36_code
def yX11_flows : MethodName := ⟨RX11, "flows", "(II)I"⟩
theorem dX11_flows_0 : decode cX11_flows 0 = .ok (.aload_n 0, 1) := by decide +kernel
theorem dX11_flows_1 : decode cX11_flows 1 = .ok (.iload_n 1, 1) := by decide +kernel
theorem dX11_flows_2 : decode cX11_flows 2 = .ok (.invokevirtual 219, 3) := by decide +kernel
theorem dX11_flows_5 : decode cX11_flows 5 = .ok (.ifCond .eq 11, 3) := by decide +kernel
theorem dX11_flows_8 : decode cX11_flows 8 = .ok (.aload_n 0, 1) := by decide +kernel
theorem dX11_flows_9 : decode cX11_flows 9 = .ok (.iload_n 2, 1) := by decide +kernel
theorem dX11_flows_10 : decode cX11_flows 10 = .ok (.invokevirtual 219, 3) := by decide +kernel
theorem dX11_flows_13 : decode cX11_flows 13 = .ok (.ifCond .ne 5, 3) := by decide +kernel
theorem dX11_flows_16 : decode cX11_flows 16 = .ok (.iconst (-1), 1) := by decide +kernel
theorem dX11_flows_17 : decode cX11_flows 17 = .ok (.ireturn, 1) := by decide +kernel
theorem dX11_flows_18 : decode cX11_flows 18 = .ok (.aload_n 0, 1) := by decide +kernel
theorem dX11_flows_19 : decode cX11_flows 19 = .ok (.getfield 81, 3) := by decide +kernel
theorem dX11_flows_22 : decode cX11_flows 22 = .ok (.getfield 157, 3) := by decide +kernel
theorem dX11_flows_25 : decode cX11_flows 25 = .ok (.iload_n 2, 1) := by decide +kernel
theorem dX11_flows_26 : decode cX11_flows 26 = .ok (.invokevirtual 371, 3) := by decide +kernel
theorem dX11_flows_29 : decode cX11_flows 29 = .ok (.iload_n 1, 1) := by decide +kernel
theorem dX11_flows_30 : decode cX11_flows 30 = .ok (.ishr, 1) := by decide +kernel
theorem dX11_flows_31 : decode cX11_flows 31 = .ok (.iconst 1, 1) := by decide +kernel
theorem dX11_flows_32 : decode cX11_flows 32 = .ok (.iand, 1) := by decide +kernel
theorem dX11_flows_33 : decode cX11_flows 33 = .ok (.ireturn, 1) := by decide +kernel
theorem cc_X11_flows : Cond.code yX11_flows cX11_flows 3 (some .int) ∈ rf_tb := rf_at 1466 (by decide +kernel) (by decide +kernel)
theorem cw_RX11_371 : cl_wV RX11 RX1 yX1_flowingTo cX1_flowingTo 5 (some .int) 371 1 := ⟨⟨rf_at 1467 (by decide +kernel) (by decide +kernel), rf_at 1468 (by decide +kernel) (by decide +kernel), rf_at 1469 (by decide +kernel) (by decide +kernel), cc_X1_flowingTo, rf_at 14 (by decide +kernel) (by decide +kernel)⟩, ⟨by decide, by decide, by decide +kernel⟩⟩
noncomputable def bc_X11_flows_0 (a : Nat) (x1 : Int32) (x2 : Int32) (σ : cl_S) : Option (Int32 × cl_S) := bd2 (fc_X11_isPartition a x1 σ) (fun r_2 σ_1 => (if r_2 = 0 then some ((-1:Int32), σ_1) else bd2 (fc_X11_isPartition a x2 σ_1) (fun r_8 σ_7 => (if r_8 = 0 then some ((-1:Int32), σ_7) else vl (σ_7.2.2.1 47 3) (fun r_15 => nn r_15 (fun a_18 => bd2 (fc_X1_flowingTo a_18 x2 σ_7) (fun r_22 σ_21 => some (((r_22 >>> (x1 &&& 31)) &&& (1:Int32)), σ_21))))))))
set_option maxHeartbeats 4000000 in
theorem wc_X11_flows_0 (C : cl_C D p s m args meth c cX11_flows 3 (some .int) RX11) {r : Int32} {a : Nat} {x1 : Int32} {x2 : Int32} {σ0 σ σ' : cl_S} {T : Nat → Nat × Nat} {H : Heap} {locs : List Loc} {ls : Array Slot} {cells slots : Nat} (h : bc_X11_flows_0 a x1 x2 σ = some (r, σ')) (G : cl_G true D c0 ({ frames := 1, cells := σ0.2.2.2.2.2.1, slots := σ0.2.2.2.2.2.2, locals := 24 }) s σ0.2.2.2.1 T σ H locs cells slots) (ha : (T a).1 = 27) (hl : lv_has ls 3 [(0, .ref (c0 + a)), (1, .int x1), (2, .int x2)]) : W p l e ({ frames := 1, cells := σ0.2.2.2.2.2.1, slots := σ0.2.2.2.2.2.2, locals := 24 }) s m args below meth c H locs cells slots (MQ below (cl_Q true D c0 (some (.int r)) cl_no σ0 σ') args s (σ0.2.2.2.2.2.1 - σ'.2.2.2.2.2.1) (σ0.2.2.2.2.2.2 - σ'.2.2.2.2.2.2) (cl_A c0 σ0.2.2.2.1 s.heap.size)) (F0 m 0 ls []) := by
  unfold bc_X11_flows_0 at h
  refine lv_aload_n C.1 C.2.1 dX11_flows_0 rfl (lv_at hl 0 rfl) ?_
  refine lv_iload_n C.1 C.2.1 dX11_flows_1 rfl (lv_at hl 1 rfl) ?_
  obtain ⟨r_2, σ_1, hq, h_3⟩ := bd2_some h
  refine cl_callV (ci := 11) (rest := []) C G rfl ha cw_RX11_219 [.int x1] _ (kc_X11_isPartition l D c0 (by rw [G.1]; exact ha) hq) (Nat.le_of_ble_eq_true rfl) (Nat.le_of_ble_eq_true rfl) rfl rfl hl.1 (Nat.le_of_ble_eq_true rfl) dX11_flows_2 (fun T_4 H locs cells slots t_5 hu G_6 => ?_)
  have ha := hu.kind ha (by decide)
  refine W.eq (g2 := F0 m 5 ls [.int r_2]) rfl ?_
  refine lv_if_eq (tgt := 16) C.1 C.2.1 dX11_flows_5 (by decide) (fun hc => ?_) (fun hc => ?_)
  · rw [if_pos hc] at h_3
    refine lv_iconst (v := (-1:Int32)) C.1 C.2.1 dX11_flows_16 (by decide) ?_
    exact cl_iret ⟨rfl, rfl⟩ rfl C G_6 h_3 dX11_flows_17
  · rw [if_neg hc] at h_3
    refine lv_aload_n C.1 C.2.1 dX11_flows_8 rfl (lv_at hl 0 rfl) ?_
    refine lv_iload_n C.1 C.2.1 dX11_flows_9 rfl (lv_at hl 2 rfl) ?_
    obtain ⟨r_8, σ_7, hq, h_9⟩ := bd2_some h_3
    refine cl_callV (ci := 11) (rest := []) C G_6 rfl ha cw_RX11_219 [.int x2] _ (kc_X11_isPartition l D c0 (by rw [G_6.1]; exact ha) hq) (Nat.le_of_ble_eq_true rfl) (Nat.le_of_ble_eq_true rfl) rfl rfl hl.1 (Nat.le_of_ble_eq_true rfl) dX11_flows_10 (fun T_10 H locs cells slots t_11 hu G_12 => ?_)
    have ha := hu.kind ha (by decide)
    refine W.eq (g2 := F0 m 13 ls [.int r_8]) rfl ?_
    refine lv_if_ne (tgt := 18) C.1 C.2.1 dX11_flows_13 (by decide) (fun hc => ?_) (fun hc => ?_)
    · rw [if_neg hc] at h_9
      refine lv_aload_n C.1 C.2.1 dX11_flows_18 rfl (lv_at hl 0 rfl) ?_
      refine cg_11_81 C G_12 ha dX11_flows_19 (fun t_13 => ?_)
      have t_13 : (T_10 47).1 = 21 := by rw [t_13]
      refine cg_11_157 C G_12 t_13 dX11_flows_22 (fun t_14 => ?_)
      refine vt_r (K := 17) t_14 h_9 (fun r_15 t_16 h_17 => ?_)
      refine lv_iload_n C.1 C.2.1 dX11_flows_25 rfl (lv_at hl 2 rfl) ?_
      obtain ⟨a_18, rfl, h_20⟩ := nn_some h_17
      have t_19 := t_16 _ rfl
      obtain ⟨r_22, σ_21, hq, h_23⟩ := bd2_some h_20
      refine cl_callV (ci := 1) (rest := []) C G_12 rfl t_19 cw_RX11_371 [.int x2] _ (kc_X1_flowingTo l D c0 (by rw [G_12.1]; exact t_19) hq) (Nat.le_of_ble_eq_true rfl) (Nat.le_of_ble_eq_true rfl) rfl rfl hl.1 (Nat.le_of_ble_eq_true rfl) dX11_flows_26 (fun T_24 H locs cells slots t_25 hu G_26 => ?_)
      have ha := hu.kind ha (by decide)
      refine W.eq (g2 := F0 m 29 ls [.int r_22]) rfl ?_
      refine lv_iload_n C.1 C.2.1 dX11_flows_29 rfl (lv_at hl 1 rfl) ?_
      refine lv_ishr C.1 C.2.1 dX11_flows_30 ?_
      refine lv_iconst (v := (1:Int32)) C.1 C.2.1 dX11_flows_31 (by decide) ?_
      refine lv_iand C.1 C.2.1 dX11_flows_32 ?_
      exact cl_iret ⟨rfl, rfl⟩ rfl C G_26 h_23 dX11_flows_33
    · rw [if_pos hc] at h_9
      refine lv_iconst (v := (-1:Int32)) C.1 C.2.1 dX11_flows_16 (by decide) ?_
      exact cl_iret ⟨rfl, rfl⟩ rfl C G_12 h_9 dX11_flows_17
noncomputable def fc_X11_flows (a : Nat) (x1 : Int32) (x2 : Int32) (σ : cl_S) : Option (Int32 × cl_S) := bc_X11_flows_0 a x1 x2 σ
theorem kc_X11_flows (l : Launch) (D : cl_D) (c0 : Nat) {r : Int32} {a : Nat} {x1 : Int32} {x2 : Int32} {σ σ' : cl_S} (ha : (σ.2.2.2.1 a).1 = 27) (h : fc_X11_flows a x1 x2 σ = some (r, σ')) : cl_Met true l D c0 yX11_flows cX11_flows 3 (some .int) 1 24 [.ref (c0 + a), .int x1, .int x2] σ (some (.int r)) cl_no σ' :=
  cl_of (by decide) (Nat.le_of_ble_eq_true rfl) (fun p e s m args below meth c ls C hn G hl => wc_X11_flows_0 C h G ha hl)
abbrev cX11_purge : ByteArray := prog_1_method_37_code
def yX11_purge : MethodName := ⟨RX11, "purge", "(I)I"⟩
theorem dX11_purge_0 : decode cX11_purge 0 = .ok (.aload_n 0, 1) := by decide +kernel
theorem dX11_purge_1 : decode cX11_purge 1 = .ok (.iload_n 1, 1) := by decide +kernel
theorem dX11_purge_2 : decode cX11_purge 2 = .ok (.invokevirtual 219, 3) := by decide +kernel
theorem dX11_purge_5 : decode cX11_purge 5 = .ok (.ifCond .ne 5, 3) := by decide +kernel
theorem dX11_purge_8 : decode cX11_purge 8 = .ok (.iconst (-1), 1) := by decide +kernel
theorem dX11_purge_9 : decode cX11_purge 9 = .ok (.ireturn, 1) := by decide +kernel
theorem dX11_purge_10 : decode cX11_purge 10 = .ok (.aload_n 0, 1) := by decide +kernel
theorem dX11_purge_11 : decode cX11_purge 11 = .ok (.getfield 81, 3) := by decide +kernel
theorem dX11_purge_14 : decode cX11_purge 14 = .ok (.getfield 374, 3) := by decide +kernel
theorem dX11_purge_17 : decode cX11_purge 17 = .ok (.sipush 500, 3) := by decide +kernel
theorem dX11_purge_20 : decode cX11_purge 20 = .ok (.if_icmp .le 6, 3) := by decide +kernel
theorem dX11_purge_23 : decode cX11_purge 23 = .ok (.bipush (-4), 2) := by decide +kernel
theorem dX11_purge_25 : decode cX11_purge 25 = .ok (.ireturn, 1) := by decide +kernel
theorem dX11_purge_26 : decode cX11_purge 26 = .ok (.aload_n 0, 1) := by decide +kernel
theorem dX11_purge_27 : decode cX11_purge 27 = .ok (.getfield 85, 3) := by decide +kernel
theorem dX11_purge_30 : decode cX11_purge 30 = .ok (.aload_n 0, 1) := by decide +kernel
theorem dX11_purge_31 : decode cX11_purge 31 = .ok (.getfield 81, 3) := by decide +kernel
theorem dX11_purge_34 : decode cX11_purge 34 = .ok (.aload_n 0, 1) := by decide +kernel
theorem dX11_purge_35 : decode cX11_purge 35 = .ok (.getfield 73, 3) := by decide +kernel
theorem dX11_purge_38 : decode cX11_purge 38 = .ok (.aload_n 0, 1) := by decide +kernel
theorem dX11_purge_39 : decode cX11_purge 39 = .ok (.getfield 81, 3) := by decide +kernel
theorem dX11_purge_42 : decode cX11_purge 42 = .ok (.getfield 157, 3) := by decide +kernel
theorem dX11_purge_45 : decode cX11_purge 45 = .ok (.iload_n 1, 1) := by decide +kernel
theorem dX11_purge_46 : decode cX11_purge 46 = .ok (.invokevirtual 371, 3) := by decide +kernel
theorem dX11_purge_49 : decode cX11_purge 49 = .ok (.invokevirtual 377, 3) := by decide +kernel
theorem dX11_purge_52 : decode cX11_purge 52 = .ok (.aload_n 0, 1) := by decide +kernel
theorem dX11_purge_53 : decode cX11_purge 53 = .ok (.getfield 85, 3) := by decide +kernel
theorem dX11_purge_56 : decode cX11_purge 56 = .ok (.getfield 175, 3) := by decide +kernel
theorem dX11_purge_59 : decode cX11_purge 59 = .ok (.iload_n 1, 1) := by decide +kernel
theorem dX11_purge_60 : decode cX11_purge 60 = .ok (.aaload, 1) := by decide +kernel
theorem dX11_purge_61 : decode cX11_purge 61 = .ok (.aload_n 0, 1) := by decide +kernel
theorem dX11_purge_62 : decode cX11_purge 62 = .ok (.getfield 81, 3) := by decide +kernel
theorem dX11_purge_65 : decode cX11_purge 65 = .ok (.getfield 175, 3) := by decide +kernel
theorem dX11_purge_68 : decode cX11_purge 68 = .ok (.iload_n 1, 1) := by decide +kernel
theorem dX11_purge_69 : decode cX11_purge 69 = .ok (.aaload, 1) := by decide +kernel
theorem dX11_purge_70 : decode cX11_purge 70 = .ok (.invokevirtual 381, 3) := by decide +kernel
theorem dX11_purge_73 : decode cX11_purge 73 = .ok (.ifCond .eq 7, 3) := by decide +kernel
theorem dX11_purge_76 : decode cX11_purge 76 = .ok (.iconst 1, 1) := by decide +kernel
theorem dX11_purge_77 : decode cX11_purge 77 = .ok (.goto 4, 3) := by decide +kernel
theorem dX11_purge_80 : decode cX11_purge 80 = .ok (.iconst 0, 1) := by decide +kernel
theorem dX11_purge_81 : decode cX11_purge 81 = .ok (.ireturn, 1) := by decide +kernel
theorem cc_X11_purge : Cond.code yX11_purge cX11_purge 2 (some .int) ∈ rf_tb := rf_at 1474 (by decide +kernel) (by decide +kernel)
theorem cw_RX11_377 : cl_wV RX11 RX5 yX5_repeat cX5_repeat 5 none 377 3 := ⟨⟨rf_at 1475 (by decide +kernel) (by decide +kernel), rf_at 1476 (by decide +kernel) (by decide +kernel), rf_at 1477 (by decide +kernel) (by decide +kernel), cc_X5_repeat, rf_at 13 (by decide +kernel) (by decide +kernel)⟩, ⟨by decide, by decide, by decide +kernel⟩⟩
theorem cw_RX11_381 : cl_wV RX11 RX6 yX6_isLike cX6_isLike 4 (some .boolean) 381 1 := ⟨⟨rf_at 1497 (by decide +kernel) (by decide +kernel), rf_at 1498 (by decide +kernel) (by decide +kernel), rf_at 1499 (by decide +kernel) (by decide +kernel), cc_X6_isLike, rf_at 15 (by decide +kernel) (by decide +kernel)⟩, ⟨by decide, by decide, by decide +kernel⟩⟩
noncomputable def bc_X11_purge_0 (a : Nat) (x1 : Int32) (σ : cl_S) : Option (Int32 × cl_S) := bd2 (fc_X11_isPartition a x1 σ) (fun r_2 σ_1 => (if r_2 = 0 then some ((-1:Int32), σ_1) else (if (σ_1.1 47 15) ≤ (500:Int32) then vl (σ_1.2.2.1 47 3) (fun r_13 => nn r_13 (fun a_16 => bd2 (fc_X1_flowingTo a_16 x1 σ_1) (fun r_20 σ_19 => bd1 (fc_X5_repeat 179 (some 47) (some 44) r_20 σ_19) (fun σ_25 => ix x1 8 (vl (σ_25.2.2.1 (179 + 12 + cl_md 179) x1.toNatClampNeg) (fun r_34 => ix x1 8 (vl (σ_25.2.2.1 (47 + 12 + cl_md 47) x1.toNatClampNeg) (fun r_41 => nn r_34 (fun a_44 => bd2 (fc_X6_isLike a_44 r_41 σ_25) (fun r_48 σ_47 => (if r_48 = 0 then some ((0:Int32), σ_47) else some ((1:Int32), σ_47)))))))))))) else some ((-4:Int32), σ_1))))
set_option maxHeartbeats 4000000 in
theorem wc_X11_purge_0 (C : cl_C D p s m args meth c cX11_purge 2 (some .int) RX11) {r : Int32} {a : Nat} {x1 : Int32} {σ0 σ σ' : cl_S} {T : Nat → Nat × Nat} {H : Heap} {locs : List Loc} {ls : Array Slot} {cells slots : Nat} (h : bc_X11_purge_0 a x1 σ = some (r, σ')) (G : cl_G true D c0 ({ frames := 8, cells := σ0.2.2.2.2.2.1, slots := σ0.2.2.2.2.2.2, locals := 197 }) s σ0.2.2.2.1 T σ H locs cells slots) (ha : (T a).1 = 27) (hl : lv_has ls 2 [(0, .ref (c0 + a)), (1, .int x1)]) : W p l e ({ frames := 8, cells := σ0.2.2.2.2.2.1, slots := σ0.2.2.2.2.2.2, locals := 197 }) s m args below meth c H locs cells slots (MQ below (cl_Q true D c0 (some (.int r)) cl_no σ0 σ') args s (σ0.2.2.2.2.2.1 - σ'.2.2.2.2.2.1) (σ0.2.2.2.2.2.2 - σ'.2.2.2.2.2.2) (cl_A c0 σ0.2.2.2.1 s.heap.size)) (F0 m 0 ls []) := by
  unfold bc_X11_purge_0 at h
  refine lv_aload_n C.1 C.2.1 dX11_purge_0 rfl (lv_at hl 0 rfl) ?_
  refine lv_iload_n C.1 C.2.1 dX11_purge_1 rfl (lv_at hl 1 rfl) ?_
  obtain ⟨r_2, σ_1, hq, h_3⟩ := bd2_some h
  refine cl_callV (ci := 11) (rest := []) C G rfl ha cw_RX11_219 [.int x1] _ (kc_X11_isPartition l D c0 (by rw [G.1]; exact ha) hq) (Nat.le_of_ble_eq_true rfl) (Nat.le_of_ble_eq_true rfl) rfl rfl hl.1 (Nat.le_of_ble_eq_true rfl) dX11_purge_2 (fun T_4 H locs cells slots t_5 hu G_6 => ?_)
  have ha := hu.kind ha (by decide)
  refine W.eq (g2 := F0 m 5 ls [.int r_2]) rfl ?_
  refine lv_if_ne (tgt := 10) C.1 C.2.1 dX11_purge_5 (by decide) (fun hc => ?_) (fun hc => ?_)
  · rw [if_neg hc] at h_3
    refine lv_aload_n C.1 C.2.1 dX11_purge_10 rfl (lv_at hl 0 rfl) ?_
    refine cg_11_81 C G_6 ha dX11_purge_11 (fun t_7 => ?_)
    have t_7 : (T_4 47).1 = 21 := by rw [t_7]
    refine cg_11_374 C G_6 t_7 dX11_purge_14 ?_
    refine lv_sipush (v := (500:Int32)) C.1 C.2.1 dX11_purge_17 (by decide) ?_
    refine lv_icmp_le (tgt := 26) C.1 C.2.1 dX11_purge_20 (by decide) (fun hc => ?_) (fun hc => ?_)
    · rw [if_pos hc] at h_3
      refine lv_aload_n C.1 C.2.1 dX11_purge_26 rfl (lv_at hl 0 rfl) ?_
      refine cg_11_85 C G_6 ha dX11_purge_27 (fun t_8 => ?_)
      have t_8 : (T_4 179).1 = 21 := by rw [t_8]
      refine lv_aload_n C.1 C.2.1 dX11_purge_30 rfl (lv_at hl 0 rfl) ?_
      refine cg_11_81 C G_6 ha dX11_purge_31 (fun t_9 => ?_)
      have t_9 : (T_4 47).1 = 21 := by rw [t_9]
      refine lv_aload_n C.1 C.2.1 dX11_purge_34 rfl (lv_at hl 0 rfl) ?_
      refine cg_11_73 C G_6 ha dX11_purge_35 (fun t_10 => ?_)
      have t_10 : (T_4 44).1 = 19 := by rw [t_10]
      refine lv_aload_n C.1 C.2.1 dX11_purge_38 rfl (lv_at hl 0 rfl) ?_
      refine cg_11_81 C G_6 ha dX11_purge_39 (fun t_11 => ?_)
      have t_11 : (T_4 47).1 = 21 := by rw [t_11]
      refine cg_11_157 C G_6 t_11 dX11_purge_42 (fun t_12 => ?_)
      refine vt_r (K := 17) t_12 h_3 (fun r_13 t_14 h_15 => ?_)
      refine lv_iload_n C.1 C.2.1 dX11_purge_45 rfl (lv_at hl 1 rfl) ?_
      obtain ⟨a_16, rfl, h_18⟩ := nn_some h_15
      have t_17 := t_14 _ rfl
      obtain ⟨r_20, σ_19, hq, h_21⟩ := bd2_some h_18
      refine cl_callV (ci := 1) (rest := [.ref (c0 + 44), .ref (c0 + 47), .ref (c0 + 179)]) C G_6 rfl t_17 cw_RX11_371 [.int x1] _ (kc_X1_flowingTo l D c0 (by rw [G_6.1]; exact t_17) hq) (Nat.le_of_ble_eq_true rfl) (Nat.le_of_ble_eq_true rfl) rfl rfl hl.1 (Nat.le_of_ble_eq_true rfl) dX11_purge_46 (fun T_22 H locs cells slots t_23 hu G_24 => ?_)
      have ha := hu.kind ha (by decide)
      have t_8 := hu.kind t_8 (by decide)
      have t_9 := hu.kind t_9 (by decide)
      have t_10 := hu.kind t_10 (by decide)
      refine W.eq (g2 := F0 m 49 ls [.int r_20, .ref (c0 + 44), .ref (c0 + 47), .ref (c0 + 179)]) rfl ?_
      obtain ⟨σ_25, hq, h_26⟩ := bd1_some h_21
      refine cl_callV (ci := 5) (rest := []) C G_24 rfl t_8 cw_RX11_377 [.ref (c0 + 47), .ref (c0 + 44), .int r_20] _ (kc_X5_repeat l D c0 (by rw [G_24.1]; exact t_8) hq (by rw [G_24.1]; exact (cl_RTs t_9)) (by rw [G_24.1]; exact (cl_RTs t_10))) (Nat.le_of_ble_eq_true rfl) (Nat.le_of_ble_eq_true rfl) rfl rfl hl.1 (Nat.le_of_ble_eq_true rfl) dX11_purge_49 (fun T_27 H locs cells slots t_28 hu G_29 => ?_)
      have ha := hu.kind ha (by decide)
      refine W.eq (g2 := F0 m 52 ls []) rfl ?_
      refine lv_aload_n C.1 C.2.1 dX11_purge_52 rfl (lv_at hl 0 rfl) ?_
      refine cg_11_85 C G_29 ha dX11_purge_53 (fun t_30 => ?_)
      have t_30 : (T_27 179).1 = 21 := by rw [t_30]
      refine cg_11_175 C G_29 t_30 dX11_purge_56 (fun t_31 => ?_)
      refine lv_iload_n C.1 C.2.1 dX11_purge_59 rfl (lv_at hl 1 rfl) ?_
      obtain ⟨hi, h_32⟩ := ix_some h_26
      refine cl_aald C G_29 t_31 (by decide) (by decide) rfl hi dX11_purge_60 (fun t_33 => ?_)
      refine vt_r (K := 22) t_33 h_32 (fun r_34 t_35 h_36 => ?_)
      refine lv_aload_n C.1 C.2.1 dX11_purge_61 rfl (lv_at hl 0 rfl) ?_
      refine cg_11_81 C G_29 ha dX11_purge_62 (fun t_37 => ?_)
      have t_37 : (T_27 47).1 = 21 := by rw [t_37]
      refine cg_11_175 C G_29 t_37 dX11_purge_65 (fun t_38 => ?_)
      refine lv_iload_n C.1 C.2.1 dX11_purge_68 rfl (lv_at hl 1 rfl) ?_
      obtain ⟨hi, h_39⟩ := ix_some h_36
      refine cl_aald C G_29 t_38 (by decide) (by decide) rfl hi dX11_purge_69 (fun t_40 => ?_)
      refine vt_r (K := 22) t_40 h_39 (fun r_41 t_42 h_43 => ?_)
      obtain ⟨a_44, rfl, h_46⟩ := nn_some h_43
      have t_45 := t_35 _ rfl
      obtain ⟨r_48, σ_47, hq, h_49⟩ := bd2_some h_46
      refine cl_callV (ci := 6) (rest := []) C G_29 rfl t_45 cw_RX11_381 [cl_rf c0 r_41] _ (kc_X6_isLike l D c0 (by rw [G_29.1]; exact t_45) hq (by rw [G_29.1]; exact t_42)) (Nat.le_of_ble_eq_true rfl) (Nat.le_of_ble_eq_true rfl) rfl rfl hl.1 (Nat.le_of_ble_eq_true rfl) dX11_purge_70 (fun T_50 H locs cells slots t_51 hu G_52 => ?_)
      have ha := hu.kind ha (by decide)
      refine W.eq (g2 := F0 m 73 ls [.int r_48]) rfl ?_
      refine lv_if_eq (tgt := 80) C.1 C.2.1 dX11_purge_73 (by decide) (fun hc => ?_) (fun hc => ?_)
      · rw [if_pos hc] at h_49
        refine lv_iconst (v := (0:Int32)) C.1 C.2.1 dX11_purge_80 (by decide) ?_
        exact cl_iret ⟨rfl, rfl⟩ rfl C G_52 h_49 dX11_purge_81
      · rw [if_neg hc] at h_49
        refine lv_iconst (v := (1:Int32)) C.1 C.2.1 dX11_purge_76 (by decide) ?_
        refine lv_goto (tgt := 81) C.1 C.2.1 dX11_purge_77 (by decide) ?_
        exact cl_iret ⟨rfl, rfl⟩ rfl C G_52 h_49 dX11_purge_81
    · rw [if_neg hc] at h_3
      refine lv_bipush (v := (-4:Int32)) C.1 C.2.1 dX11_purge_23 (by decide) ?_
      exact cl_iret ⟨rfl, rfl⟩ rfl C G_6 h_3 dX11_purge_25
  · rw [if_pos hc] at h_3
    refine lv_iconst (v := (-1:Int32)) C.1 C.2.1 dX11_purge_8 (by decide) ?_
    exact cl_iret ⟨rfl, rfl⟩ rfl C G_6 h_3 dX11_purge_9
noncomputable def fc_X11_purge (a : Nat) (x1 : Int32) (σ : cl_S) : Option (Int32 × cl_S) := bc_X11_purge_0 a x1 σ
theorem kc_X11_purge (l : Launch) (D : cl_D) (c0 : Nat) {r : Int32} {a : Nat} {x1 : Int32} {σ σ' : cl_S} (ha : (σ.2.2.2.1 a).1 = 27) (h : fc_X11_purge a x1 σ = some (r, σ')) : cl_Met true l D c0 yX11_purge cX11_purge 2 (some .int) 8 197 [.ref (c0 + a), .int x1] σ (some (.int r)) cl_no σ' :=
  cl_of (by decide) (Nat.le_of_ble_eq_true rfl) (fun p e s m args below meth c ls C hn G hl => wc_X11_purge_0 C h G ha hl)
abbrev cX11_told : ByteArray := prog_1_method_38_code
def yX11_told : MethodName := ⟨RX11, "told", "(I)I"⟩
theorem dX11_told_0 : decode cX11_told 0 = .ok (.iload_n 1, 1) := by decide +kernel
theorem dX11_told_1 : decode cX11_told 1 = .ok (.tableswitch 131 0 8 #[51, 67, 72, 80, 91, 102, 110, 118, 123], 51) := by decide +kernel
theorem dX11_told_52 : decode cX11_told 52 = .ok (.aload_n 0, 1) := by decide +kernel
theorem dX11_told_53 : decode cX11_told 53 = .ok (.getfield 81, 3) := by decide +kernel
theorem dX11_told_56 : decode cX11_told 56 = .ok (.getfield 137, 3) := by decide +kernel
theorem dX11_told_59 : decode cX11_told 59 = .ok (.ifCond .eq 7, 3) := by decide +kernel
theorem dX11_told_62 : decode cX11_told 62 = .ok (.iconst 1, 1) := by decide +kernel
theorem dX11_told_63 : decode cX11_told 63 = .ok (.goto 4, 3) := by decide +kernel
theorem dX11_told_66 : decode cX11_told 66 = .ok (.iconst 0, 1) := by decide +kernel
theorem dX11_told_67 : decode cX11_told 67 = .ok (.ireturn, 1) := by decide +kernel
theorem dX11_told_68 : decode cX11_told 68 = .ok (.aload_n 0, 1) := by decide +kernel
theorem dX11_told_69 : decode cX11_told 69 = .ok (.getfield 151, 3) := by decide +kernel
theorem dX11_told_72 : decode cX11_told 72 = .ok (.ireturn, 1) := by decide +kernel
theorem dX11_told_73 : decode cX11_told 73 = .ok (.aload_n 0, 1) := by decide +kernel
theorem dX11_told_74 : decode cX11_told 74 = .ok (.getfield 81, 3) := by decide +kernel
theorem dX11_told_77 : decode cX11_told 77 = .ok (.getfield 209, 3) := by decide +kernel
theorem dX11_told_80 : decode cX11_told 80 = .ok (.ireturn, 1) := by decide +kernel
theorem dX11_told_81 : decode cX11_told 81 = .ok (.aload_n 0, 1) := by decide +kernel
theorem dX11_told_82 : decode cX11_told 82 = .ok (.getfield 81, 3) := by decide +kernel
theorem dX11_told_85 : decode cX11_told 85 = .ok (.getfield 157, 3) := by decide +kernel
theorem dX11_told_88 : decode cX11_told 88 = .ok (.getfield 145, 3) := by decide +kernel
theorem dX11_told_91 : decode cX11_told 91 = .ok (.ireturn, 1) := by decide +kernel
theorem dX11_told_92 : decode cX11_told 92 = .ok (.aload_n 0, 1) := by decide +kernel
theorem dX11_told_93 : decode cX11_told 93 = .ok (.getfield 81, 3) := by decide +kernel
theorem dX11_told_96 : decode cX11_told 96 = .ok (.getfield 157, 3) := by decide +kernel
theorem dX11_told_99 : decode cX11_told 99 = .ok (.getfield 293, 3) := by decide +kernel
theorem dX11_told_102 : decode cX11_told 102 = .ok (.ireturn, 1) := by decide +kernel
theorem dX11_told_103 : decode cX11_told 103 = .ok (.aload_n 0, 1) := by decide +kernel
theorem dX11_told_104 : decode cX11_told 104 = .ok (.getfield 81, 3) := by decide +kernel
theorem dX11_told_107 : decode cX11_told 107 = .ok (.getfield 385, 3) := by decide +kernel
theorem dX11_told_110 : decode cX11_told 110 = .ok (.ireturn, 1) := by decide +kernel
theorem dX11_told_111 : decode cX11_told 111 = .ok (.aload_n 0, 1) := by decide +kernel
theorem dX11_told_112 : decode cX11_told 112 = .ok (.getfield 56, 3) := by decide +kernel
theorem dX11_told_115 : decode cX11_told 115 = .ok (.getfield 275, 3) := by decide +kernel
theorem dX11_told_118 : decode cX11_told 118 = .ok (.ireturn, 1) := by decide +kernel
theorem dX11_told_119 : decode cX11_told 119 = .ok (.aload_n 0, 1) := by decide +kernel
theorem dX11_told_120 : decode cX11_told 120 = .ok (.getfield 107, 3) := by decide +kernel
theorem dX11_told_123 : decode cX11_told 123 = .ok (.ireturn, 1) := by decide +kernel
theorem dX11_told_124 : decode cX11_told 124 = .ok (.aload_n 0, 1) := by decide +kernel
theorem dX11_told_125 : decode cX11_told 125 = .ok (.getfield 10, 3) := by decide +kernel
theorem dX11_told_128 : decode cX11_told 128 = .ok (.getfield 388, 3) := by decide +kernel
theorem dX11_told_131 : decode cX11_told 131 = .ok (.ireturn, 1) := by decide +kernel
theorem dX11_told_132 : decode cX11_told 132 = .ok (.bipush (-2), 2) := by decide +kernel
theorem dX11_told_134 : decode cX11_told 134 = .ok (.ireturn, 1) := by decide +kernel
theorem cc_X11_told : Cond.code yX11_told cX11_told 2 (some .int) ∈ rf_tb := rf_at 1504 (by decide +kernel) (by decide +kernel)
noncomputable def bc_X11_told_0 (a : Nat) (x1 : Int32) (σ : cl_S) : Option (Int32 × cl_S) := (if x1 = (0:Int32) then (if (σ.1 47 8) = 0 then some ((0:Int32), σ) else some ((1:Int32), σ)) else if x1 = (1:Int32) then some ((σ.1 a 14), σ) else if x1 = (2:Int32) then some ((σ.1 47 9), σ) else if x1 = (3:Int32) then vl (σ.2.2.1 47 3) (fun r_5 => nn r_5 (fun a_8 => some ((σ.1 a_8 0), σ))) else if x1 = (4:Int32) then vl (σ.2.2.1 47 3) (fun r_13 => nn r_13 (fun a_16 => some ((σ.1 a_16 5), σ))) else if x1 = (5:Int32) then some ((σ.1 47 14), σ) else if x1 = (6:Int32) then some ((σ.1 38 5), σ) else if x1 = (7:Int32) then some ((σ.1 a 4), σ) else if x1 = (8:Int32) then some ((σ.1 1 1), σ) else some ((-2:Int32), σ))
set_option maxHeartbeats 4000000 in
theorem wc_X11_told_0 (C : cl_C D p s m args meth c cX11_told 2 (some .int) RX11) {r : Int32} {a : Nat} {x1 : Int32} {σ0 σ σ' : cl_S} {T : Nat → Nat × Nat} {H : Heap} {locs : List Loc} {ls : Array Slot} {cells slots : Nat} (h : bc_X11_told_0 a x1 σ = some (r, σ')) (G : cl_G true D c0 ({ frames := 0, cells := σ0.2.2.2.2.2.1, slots := σ0.2.2.2.2.2.2, locals := 0 }) s σ0.2.2.2.1 T σ H locs cells slots) (ha : (T a).1 = 27) (hl : lv_has ls 2 [(0, .ref (c0 + a)), (1, .int x1)]) : W p l e ({ frames := 0, cells := σ0.2.2.2.2.2.1, slots := σ0.2.2.2.2.2.2, locals := 0 }) s m args below meth c H locs cells slots (MQ below (cl_Q true D c0 (some (.int r)) cl_no σ0 σ') args s (σ0.2.2.2.2.2.1 - σ'.2.2.2.2.2.1) (σ0.2.2.2.2.2.2 - σ'.2.2.2.2.2.2) (cl_A c0 σ0.2.2.2.1 s.heap.size)) (F0 m 0 ls []) := by
  unfold bc_X11_told_0 at h
  refine lv_iload_n C.1 C.2.1 dX11_told_0 rfl (lv_at hl 1 rfl) ?_
  by_cases hk0 : x1 = (0:Int32)
  · rw [if_pos hk0] at h
    refine lv_tableIn (tgt := 52) C.1 C.2.1 dX11_told_1 (by rw [hk0]; decide) (by rw [hk0]; decide) (by rw [hk0]; rfl) (by decide) ?_
    refine lv_aload_n C.1 C.2.1 dX11_told_52 rfl (lv_at hl 0 rfl) ?_
    refine cg_11_81 C G ha dX11_told_53 (fun t_1 => ?_)
    have t_1 : (T 47).1 = 21 := by rw [t_1]
    refine cg_11_137 C G t_1 dX11_told_56 ?_
    refine lv_if_eq (tgt := 66) C.1 C.2.1 dX11_told_59 (by decide) (fun hc => ?_) (fun hc => ?_)
    · rw [if_pos hc] at h
      refine lv_iconst (v := (0:Int32)) C.1 C.2.1 dX11_told_66 (by decide) ?_
      exact cl_iret ⟨rfl, rfl⟩ rfl C G h dX11_told_67
    · rw [if_neg hc] at h
      refine lv_iconst (v := (1:Int32)) C.1 C.2.1 dX11_told_62 (by decide) ?_
      refine lv_goto (tgt := 67) C.1 C.2.1 dX11_told_63 (by decide) ?_
      exact cl_iret ⟨rfl, rfl⟩ rfl C G h dX11_told_67
  rw [if_neg hk0] at h
  by_cases hk1 : x1 = (1:Int32)
  · rw [if_pos hk1] at h
    refine lv_tableIn (tgt := 68) C.1 C.2.1 dX11_told_1 (by rw [hk1]; decide) (by rw [hk1]; decide) (by rw [hk1]; rfl) (by decide) ?_
    refine lv_aload_n C.1 C.2.1 dX11_told_68 rfl (lv_at hl 0 rfl) ?_
    refine cg_11_151 C G ha dX11_told_69 ?_
    exact cl_iret ⟨rfl, rfl⟩ rfl C G h dX11_told_72
  rw [if_neg hk1] at h
  by_cases hk2 : x1 = (2:Int32)
  · rw [if_pos hk2] at h
    refine lv_tableIn (tgt := 73) C.1 C.2.1 dX11_told_1 (by rw [hk2]; decide) (by rw [hk2]; decide) (by rw [hk2]; rfl) (by decide) ?_
    refine lv_aload_n C.1 C.2.1 dX11_told_73 rfl (lv_at hl 0 rfl) ?_
    refine cg_11_81 C G ha dX11_told_74 (fun t_2 => ?_)
    have t_2 : (T 47).1 = 21 := by rw [t_2]
    refine cg_11_209 C G t_2 dX11_told_77 ?_
    exact cl_iret ⟨rfl, rfl⟩ rfl C G h dX11_told_80
  rw [if_neg hk2] at h
  by_cases hk3 : x1 = (3:Int32)
  · rw [if_pos hk3] at h
    refine lv_tableIn (tgt := 81) C.1 C.2.1 dX11_told_1 (by rw [hk3]; decide) (by rw [hk3]; decide) (by rw [hk3]; rfl) (by decide) ?_
    refine lv_aload_n C.1 C.2.1 dX11_told_81 rfl (lv_at hl 0 rfl) ?_
    refine cg_11_81 C G ha dX11_told_82 (fun t_3 => ?_)
    have t_3 : (T 47).1 = 21 := by rw [t_3]
    refine cg_11_157 C G t_3 dX11_told_85 (fun t_4 => ?_)
    refine vt_r (K := 17) t_4 h (fun r_5 t_6 h_7 => ?_)
    obtain ⟨a_8, rfl, h_10⟩ := nn_some h_7
    have t_9 := t_6 _ rfl
    refine cg_11_145 C G t_9 dX11_told_88 ?_
    exact cl_iret ⟨rfl, rfl⟩ rfl C G h_10 dX11_told_91
  rw [if_neg hk3] at h
  by_cases hk4 : x1 = (4:Int32)
  · rw [if_pos hk4] at h
    refine lv_tableIn (tgt := 92) C.1 C.2.1 dX11_told_1 (by rw [hk4]; decide) (by rw [hk4]; decide) (by rw [hk4]; rfl) (by decide) ?_
    refine lv_aload_n C.1 C.2.1 dX11_told_92 rfl (lv_at hl 0 rfl) ?_
    refine cg_11_81 C G ha dX11_told_93 (fun t_11 => ?_)
    have t_11 : (T 47).1 = 21 := by rw [t_11]
    refine cg_11_157 C G t_11 dX11_told_96 (fun t_12 => ?_)
    refine vt_r (K := 17) t_12 h (fun r_13 t_14 h_15 => ?_)
    obtain ⟨a_16, rfl, h_18⟩ := nn_some h_15
    have t_17 := t_14 _ rfl
    refine cg_11_293 C G t_17 dX11_told_99 ?_
    exact cl_iret ⟨rfl, rfl⟩ rfl C G h_18 dX11_told_102
  rw [if_neg hk4] at h
  by_cases hk5 : x1 = (5:Int32)
  · rw [if_pos hk5] at h
    refine lv_tableIn (tgt := 103) C.1 C.2.1 dX11_told_1 (by rw [hk5]; decide) (by rw [hk5]; decide) (by rw [hk5]; rfl) (by decide) ?_
    refine lv_aload_n C.1 C.2.1 dX11_told_103 rfl (lv_at hl 0 rfl) ?_
    refine cg_11_81 C G ha dX11_told_104 (fun t_19 => ?_)
    have t_19 : (T 47).1 = 21 := by rw [t_19]
    refine cg_11_385 C G t_19 dX11_told_107 ?_
    exact cl_iret ⟨rfl, rfl⟩ rfl C G h dX11_told_110
  rw [if_neg hk5] at h
  by_cases hk6 : x1 = (6:Int32)
  · rw [if_pos hk6] at h
    refine lv_tableIn (tgt := 111) C.1 C.2.1 dX11_told_1 (by rw [hk6]; decide) (by rw [hk6]; decide) (by rw [hk6]; rfl) (by decide) ?_
    refine lv_aload_n C.1 C.2.1 dX11_told_111 rfl (lv_at hl 0 rfl) ?_
    refine cg_11_56 C G ha dX11_told_112 (fun t_20 => ?_)
    have t_20 : (T 38).1 = 24 := by rw [t_20]
    refine cg_11_275 C G t_20 dX11_told_115 ?_
    exact cl_iret ⟨rfl, rfl⟩ rfl C G h dX11_told_118
  rw [if_neg hk6] at h
  by_cases hk7 : x1 = (7:Int32)
  · rw [if_pos hk7] at h
    refine lv_tableIn (tgt := 119) C.1 C.2.1 dX11_told_1 (by rw [hk7]; decide) (by rw [hk7]; decide) (by rw [hk7]; rfl) (by decide) ?_
    refine lv_aload_n C.1 C.2.1 dX11_told_119 rfl (lv_at hl 0 rfl) ?_
    refine cg_11_107 C G ha dX11_told_120 ?_
    exact cl_iret ⟨rfl, rfl⟩ rfl C G h dX11_told_123
  rw [if_neg hk7] at h
  by_cases hk8 : x1 = (8:Int32)
  · rw [if_pos hk8] at h
    refine lv_tableIn (tgt := 124) C.1 C.2.1 dX11_told_1 (by rw [hk8]; decide) (by rw [hk8]; decide) (by rw [hk8]; rfl) (by decide) ?_
    refine lv_aload_n C.1 C.2.1 dX11_told_124 rfl (lv_at hl 0 rfl) ?_
    refine cg_11_10 C G ha dX11_told_125 (fun t_21 => ?_)
    have t_21 : (T 1).1 = 20 := by rw [t_21]
    refine cg_11_388 C G t_21 dX11_told_128 ?_
    exact cl_iret ⟨rfl, rfl⟩ rfl C G h dX11_told_131
  rw [if_neg hk8] at h
  refine lv_tableOut (tgt := 132) C.1 C.2.1 dX11_told_1 ?_ (by decide) ?_
  · rcases Int.lt_or_le x1.toInt 0 with q | q
    · exact Or.inl q
    · rcases Int.lt_or_le 8 x1.toInt with q2 | q2
      · exact Or.inr q2
      · exfalso
        have hd : x1.toInt = (0 : Int) ∨ x1.toInt = (1 : Int) ∨ x1.toInt = (2 : Int) ∨ x1.toInt = (3 : Int) ∨ x1.toInt = (4 : Int) ∨ x1.toInt = (5 : Int) ∨ x1.toInt = (6 : Int) ∨ x1.toInt = (7 : Int) ∨ x1.toInt = (8 : Int) := by omega
        rcases hd with e | e | e | e | e | e | e | e | e
        · exact hk0 (Int32.toInt_inj.mp (e.trans (by decide)))
        · exact hk1 (Int32.toInt_inj.mp (e.trans (by decide)))
        · exact hk2 (Int32.toInt_inj.mp (e.trans (by decide)))
        · exact hk3 (Int32.toInt_inj.mp (e.trans (by decide)))
        · exact hk4 (Int32.toInt_inj.mp (e.trans (by decide)))
        · exact hk5 (Int32.toInt_inj.mp (e.trans (by decide)))
        · exact hk6 (Int32.toInt_inj.mp (e.trans (by decide)))
        · exact hk7 (Int32.toInt_inj.mp (e.trans (by decide)))
        · exact hk8 (Int32.toInt_inj.mp (e.trans (by decide)))
  · refine lv_bipush (v := (-2:Int32)) C.1 C.2.1 dX11_told_132 (by decide) ?_
    exact cl_iret ⟨rfl, rfl⟩ rfl C G h dX11_told_134
noncomputable def fc_X11_told (a : Nat) (x1 : Int32) (σ : cl_S) : Option (Int32 × cl_S) := bc_X11_told_0 a x1 σ
theorem kc_X11_told (l : Launch) (D : cl_D) (c0 : Nat) {r : Int32} {a : Nat} {x1 : Int32} {σ σ' : cl_S} (ha : (σ.2.2.2.1 a).1 = 27) (h : fc_X11_told a x1 σ = some (r, σ')) : cl_Met true l D c0 yX11_told cX11_told 2 (some .int) 0 0 [.ref (c0 + a), .int x1] σ (some (.int r)) cl_no σ' :=
  cl_of (by decide) (Nat.le_of_ble_eq_true rfl) (fun p e s m args below meth c ls C hn G hl => wc_X11_told_0 C h G ha hl)
end CQ16
