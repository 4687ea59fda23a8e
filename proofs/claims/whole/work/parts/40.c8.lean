section CQ7
variable {p : Program} {l : Launch} {e : Env} {s : State} {m : MethodId} {args : Array Value} {below : List Frame} {meth : Method} {c : Code} {D : cl_D} {c0 : Nat}
abbrev cX5_begin : ByteArray := prog_7_method_2_code
def yX5_begin : MethodName := ⟨RX5, "begin", "(LPartHouse$Config;)V"⟩
theorem dX5_begin_0 : decode cX5_begin 0 = .ok (.aload_n 0, 1) := by decide +kernel
theorem dX5_begin_1 : decode cX5_begin 1 = .ok (.aload_n 1, 1) := by decide +kernel
theorem dX5_begin_2 : decode cX5_begin 2 = .ok (.putfield 12, 3) := by decide +kernel
theorem dX5_begin_5 : decode cX5_begin 5 = .ok (.iconst 0, 1) := by decide +kernel
theorem dX5_begin_6 : decode cX5_begin 6 = .ok (.istore_n 2, 1) := by decide +kernel
theorem dX5_begin_7 : decode cX5_begin 7 = .ok (.iload_n 2, 1) := by decide +kernel
theorem dX5_begin_8 : decode cX5_begin 8 = .ok (.aload_n 0, 1) := by decide +kernel
theorem dX5_begin_9 : decode cX5_begin 9 = .ok (.getfield 12, 3) := by decide +kernel
theorem dX5_begin_12 : decode cX5_begin 12 = .ok (.getfield 66, 3) := by decide +kernel
theorem dX5_begin_15 : decode cX5_begin 15 = .ok (.if_icmp .ge 27, 3) := by decide +kernel
theorem dX5_begin_18 : decode cX5_begin 18 = .ok (.aload_n 0, 1) := by decide +kernel
theorem dX5_begin_19 : decode cX5_begin 19 = .ok (.getfield 20, 3) := by decide +kernel
theorem dX5_begin_22 : decode cX5_begin 22 = .ok (.iload_n 2, 1) := by decide +kernel
theorem dX5_begin_23 : decode cX5_begin 23 = .ok (.aaload, 1) := by decide +kernel
theorem dX5_begin_24 : decode cX5_begin 24 = .ok (.aload_n 0, 1) := by decide +kernel
theorem dX5_begin_25 : decode cX5_begin 25 = .ok (.getfield 12, 3) := by decide +kernel
theorem dX5_begin_28 : decode cX5_begin 28 = .ok (.getfield 70, 3) := by decide +kernel
theorem dX5_begin_31 : decode cX5_begin 31 = .ok (.iload_n 2, 1) := by decide +kernel
theorem dX5_begin_32 : decode cX5_begin 32 = .ok (.iaload, 1) := by decide +kernel
theorem dX5_begin_33 : decode cX5_begin 33 = .ok (.invokevirtual 73, 3) := by decide +kernel
theorem dX5_begin_36 : decode cX5_begin 36 = .ok (.iinc 2 1, 3) := by decide +kernel
theorem dX5_begin_39 : decode cX5_begin 39 = .ok (.goto (-32), 3) := by decide +kernel
theorem dX5_begin_42 : decode cX5_begin 42 = .ok (.iconst 0, 1) := by decide +kernel
theorem dX5_begin_43 : decode cX5_begin 43 = .ok (.istore_n 2, 1) := by decide +kernel
theorem dX5_begin_44 : decode cX5_begin 44 = .ok (.iload_n 2, 1) := by decide +kernel
theorem dX5_begin_45 : decode cX5_begin 45 = .ok (.bipush 16, 2) := by decide +kernel
theorem dX5_begin_47 : decode cX5_begin 47 = .ok (.if_icmp .ge 39, 3) := by decide +kernel
theorem dX5_begin_50 : decode cX5_begin 50 = .ok (.aload_n 0, 1) := by decide +kernel
theorem dX5_begin_51 : decode cX5_begin 51 = .ok (.getfield 26, 3) := by decide +kernel
theorem dX5_begin_54 : decode cX5_begin 54 = .ok (.iload_n 2, 1) := by decide +kernel
theorem dX5_begin_55 : decode cX5_begin 55 = .ok (.aaload, 1) := by decide +kernel
theorem dX5_begin_56 : decode cX5_begin 56 = .ok (.iconst 0, 1) := by decide +kernel
theorem dX5_begin_57 : decode cX5_begin 57 = .ok (.invokestatic 77, 3) := by decide +kernel
theorem dX5_begin_60 : decode cX5_begin 60 = .ok (.aload_n 0, 1) := by decide +kernel
theorem dX5_begin_61 : decode cX5_begin 61 = .ok (.getfield 29, 3) := by decide +kernel
theorem dX5_begin_64 : decode cX5_begin 64 = .ok (.iload_n 2, 1) := by decide +kernel
theorem dX5_begin_65 : decode cX5_begin 65 = .ok (.iconst 0, 1) := by decide +kernel
theorem dX5_begin_66 : decode cX5_begin 66 = .ok (.iastore, 1) := by decide +kernel
theorem dX5_begin_67 : decode cX5_begin 67 = .ok (.aload_n 0, 1) := by decide +kernel
theorem dX5_begin_68 : decode cX5_begin 68 = .ok (.getfield 35, 3) := by decide +kernel
theorem dX5_begin_71 : decode cX5_begin 71 = .ok (.iload_n 2, 1) := by decide +kernel
theorem dX5_begin_72 : decode cX5_begin 72 = .ok (.aload_n 0, 1) := by decide +kernel
theorem dX5_begin_73 : decode cX5_begin 73 = .ok (.getfield 51, 3) := by decide +kernel
theorem dX5_begin_76 : decode cX5_begin 76 = .ok (.getfield 83, 3) := by decide +kernel
theorem dX5_begin_79 : decode cX5_begin 79 = .ok (.aastore, 1) := by decide +kernel
theorem dX5_begin_80 : decode cX5_begin 80 = .ok (.iinc 2 1, 3) := by decide +kernel
theorem dX5_begin_83 : decode cX5_begin 83 = .ok (.goto (-39), 3) := by decide +kernel
theorem dX5_begin_86 : decode cX5_begin 86 = .ok (.aload_n 0, 1) := by decide +kernel
theorem dX5_begin_87 : decode cX5_begin 87 = .ok (.iconst 0, 1) := by decide +kernel
theorem dX5_begin_88 : decode cX5_begin 88 = .ok (.putfield 89, 3) := by decide +kernel
theorem dX5_begin_91 : decode cX5_begin 91 = .ok (.aload_n 0, 1) := by decide +kernel
theorem dX5_begin_92 : decode cX5_begin 92 = .ok (.iconst 0, 1) := by decide +kernel
theorem dX5_begin_93 : decode cX5_begin 93 = .ok (.putfield 92, 3) := by decide +kernel
theorem dX5_begin_96 : decode cX5_begin 96 = .ok (.aload_n 0, 1) := by decide +kernel
theorem dX5_begin_97 : decode cX5_begin 97 = .ok (.iconst 0, 1) := by decide +kernel
theorem dX5_begin_98 : decode cX5_begin 98 = .ok (.putfield 95, 3) := by decide +kernel
theorem dX5_begin_101 : decode cX5_begin 101 = .ok (.aload_n 0, 1) := by decide +kernel
theorem dX5_begin_102 : decode cX5_begin 102 = .ok (.iconst 0, 1) := by decide +kernel
theorem dX5_begin_103 : decode cX5_begin 103 = .ok (.putfield 98, 3) := by decide +kernel
theorem dX5_begin_106 : decode cX5_begin 106 = .ok (.aload_n 0, 1) := by decide +kernel
theorem dX5_begin_107 : decode cX5_begin 107 = .ok (.iconst 0, 1) := by decide +kernel
theorem dX5_begin_108 : decode cX5_begin 108 = .ok (.putfield 101, 3) := by decide +kernel
theorem dX5_begin_111 : decode cX5_begin 111 = .ok (.aload_n 0, 1) := by decide +kernel
theorem dX5_begin_112 : decode cX5_begin 112 = .ok (.iconst 0, 1) := by decide +kernel
theorem dX5_begin_113 : decode cX5_begin 113 = .ok (.putfield 104, 3) := by decide +kernel
theorem dX5_begin_116 : decode cX5_begin 116 = .ok (.return_, 1) := by decide +kernel
theorem cc_X5_begin : Cond.code yX5_begin cX5_begin 3 none ∈ rf_tb := rf_at 1045 (by decide +kernel) (by decide +kernel)
theorem cw_RX5_73 : cl_wV RX5 RX6 yX6_reset cX6_reset 2 none 73 1 := ⟨⟨rf_at 1046 (by decide +kernel) (by decide +kernel), rf_at 1047 (by decide +kernel) (by decide +kernel), rf_at 1048 (by decide +kernel) (by decide +kernel), cc_X6_reset, rf_at 15 (by decide +kernel) (by decide +kernel)⟩, ⟨by decide, by decide, by decide +kernel⟩⟩
theorem cw_RX5_77 : cl_wS RX5 yJ7_fill_53178 cJ7_fill_53178 4 none 77 2 := ⟨⟨rf_at 1060 (by decide +kernel) (by decide +kernel), rf_at 976 (by decide +kernel) (by decide +kernel), cc_J7_fill_53178, rf_at 18 (by decide +kernel) (by decide +kernel)⟩, ⟨by decide, by decide, by decide +kernel⟩⟩
noncomputable def lc_X5_begin_7 (a : Nat) (x2 : Int32) (σ : cl_S) : Option ((Int32 × cl_S) ⊕ (Int32 × cl_S)) := vl (σ.2.2.1 a 3) (fun r_7 => nn r_7 (fun a_10 => (if (σ.1 a_10 0) ≤ x2 then some (.inr (x2, σ)) else ix x2 8 (vl (σ.2.2.1 (a + 12 + cl_md a) x2.toNatClampNeg) (fun r_16 => vl (σ.2.2.1 a 3) (fun r_20 => nn r_20 (fun a_23 => ix x2 8 (nn r_16 (fun a_28 => bd1 (fc_X6_reset a_28 (σ.1 (a_23 + 2) x2.toNatClampNeg) σ) (fun σ_31 => vl (x2 + (1:Int32)) (fun x2_36 => some (.inl (x2_36, σ_31)))))))))))))
noncomputable def lc_X5_begin_44 (a : Nat) (x2 : Int32) (σ : cl_S) : Option ((Int32 × cl_S) ⊕ (Int32 × cl_S)) := (if (16:Int32) ≤ x2 then some (.inr (x2, σ)) else ix x2 16 (vl (σ.2.2.1 (a + 13 + cl_md a) x2.toNatClampNeg) (fun r_43 => bd1 (fc_J7_fill_53178 r_43 (0:Int32) σ) (fun σ_46 => ix x2 16 (vl (cl_w σ_46 (a + 30 + cl_md a) x2.toNatClampNeg (0:Int32)) (fun σ_52 => vl (σ_52.2.2.1 31 4) (fun r_60 => ix x2 16 (vl (cl_wr σ_52 (a + 31 + cl_md a) x2.toNatClampNeg r_60) (fun σ_63 => vl (x2 + (1:Int32)) (fun x2_68 => some (.inl (x2_68, σ_63))))))))))))
noncomputable def ec_X5_begin_44 (a : Nat) (x2 : Int32) (σ : cl_S) : Option (cl_S) := vl (cl_w σ a 9 (0:Int32)) (fun σ_71 => vl (cl_w σ_71 a 10 (0:Int32)) (fun σ_75 => vl (cl_w σ_75 a 11 (0:Int32)) (fun σ_79 => vl (cl_w σ_79 a 12 (0:Int32)) (fun σ_83 => vl (cl_w σ_83 a 13 (0:Int32)) (fun σ_87 => vl (cl_w σ_87 a 15 (0:Int32)) (fun σ_91 => some σ_91))))))
noncomputable def bc_X5_begin_44 (a : Nat) (x2 : Int32) (σ : cl_S) : Option (cl_S) := (lp (fun z : (Int32 × cl_S) => lc_X5_begin_44 a z.1 z.2) (x2, σ)).bind (fun z => ec_X5_begin_44 a z.1 z.2)
set_option maxHeartbeats 4000000 in
theorem wc_X5_begin_44 (C : cl_C D p s m args meth c cX5_begin 3 none RX5) {a : Nat} {x2 : Int32} {σ0 σ σ' : cl_S} {T : Nat → Nat × Nat} {H : Heap} {locs : List Loc} {ls : Array Slot} {cells slots : Nat} (h : bc_X5_begin_44 a x2 σ = some σ') (G : cl_G true D c0 ({ frames := 3, cells := σ0.2.2.2.2.2.1, slots := σ0.2.2.2.2.2.2, locals := 65 }) s σ0.2.2.2.1 T σ H locs cells slots) (ha : (T a).1 = 21) (hl : lv_has ls 3 [(0, .ref (c0 + a)), (2, .int x2)]) : W p l e ({ frames := 3, cells := σ0.2.2.2.2.2.1, slots := σ0.2.2.2.2.2.2, locals := 65 }) s m args below meth c H locs cells slots (MQ below (cl_Q true D c0 none cl_no σ0 σ') args s (σ0.2.2.2.2.2.1 - σ'.2.2.2.2.2.1) (σ0.2.2.2.2.2.2 - σ'.2.2.2.2.2.2) (cl_A c0 σ0.2.2.2.1 s.heap.size)) (F0 m 44 ls []) := by
  unfold bc_X5_begin_44 at h
  obtain ⟨y, hy, h⟩ := bd_some h
  have hE : (fun z : (Int32 × cl_S) => ∀ (T : Nat → Nat × Nat) (H : Heap) (locs : List Loc) (ls : Array Slot) (cells slots : Nat), cl_G true D c0 ({ frames := 3, cells := σ0.2.2.2.2.2.1, slots := σ0.2.2.2.2.2.2, locals := 65 }) s σ0.2.2.2.1 T z.2 H locs cells slots → (T a).1 = 21 → lv_has ls 3 [(0, .ref (c0 + a)), (2, .int (z.1))] → W p l e ({ frames := 3, cells := σ0.2.2.2.2.2.1, slots := σ0.2.2.2.2.2.2, locals := 65 }) s m args below meth c H locs cells slots (MQ below (cl_Q true D c0 none cl_no σ0 σ') args s (σ0.2.2.2.2.2.1 - σ'.2.2.2.2.2.1) (σ0.2.2.2.2.2.2 - σ'.2.2.2.2.2.2) (cl_A c0 σ0.2.2.2.1 s.heap.size)) (F0 m 86 ls [])) y := by
    clear hy G ha hl
    intro T H locs ls cells slots G ha hl
    obtain ⟨x2, σ⟩ := y
    dsimp only at h G ha hl
    unfold ec_X5_begin_44 at h
    refine lv_aload_n C.1 C.2.1 dX5_begin_86 rfl (lv_at hl 0 rfl) ?_
    refine lv_iconst (v := (0:Int32)) C.1 C.2.1 dX5_begin_87 (by decide) ?_
    refine cp_5_89 C G ha dX5_begin_88 (fun H locs G_72 => ?_)
    refine cl_nm G_72 h (fun σ_71 G_73 h_74 => ?_)
    refine lv_aload_n C.1 C.2.1 dX5_begin_91 rfl (lv_at hl 0 rfl) ?_
    refine lv_iconst (v := (0:Int32)) C.1 C.2.1 dX5_begin_92 (by decide) ?_
    refine cp_5_92 C G_73 ha dX5_begin_93 (fun H locs G_76 => ?_)
    refine cl_nm G_76 h_74 (fun σ_75 G_77 h_78 => ?_)
    refine lv_aload_n C.1 C.2.1 dX5_begin_96 rfl (lv_at hl 0 rfl) ?_
    refine lv_iconst (v := (0:Int32)) C.1 C.2.1 dX5_begin_97 (by decide) ?_
    refine cp_5_95 C G_77 ha dX5_begin_98 (fun H locs G_80 => ?_)
    refine cl_nm G_80 h_78 (fun σ_79 G_81 h_82 => ?_)
    refine lv_aload_n C.1 C.2.1 dX5_begin_101 rfl (lv_at hl 0 rfl) ?_
    refine lv_iconst (v := (0:Int32)) C.1 C.2.1 dX5_begin_102 (by decide) ?_
    refine cp_5_98 C G_81 ha rfl rfl dX5_begin_103 (fun H locs G_84 => ?_)
    refine cl_nm G_84 h_82 (fun σ_83 G_85 h_86 => ?_)
    refine lv_aload_n C.1 C.2.1 dX5_begin_106 rfl (lv_at hl 0 rfl) ?_
    refine lv_iconst (v := (0:Int32)) C.1 C.2.1 dX5_begin_107 (by decide) ?_
    refine cp_5_101 C G_85 ha dX5_begin_108 (fun H locs G_88 => ?_)
    refine cl_nm G_88 h_86 (fun σ_87 G_89 h_90 => ?_)
    refine lv_aload_n C.1 C.2.1 dX5_begin_111 rfl (lv_at hl 0 rfl) ?_
    refine lv_iconst (v := (0:Int32)) C.1 C.2.1 dX5_begin_112 (by decide) ?_
    refine cp_5_104 C G_89 ha dX5_begin_113 (fun H locs G_92 => ?_)
    refine cl_nm G_92 h_90 (fun σ_91 G_93 h_94 => ?_)
    exact cl_vret ⟨rfl, rfl⟩ rfl C G_93 h_94 dX5_begin_116
  refine lp_recE (fun z : (Int32 × cl_S) => ∀ (T : Nat → Nat × Nat) (H : Heap) (locs : List Loc) (ls : Array Slot) (cells slots : Nat), cl_G true D c0 ({ frames := 3, cells := σ0.2.2.2.2.2.1, slots := σ0.2.2.2.2.2.2, locals := 65 }) s σ0.2.2.2.1 T z.2 H locs cells slots → (T a).1 = 21 → lv_has ls 3 [(0, .ref (c0 + a)), (2, .int (z.1))] → W p l e ({ frames := 3, cells := σ0.2.2.2.2.2.1, slots := σ0.2.2.2.2.2.2, locals := 65 }) s m args below meth c H locs cells slots (MQ below (cl_Q true D c0 none cl_no σ0 σ') args s (σ0.2.2.2.2.2.1 - σ'.2.2.2.2.2.1) (σ0.2.2.2.2.2.2 - σ'.2.2.2.2.2.2) (cl_A c0 σ0.2.2.2.1 s.heap.size)) (F0 m 44 ls [])) (fun z : (Int32 × cl_S) => ∀ (T : Nat → Nat × Nat) (H : Heap) (locs : List Loc) (ls : Array Slot) (cells slots : Nat), cl_G true D c0 ({ frames := 3, cells := σ0.2.2.2.2.2.1, slots := σ0.2.2.2.2.2.2, locals := 65 }) s σ0.2.2.2.1 T z.2 H locs cells slots → (T a).1 = 21 → lv_has ls 3 [(0, .ref (c0 + a)), (2, .int (z.1))] → W p l e ({ frames := 3, cells := σ0.2.2.2.2.2.1, slots := σ0.2.2.2.2.2.2, locals := 65 }) s m args below meth c H locs cells slots (MQ below (cl_Q true D c0 none cl_no σ0 σ') args s (σ0.2.2.2.2.2.1 - σ'.2.2.2.2.2.1) (σ0.2.2.2.2.2.2 - σ'.2.2.2.2.2.2) (cl_A c0 σ0.2.2.2.1 s.heap.size)) (F0 m 86 ls [])) ?_ _ _ hy hE _ _ _ _ _ _ G ha hl
  clear hE hy G ha hl h
  intro z o h hP T H locs ls cells slots G ha hl
  obtain ⟨x2, σ⟩ := z
  dsimp only at h G ha hl
  unfold lc_X5_begin_44 at h
  refine lv_iload_n C.1 C.2.1 dX5_begin_44 rfl (lv_at hl 1 rfl) ?_
  refine lv_bipush (v := (16:Int32)) C.1 C.2.1 dX5_begin_45 (by decide) ?_
  refine lv_icmp_ge (tgt := 86) C.1 C.2.1 dX5_begin_47 (by decide) (fun hc => ?_) (fun hc => ?_)
  · rw [if_pos hc] at h
    cases h
    exact hP _ _ _ _ _ _ G ha (lv_sub hl [0, 1] rfl)
  · rw [if_neg hc] at h
    refine lv_aload_n C.1 C.2.1 dX5_begin_50 rfl (lv_at hl 0 rfl) ?_
    refine cg_5_26 C G ha dX5_begin_51 (fun t_40 => ?_)
    refine lv_iload_n C.1 C.2.1 dX5_begin_54 rfl (lv_at hl 1 rfl) ?_
    obtain ⟨hi, h_41⟩ := ix_some h
    refine cl_aald C G t_40 (by decide) (by decide) rfl hi dX5_begin_55 (fun t_42 => ?_)
    refine vt_r (K := 1) t_42 h_41 (fun r_43 t_44 h_45 => ?_)
    refine lv_iconst (v := (0:Int32)) C.1 C.2.1 dX5_begin_56 (by decide) ?_
    obtain ⟨σ_46, hq, h_47⟩ := bd1_some h_45
    refine cl_callS (rest := []) C G cw_RX5_77 [cl_rf c0 r_43, .int (0:Int32)] _ (kc_J7_fill_53178 l D c0 hq (by rw [G.1]; exact t_44)) (Nat.le_of_ble_eq_true rfl) (Nat.le_of_ble_eq_true rfl) rfl rfl hl.1 (Nat.le_of_ble_eq_true rfl) dX5_begin_57 (fun T_48 H locs cells slots t_49 hu G_50 => ?_)
    have ha := hu.kind ha (by decide)
    refine W.eq (g2 := F0 m 60 ls []) rfl ?_
    refine lv_aload_n C.1 C.2.1 dX5_begin_60 rfl (lv_at hl 0 rfl) ?_
    refine cg_5_29 C G_50 ha dX5_begin_61 (fun t_51 => ?_)
    refine lv_iload_n C.1 C.2.1 dX5_begin_64 rfl (lv_at hl 1 rfl) ?_
    refine lv_iconst (v := (0:Int32)) C.1 C.2.1 dX5_begin_65 (by decide) ?_
    obtain ⟨hi, h_53⟩ := ix_some h_47
    refine cl_iast C G_50 t_51 hi dX5_begin_66 (fun H locs G_54 => ?_)
    refine cl_nm G_54 h_53 (fun σ_52 G_55 h_56 => ?_)
    refine lv_aload_n C.1 C.2.1 dX5_begin_67 rfl (lv_at hl 0 rfl) ?_
    refine cg_5_35 C G_55 ha dX5_begin_68 (fun t_57 => ?_)
    refine lv_iload_n C.1 C.2.1 dX5_begin_71 rfl (lv_at hl 1 rfl) ?_
    refine lv_aload_n C.1 C.2.1 dX5_begin_72 rfl (lv_at hl 0 rfl) ?_
    refine cg_5_51 C G_55 ha dX5_begin_73 (fun t_58 => ?_)
    have t_58 : (T_48 31).1 = 26 := by rw [t_58]
    refine cg_5_83 C G_55 t_58 dX5_begin_76 (fun t_59 => ?_)
    refine vt_r (K := 25) t_59 h_56 (fun r_60 t_61 h_62 => ?_)
    obtain ⟨hi, h_64⟩ := ix_some h_62
    refine cl_aast (ci := 9) (x := r_60) C G_55 rfl rfl rfl t_57 (by decide) (by decide) t_61 hi dX5_begin_79 (fun H locs G_65 => ?_)
    refine cl_nm G_65 h_64 (fun σ_63 G_66 h_67 => ?_)
    refine vl_ex h_67 (fun x2_68 ey h_69 => ?_)
    refine lv_iinc (v := x2_68) (lv' := [(2, .int x2_68), (0, .ref (c0 + a))]) C.1 C.2.1 dX5_begin_80 hl (k := 1) rfl (by rw [ey]; rfl) (by decide) rfl (fun ls hl_70 => ?_)
    refine lv_goto (tgt := 44) C.1 C.2.1 dX5_begin_83 (by decide) ?_
    cases h_69
    exact hP _ _ _ _ _ _ G_66 ha (lv_sub hl_70 [1, 0] rfl)
noncomputable def ec_X5_begin_7 (a : Nat) (x2 : Int32) (σ : cl_S) : Option (cl_S) := bc_X5_begin_44 a (0:Int32) σ
noncomputable def bc_X5_begin_7 (a : Nat) (x2 : Int32) (σ : cl_S) : Option (cl_S) := (lp (fun z : (Int32 × cl_S) => lc_X5_begin_7 a z.1 z.2) (x2, σ)).bind (fun z => ec_X5_begin_7 a z.1 z.2)
set_option maxHeartbeats 4000000 in
theorem wc_X5_begin_7 (C : cl_C D p s m args meth c cX5_begin 3 none RX5) {a : Nat} {x2 : Int32} {σ0 σ σ' : cl_S} {T : Nat → Nat × Nat} {H : Heap} {locs : List Loc} {ls : Array Slot} {cells slots : Nat} (h : bc_X5_begin_7 a x2 σ = some σ') (G : cl_G true D c0 ({ frames := 3, cells := σ0.2.2.2.2.2.1, slots := σ0.2.2.2.2.2.2, locals := 65 }) s σ0.2.2.2.1 T σ H locs cells slots) (ha : (T a).1 = 21) (hl : lv_has ls 3 [(0, .ref (c0 + a)), (2, .int x2)]) : W p l e ({ frames := 3, cells := σ0.2.2.2.2.2.1, slots := σ0.2.2.2.2.2.2, locals := 65 }) s m args below meth c H locs cells slots (MQ below (cl_Q true D c0 none cl_no σ0 σ') args s (σ0.2.2.2.2.2.1 - σ'.2.2.2.2.2.1) (σ0.2.2.2.2.2.2 - σ'.2.2.2.2.2.2) (cl_A c0 σ0.2.2.2.1 s.heap.size)) (F0 m 7 ls []) := by
  unfold bc_X5_begin_7 at h
  obtain ⟨y, hy, h⟩ := bd_some h
  have hE : (fun z : (Int32 × cl_S) => ∀ (T : Nat → Nat × Nat) (H : Heap) (locs : List Loc) (ls : Array Slot) (cells slots : Nat), cl_G true D c0 ({ frames := 3, cells := σ0.2.2.2.2.2.1, slots := σ0.2.2.2.2.2.2, locals := 65 }) s σ0.2.2.2.1 T z.2 H locs cells slots → (T a).1 = 21 → lv_has ls 3 [(0, .ref (c0 + a)), (2, .int (z.1))] → W p l e ({ frames := 3, cells := σ0.2.2.2.2.2.1, slots := σ0.2.2.2.2.2.2, locals := 65 }) s m args below meth c H locs cells slots (MQ below (cl_Q true D c0 none cl_no σ0 σ') args s (σ0.2.2.2.2.2.1 - σ'.2.2.2.2.2.1) (σ0.2.2.2.2.2.2 - σ'.2.2.2.2.2.2) (cl_A c0 σ0.2.2.2.1 s.heap.size)) (F0 m 42 ls [])) y := by
    clear hy G ha hl
    intro T H locs ls cells slots G ha hl
    obtain ⟨x2, σ⟩ := y
    dsimp only at h G ha hl
    unfold ec_X5_begin_7 at h
    refine lv_iconst (v := (0:Int32)) C.1 C.2.1 dX5_begin_42 (by decide) ?_
    refine lv_istore_n (lv' := [(2, .int (0:Int32)), (0, .ref (c0 + a))]) C.1 C.2.1 dX5_begin_43 rfl hl (by decide) rfl (fun ls hl_39 => ?_)
    exact wc_X5_begin_44 C h G ha (lv_sub hl_39 [1, 0] rfl)
  refine lp_recE (fun z : (Int32 × cl_S) => ∀ (T : Nat → Nat × Nat) (H : Heap) (locs : List Loc) (ls : Array Slot) (cells slots : Nat), cl_G true D c0 ({ frames := 3, cells := σ0.2.2.2.2.2.1, slots := σ0.2.2.2.2.2.2, locals := 65 }) s σ0.2.2.2.1 T z.2 H locs cells slots → (T a).1 = 21 → lv_has ls 3 [(0, .ref (c0 + a)), (2, .int (z.1))] → W p l e ({ frames := 3, cells := σ0.2.2.2.2.2.1, slots := σ0.2.2.2.2.2.2, locals := 65 }) s m args below meth c H locs cells slots (MQ below (cl_Q true D c0 none cl_no σ0 σ') args s (σ0.2.2.2.2.2.1 - σ'.2.2.2.2.2.1) (σ0.2.2.2.2.2.2 - σ'.2.2.2.2.2.2) (cl_A c0 σ0.2.2.2.1 s.heap.size)) (F0 m 7 ls [])) (fun z : (Int32 × cl_S) => ∀ (T : Nat → Nat × Nat) (H : Heap) (locs : List Loc) (ls : Array Slot) (cells slots : Nat), cl_G true D c0 ({ frames := 3, cells := σ0.2.2.2.2.2.1, slots := σ0.2.2.2.2.2.2, locals := 65 }) s σ0.2.2.2.1 T z.2 H locs cells slots → (T a).1 = 21 → lv_has ls 3 [(0, .ref (c0 + a)), (2, .int (z.1))] → W p l e ({ frames := 3, cells := σ0.2.2.2.2.2.1, slots := σ0.2.2.2.2.2.2, locals := 65 }) s m args below meth c H locs cells slots (MQ below (cl_Q true D c0 none cl_no σ0 σ') args s (σ0.2.2.2.2.2.1 - σ'.2.2.2.2.2.1) (σ0.2.2.2.2.2.2 - σ'.2.2.2.2.2.2) (cl_A c0 σ0.2.2.2.1 s.heap.size)) (F0 m 42 ls [])) ?_ _ _ hy hE _ _ _ _ _ _ G ha hl
  clear hE hy G ha hl h
  intro z o h hP T H locs ls cells slots G ha hl
  obtain ⟨x2, σ⟩ := z
  dsimp only at h G ha hl
  unfold lc_X5_begin_7 at h
  refine lv_iload_n C.1 C.2.1 dX5_begin_7 rfl (lv_at hl 1 rfl) ?_
  refine lv_aload_n C.1 C.2.1 dX5_begin_8 rfl (lv_at hl 0 rfl) ?_
  refine cg_5_12 C G ha dX5_begin_9 (fun t_6 => ?_)
  refine vt_r (K := 17) t_6 h (fun r_7 t_8 h_9 => ?_)
  obtain ⟨a_10, rfl, h_12⟩ := nn_some h_9
  have t_11 := t_8 _ rfl
  refine cg_5_66 C G t_11 dX5_begin_12 ?_
  refine lv_icmp_ge (tgt := 42) C.1 C.2.1 dX5_begin_15 (by decide) (fun hc => ?_) (fun hc => ?_)
  · rw [if_pos hc] at h_12
    cases h_12
    exact hP _ _ _ _ _ _ G ha (lv_sub hl [0, 1] rfl)
  · rw [if_neg hc] at h_12
    refine lv_aload_n C.1 C.2.1 dX5_begin_18 rfl (lv_at hl 0 rfl) ?_
    refine cg_5_20 C G ha dX5_begin_19 (fun t_13 => ?_)
    refine lv_iload_n C.1 C.2.1 dX5_begin_22 rfl (lv_at hl 1 rfl) ?_
    obtain ⟨hi, h_14⟩ := ix_some h_12
    refine cl_aald C G t_13 (by decide) (by decide) rfl hi dX5_begin_23 (fun t_15 => ?_)
    refine vt_r (K := 22) t_15 h_14 (fun r_16 t_17 h_18 => ?_)
    refine lv_aload_n C.1 C.2.1 dX5_begin_24 rfl (lv_at hl 0 rfl) ?_
    refine cg_5_12 C G ha dX5_begin_25 (fun t_19 => ?_)
    refine vt_r (K := 17) t_19 h_18 (fun r_20 t_21 h_22 => ?_)
    obtain ⟨a_23, rfl, h_25⟩ := nn_some h_22
    have t_24 := t_21 _ rfl
    refine cg_5_70 C G t_24 dX5_begin_28 (fun t_26 => ?_)
    refine lv_iload_n C.1 C.2.1 dX5_begin_31 rfl (lv_at hl 1 rfl) ?_
    obtain ⟨hi, h_27⟩ := ix_some h_25
    refine cl_iald C G t_26 hi dX5_begin_32 ?_
    obtain ⟨a_28, rfl, h_30⟩ := nn_some h_27
    have t_29 := t_17 _ rfl
    obtain ⟨σ_31, hq, h_32⟩ := bd1_some h_30
    refine cl_callV (ci := 6) (rest := []) C G rfl t_29 cw_RX5_73 [.int (σ.1 (a_23 + 2) x2.toNatClampNeg)] _ (kc_X6_reset l D c0 (by rw [G.1]; exact t_29) hq) (Nat.le_of_ble_eq_true rfl) (Nat.le_of_ble_eq_true rfl) rfl rfl hl.1 (Nat.le_of_ble_eq_true rfl) dX5_begin_33 (fun T_33 H locs cells slots t_34 hu G_35 => ?_)
    have ha := hu.kind ha (by decide)
    refine W.eq (g2 := F0 m 36 ls []) rfl ?_
    refine vl_ex h_32 (fun x2_36 ey h_37 => ?_)
    refine lv_iinc (v := x2_36) (lv' := [(2, .int x2_36), (0, .ref (c0 + a))]) C.1 C.2.1 dX5_begin_36 hl (k := 1) rfl (by rw [ey]; rfl) (by decide) rfl (fun ls hl_38 => ?_)
    refine lv_goto (tgt := 7) C.1 C.2.1 dX5_begin_39 (by decide) ?_
    cases h_37
    exact hP _ _ _ _ _ _ G_35 ha (lv_sub hl_38 [1, 0] rfl)
noncomputable def bc_X5_begin_0 (a : Nat) (x1 : (Option Nat)) (σ : cl_S) : Option (cl_S) := vl (cl_wr σ a 3 x1) (fun σ_1 => bc_X5_begin_7 a (0:Int32) σ_1)
set_option maxHeartbeats 4000000 in
theorem wc_X5_begin_0 (C : cl_C D p s m args meth c cX5_begin 3 none RX5) {a : Nat} {x1 : (Option Nat)} {σ0 σ σ' : cl_S} {T : Nat → Nat × Nat} {H : Heap} {locs : List Loc} {ls : Array Slot} {cells slots : Nat} (h : bc_X5_begin_0 a x1 σ = some σ') (G : cl_G true D c0 ({ frames := 3, cells := σ0.2.2.2.2.2.1, slots := σ0.2.2.2.2.2.2, locals := 65 }) s σ0.2.2.2.1 T σ H locs cells slots) (ha : (T a).1 = 21) (f1 : cl_RT T x1 17) (hl : lv_has ls 3 [(0, .ref (c0 + a)), (1, cl_rf c0 x1)]) : W p l e ({ frames := 3, cells := σ0.2.2.2.2.2.1, slots := σ0.2.2.2.2.2.2, locals := 65 }) s m args below meth c H locs cells slots (MQ below (cl_Q true D c0 none cl_no σ0 σ') args s (σ0.2.2.2.2.2.1 - σ'.2.2.2.2.2.1) (σ0.2.2.2.2.2.2 - σ'.2.2.2.2.2.2) (cl_A c0 σ0.2.2.2.1 s.heap.size)) (F0 m 0 ls []) := by
  unfold bc_X5_begin_0 at h
  refine lv_aload_n C.1 C.2.1 dX5_begin_0 rfl (lv_at hl 0 rfl) ?_
  refine cl_aload_n C.1 C.2.1 dX5_begin_1 rfl (lv_at hl 1 rfl) ?_
  refine cp_5_12 (x := x1) C G ha f1 dX5_begin_2 (fun H locs G_2 => ?_)
  refine cl_nm G_2 h (fun σ_1 G_3 h_4 => ?_)
  refine lv_iconst (v := (0:Int32)) C.1 C.2.1 dX5_begin_5 (by decide) ?_
  refine lv_istore_n (lv' := [(2, .int (0:Int32)), (0, .ref (c0 + a)), (1, cl_rf c0 x1)]) C.1 C.2.1 dX5_begin_6 rfl hl (by decide) (by first | rfl | (cases x1 <;> rfl)) (fun ls hl_5 => ?_)
  exact wc_X5_begin_7 C h_4 G_3 ha (lv_sub hl_5 [1, 0] rfl)
noncomputable def fc_X5_begin (a : Nat) (x1 : (Option Nat)) (σ : cl_S) : Option (cl_S) := bc_X5_begin_0 a x1 σ
theorem kc_X5_begin (l : Launch) (D : cl_D) (c0 : Nat) {a : Nat} {x1 : (Option Nat)} {σ σ' : cl_S} (ha : (σ.2.2.2.1 a).1 = 21) (h : fc_X5_begin a x1 σ = some σ') (f1 : cl_RT σ.2.2.2.1 x1 17) : cl_Met true l D c0 yX5_begin cX5_begin 3 none 3 65 [.ref (c0 + a), cl_rf c0 x1] σ none cl_no σ' :=
  by cases x1 <;> exact cl_of (by decide) (Nat.le_of_ble_eq_true rfl) (fun p e s m args below meth c ls C hn G hl => wc_X5_begin_0 C h G ha f1 hl)
abbrev cX5_noteInput : ByteArray := prog_7_method_3_code
def yX5_noteInput : MethodName := ⟨RX5, "noteInput", "(IILPartHouse$Term;)V"⟩
theorem dX5_noteInput_0 : decode cX5_noteInput 0 = .ok (.aload_n 0, 1) := by decide +kernel
theorem dX5_noteInput_1 : decode cX5_noteInput 1 = .ok (.getfield 104, 3) := by decide +kernel
theorem dX5_noteInput_4 : decode cX5_noteInput 4 = .ok (.sipush 500, 3) := by decide +kernel
theorem dX5_noteInput_7 : decode cX5_noteInput 7 = .ok (.if_icmp .ge 46, 3) := by decide +kernel
theorem dX5_noteInput_10 : decode cX5_noteInput 10 = .ok (.aload_n 0, 1) := by decide +kernel
theorem dX5_noteInput_11 : decode cX5_noteInput 11 = .ok (.getfield 39, 3) := by decide +kernel
theorem dX5_noteInput_14 : decode cX5_noteInput 14 = .ok (.aload_n 0, 1) := by decide +kernel
theorem dX5_noteInput_15 : decode cX5_noteInput 15 = .ok (.getfield 104, 3) := by decide +kernel
theorem dX5_noteInput_18 : decode cX5_noteInput 18 = .ok (.aload_n 0, 1) := by decide +kernel
theorem dX5_noteInput_19 : decode cX5_noteInput 19 = .ok (.getfield 89, 3) := by decide +kernel
theorem dX5_noteInput_22 : decode cX5_noteInput 22 = .ok (.iastore, 1) := by decide +kernel
theorem dX5_noteInput_23 : decode cX5_noteInput 23 = .ok (.aload_n 0, 1) := by decide +kernel
theorem dX5_noteInput_24 : decode cX5_noteInput 24 = .ok (.getfield 42, 3) := by decide +kernel
theorem dX5_noteInput_27 : decode cX5_noteInput 27 = .ok (.aload_n 0, 1) := by decide +kernel
theorem dX5_noteInput_28 : decode cX5_noteInput 28 = .ok (.getfield 104, 3) := by decide +kernel
theorem dX5_noteInput_31 : decode cX5_noteInput 31 = .ok (.iload_n 1, 1) := by decide +kernel
theorem dX5_noteInput_32 : decode cX5_noteInput 32 = .ok (.iastore, 1) := by decide +kernel
theorem dX5_noteInput_33 : decode cX5_noteInput 33 = .ok (.aload_n 0, 1) := by decide +kernel
theorem dX5_noteInput_34 : decode cX5_noteInput 34 = .ok (.getfield 45, 3) := by decide +kernel
theorem dX5_noteInput_37 : decode cX5_noteInput 37 = .ok (.aload_n 0, 1) := by decide +kernel
theorem dX5_noteInput_38 : decode cX5_noteInput 38 = .ok (.getfield 104, 3) := by decide +kernel
theorem dX5_noteInput_41 : decode cX5_noteInput 41 = .ok (.iload_n 2, 1) := by decide +kernel
theorem dX5_noteInput_42 : decode cX5_noteInput 42 = .ok (.iastore, 1) := by decide +kernel
theorem dX5_noteInput_43 : decode cX5_noteInput 43 = .ok (.aload_n 0, 1) := by decide +kernel
theorem dX5_noteInput_44 : decode cX5_noteInput 44 = .ok (.getfield 48, 3) := by decide +kernel
theorem dX5_noteInput_47 : decode cX5_noteInput 47 = .ok (.aload_n 0, 1) := by decide +kernel
theorem dX5_noteInput_48 : decode cX5_noteInput 48 = .ok (.getfield 104, 3) := by decide +kernel
theorem dX5_noteInput_51 : decode cX5_noteInput 51 = .ok (.aload_n 3, 1) := by decide +kernel
theorem dX5_noteInput_52 : decode cX5_noteInput 52 = .ok (.aastore, 1) := by decide +kernel
theorem dX5_noteInput_53 : decode cX5_noteInput 53 = .ok (.aload_n 0, 1) := by decide +kernel
theorem dX5_noteInput_54 : decode cX5_noteInput 54 = .ok (.dup, 1) := by decide +kernel
theorem dX5_noteInput_55 : decode cX5_noteInput 55 = .ok (.getfield 104, 3) := by decide +kernel
theorem dX5_noteInput_58 : decode cX5_noteInput 58 = .ok (.iconst 1, 1) := by decide +kernel
theorem dX5_noteInput_59 : decode cX5_noteInput 59 = .ok (.iadd, 1) := by decide +kernel
theorem dX5_noteInput_60 : decode cX5_noteInput 60 = .ok (.putfield 104, 3) := by decide +kernel
theorem dX5_noteInput_63 : decode cX5_noteInput 63 = .ok (.return_, 1) := by decide +kernel
theorem cc_X5_noteInput : Cond.code yX5_noteInput cX5_noteInput 4 none ∈ rf_tb := rf_at 1345 (by decide +kernel) (by decide +kernel)
noncomputable def bc_X5_noteInput_53 (a : Nat) (σ : cl_S) : Option (cl_S) := vl (cl_w σ a 15 ((σ.1 a 15) + (1:Int32))) (fun σ_1 => some σ_1)
set_option maxHeartbeats 4000000 in
theorem wc_X5_noteInput_53 (C : cl_C D p s m args meth c cX5_noteInput 4 none RX5) {a : Nat} {σ0 σ σ' : cl_S} {T : Nat → Nat × Nat} {H : Heap} {locs : List Loc} {ls : Array Slot} {cells slots : Nat} (h : bc_X5_noteInput_53 a σ = some σ') (G : cl_G true D c0 ({ frames := 0, cells := σ0.2.2.2.2.2.1, slots := σ0.2.2.2.2.2.2, locals := 0 }) s σ0.2.2.2.1 T σ H locs cells slots) (ha : (T a).1 = 21) (hl : lv_has ls 4 [(0, .ref (c0 + a))]) : W p l e ({ frames := 0, cells := σ0.2.2.2.2.2.1, slots := σ0.2.2.2.2.2.2, locals := 0 }) s m args below meth c H locs cells slots (MQ below (cl_Q true D c0 none cl_no σ0 σ') args s (σ0.2.2.2.2.2.1 - σ'.2.2.2.2.2.1) (σ0.2.2.2.2.2.2 - σ'.2.2.2.2.2.2) (cl_A c0 σ0.2.2.2.1 s.heap.size)) (F0 m 53 ls []) := by
  unfold bc_X5_noteInput_53 at h
  refine lv_aload_n C.1 C.2.1 dX5_noteInput_53 rfl (lv_at hl 0 rfl) ?_
  refine lv_dup C.1 C.2.1 dX5_noteInput_54 rfl ?_
  refine cg_5_104 C G ha dX5_noteInput_55 ?_
  refine lv_iconst (v := (1:Int32)) C.1 C.2.1 dX5_noteInput_58 (by decide) ?_
  refine lv_iadd C.1 C.2.1 dX5_noteInput_59 ?_
  refine cp_5_104 C G ha dX5_noteInput_60 (fun H locs G_2 => ?_)
  refine cl_nm G_2 h (fun σ_1 G_3 h_4 => ?_)
  exact cl_vret ⟨rfl, rfl⟩ rfl C G_3 h_4 dX5_noteInput_63
noncomputable def bc_X5_noteInput_0 (a : Nat) (x1 : Int32) (x2 : Int32) (x3 : (Option Nat)) (σ : cl_S) : Option (cl_S) := (if (500:Int32) ≤ (σ.1 a 15) then bc_X5_noteInput_53 a σ else ix (σ.1 a 15) 500 (vl (cl_w σ (a + 32 + cl_md a) (σ.1 a 15).toNatClampNeg (σ.1 a 9)) (fun σ_6 => ix (σ_6.1 a 15) 500 (vl (cl_w σ_6 (a + 33 + cl_md a) (σ_6.1 a 15).toNatClampNeg x1) (fun σ_12 => ix (σ_12.1 a 15) 500 (vl (cl_w σ_12 (a + 34 + cl_md a) (σ_12.1 a 15).toNatClampNeg x2) (fun σ_18 => ix (σ_18.1 a 15) 500 (vl (cl_wr σ_18 (a + 35 + cl_md a) (σ_18.1 a 15).toNatClampNeg x3) (fun σ_24 => bc_X5_noteInput_53 a σ_24)))))))))
set_option maxHeartbeats 4000000 in
theorem wc_X5_noteInput_0 (C : cl_C D p s m args meth c cX5_noteInput 4 none RX5) {a : Nat} {x1 : Int32} {x2 : Int32} {x3 : (Option Nat)} {σ0 σ σ' : cl_S} {T : Nat → Nat × Nat} {H : Heap} {locs : List Loc} {ls : Array Slot} {cells slots : Nat} (h : bc_X5_noteInput_0 a x1 x2 x3 σ = some σ') (G : cl_G true D c0 ({ frames := 0, cells := σ0.2.2.2.2.2.1, slots := σ0.2.2.2.2.2.2, locals := 0 }) s σ0.2.2.2.1 T σ H locs cells slots) (ha : (T a).1 = 21) (f3 : cl_RT T x3 25) (hl : lv_has ls 4 [(0, .ref (c0 + a)), (1, .int x1), (2, .int x2), (3, cl_rf c0 x3)]) : W p l e ({ frames := 0, cells := σ0.2.2.2.2.2.1, slots := σ0.2.2.2.2.2.2, locals := 0 }) s m args below meth c H locs cells slots (MQ below (cl_Q true D c0 none cl_no σ0 σ') args s (σ0.2.2.2.2.2.1 - σ'.2.2.2.2.2.1) (σ0.2.2.2.2.2.2 - σ'.2.2.2.2.2.2) (cl_A c0 σ0.2.2.2.1 s.heap.size)) (F0 m 0 ls []) := by
  unfold bc_X5_noteInput_0 at h
  refine lv_aload_n C.1 C.2.1 dX5_noteInput_0 rfl (lv_at hl 0 rfl) ?_
  refine cg_5_104 C G ha dX5_noteInput_1 ?_
  refine lv_sipush (v := (500:Int32)) C.1 C.2.1 dX5_noteInput_4 (by decide) ?_
  refine lv_icmp_ge (tgt := 53) C.1 C.2.1 dX5_noteInput_7 (by decide) (fun hc => ?_) (fun hc => ?_)
  · rw [if_pos hc] at h
    exact wc_X5_noteInput_53 C h G ha (lv_sub hl [0] rfl)
  · rw [if_neg hc] at h
    refine lv_aload_n C.1 C.2.1 dX5_noteInput_10 rfl (lv_at hl 0 rfl) ?_
    refine cg_5_39 C G ha dX5_noteInput_11 (fun t_5 => ?_)
    refine lv_aload_n C.1 C.2.1 dX5_noteInput_14 rfl (lv_at hl 0 rfl) ?_
    refine cg_5_104 C G ha dX5_noteInput_15 ?_
    refine lv_aload_n C.1 C.2.1 dX5_noteInput_18 rfl (lv_at hl 0 rfl) ?_
    refine cg_5_89 C G ha dX5_noteInput_19 ?_
    obtain ⟨hi, h_7⟩ := ix_some h
    refine cl_iast C G t_5 hi dX5_noteInput_22 (fun H locs G_8 => ?_)
    refine cl_nm G_8 h_7 (fun σ_6 G_9 h_10 => ?_)
    refine lv_aload_n C.1 C.2.1 dX5_noteInput_23 rfl (lv_at hl 0 rfl) ?_
    refine cg_5_42 C G_9 ha dX5_noteInput_24 (fun t_11 => ?_)
    refine lv_aload_n C.1 C.2.1 dX5_noteInput_27 rfl (lv_at hl 0 rfl) ?_
    refine cg_5_104 C G_9 ha dX5_noteInput_28 ?_
    refine lv_iload_n C.1 C.2.1 dX5_noteInput_31 rfl (lv_at hl 1 rfl) ?_
    obtain ⟨hi, h_13⟩ := ix_some h_10
    refine cl_iast C G_9 t_11 hi dX5_noteInput_32 (fun H locs G_14 => ?_)
    refine cl_nm G_14 h_13 (fun σ_12 G_15 h_16 => ?_)
    refine lv_aload_n C.1 C.2.1 dX5_noteInput_33 rfl (lv_at hl 0 rfl) ?_
    refine cg_5_45 C G_15 ha dX5_noteInput_34 (fun t_17 => ?_)
    refine lv_aload_n C.1 C.2.1 dX5_noteInput_37 rfl (lv_at hl 0 rfl) ?_
    refine cg_5_104 C G_15 ha dX5_noteInput_38 ?_
    refine lv_iload_n C.1 C.2.1 dX5_noteInput_41 rfl (lv_at hl 2 rfl) ?_
    obtain ⟨hi, h_19⟩ := ix_some h_16
    refine cl_iast C G_15 t_17 hi dX5_noteInput_42 (fun H locs G_20 => ?_)
    refine cl_nm G_20 h_19 (fun σ_18 G_21 h_22 => ?_)
    refine lv_aload_n C.1 C.2.1 dX5_noteInput_43 rfl (lv_at hl 0 rfl) ?_
    refine cg_5_48 C G_21 ha dX5_noteInput_44 (fun t_23 => ?_)
    refine lv_aload_n C.1 C.2.1 dX5_noteInput_47 rfl (lv_at hl 0 rfl) ?_
    refine cg_5_104 C G_21 ha dX5_noteInput_48 ?_
    refine cl_aload_n C.1 C.2.1 dX5_noteInput_51 rfl (lv_at hl 3 rfl) ?_
    obtain ⟨hi, h_25⟩ := ix_some h_22
    refine cl_aast (ci := 9) (x := x3) C G_21 rfl rfl rfl t_23 (by decide) (by decide) f3 hi dX5_noteInput_52 (fun H locs G_26 => ?_)
    refine cl_nm G_26 h_25 (fun σ_24 G_27 h_28 => ?_)
    exact wc_X5_noteInput_53 C h_28 G_27 ha (lv_sub hl [0] rfl)
noncomputable def fc_X5_noteInput (a : Nat) (x1 : Int32) (x2 : Int32) (x3 : (Option Nat)) (σ : cl_S) : Option (cl_S) := bc_X5_noteInput_0 a x1 x2 x3 σ
theorem kc_X5_noteInput (l : Launch) (D : cl_D) (c0 : Nat) {a : Nat} {x1 : Int32} {x2 : Int32} {x3 : (Option Nat)} {σ σ' : cl_S} (ha : (σ.2.2.2.1 a).1 = 21) (h : fc_X5_noteInput a x1 x2 x3 σ = some σ') (f3 : cl_RT σ.2.2.2.1 x3 25) : cl_Met true l D c0 yX5_noteInput cX5_noteInput 4 none 0 0 [.ref (c0 + a), .int x1, .int x2, cl_rf c0 x3] σ none cl_no σ' :=
  by cases x3 <;> exact cl_of (by decide) (Nat.le_of_ble_eq_true rfl) (fun p e s m args below meth c ls C hn G hl => wc_X5_noteInput_0 C h G ha f3 hl)
abbrev cX6_loadAs : ByteArray := prog_8_method_3_code
def yX6_loadAs : MethodName := ⟨RX6, "loadAs", "(LPartHouse$Partition;)V"⟩
theorem dX6_loadAs_0 : decode cX6_loadAs 0 = .ok (.aload_n 0, 1) := by decide +kernel
theorem dX6_loadAs_1 : decode cX6_loadAs 1 = .ok (.aload_n 1, 1) := by decide +kernel
theorem dX6_loadAs_2 : decode cX6_loadAs 2 = .ok (.getfield 60, 3) := by decide +kernel
theorem dX6_loadAs_5 : decode cX6_loadAs 5 = .ok (.putfield 60, 3) := by decide +kernel
theorem dX6_loadAs_8 : decode cX6_loadAs 8 = .ok (.aload_n 0, 1) := by decide +kernel
theorem dX6_loadAs_9 : decode cX6_loadAs 9 = .ok (.aload_n 1, 1) := by decide +kernel
theorem dX6_loadAs_10 : decode cX6_loadAs 10 = .ok (.getfield 63, 3) := by decide +kernel
theorem dX6_loadAs_13 : decode cX6_loadAs 13 = .ok (.putfield 63, 3) := by decide +kernel
theorem dX6_loadAs_16 : decode cX6_loadAs 16 = .ok (.aload_n 0, 1) := by decide +kernel
theorem dX6_loadAs_17 : decode cX6_loadAs 17 = .ok (.aload_n 1, 1) := by decide +kernel
theorem dX6_loadAs_18 : decode cX6_loadAs 18 = .ok (.getfield 66, 3) := by decide +kernel
theorem dX6_loadAs_21 : decode cX6_loadAs 21 = .ok (.putfield 66, 3) := by decide +kernel
theorem dX6_loadAs_24 : decode cX6_loadAs 24 = .ok (.aload_n 0, 1) := by decide +kernel
theorem dX6_loadAs_25 : decode cX6_loadAs 25 = .ok (.getfield 12, 3) := by decide +kernel
theorem dX6_loadAs_28 : decode cX6_loadAs 28 = .ok (.aload_n 0, 1) := by decide +kernel
theorem dX6_loadAs_29 : decode cX6_loadAs 29 = .ok (.getfield 60, 3) := by decide +kernel
theorem dX6_loadAs_32 : decode cX6_loadAs 32 = .ok (.getfield 94, 3) := by decide +kernel
theorem dX6_loadAs_35 : decode cX6_loadAs 35 = .ok (.invokevirtual 97, 3) := by decide +kernel
theorem dX6_loadAs_38 : decode cX6_loadAs 38 = .ok (.iconst 0, 1) := by decide +kernel
theorem dX6_loadAs_39 : decode cX6_loadAs 39 = .ok (.istore_n 2, 1) := by decide +kernel
theorem dX6_loadAs_40 : decode cX6_loadAs 40 = .ok (.iload_n 2, 1) := by decide +kernel
theorem dX6_loadAs_41 : decode cX6_loadAs 41 = .ok (.aload_n 1, 1) := by decide +kernel
theorem dX6_loadAs_42 : decode cX6_loadAs 42 = .ok (.getfield 85, 3) := by decide +kernel
theorem dX6_loadAs_45 : decode cX6_loadAs 45 = .ok (.if_icmp .ge 21, 3) := by decide +kernel
theorem dX6_loadAs_48 : decode cX6_loadAs 48 = .ok (.aload_n 0, 1) := by decide +kernel
theorem dX6_loadAs_49 : decode cX6_loadAs 49 = .ok (.getfield 34, 3) := by decide +kernel
theorem dX6_loadAs_52 : decode cX6_loadAs 52 = .ok (.iload_n 2, 1) := by decide +kernel
theorem dX6_loadAs_53 : decode cX6_loadAs 53 = .ok (.aload_n 1, 1) := by decide +kernel
theorem dX6_loadAs_54 : decode cX6_loadAs 54 = .ok (.getfield 34, 3) := by decide +kernel
theorem dX6_loadAs_57 : decode cX6_loadAs 57 = .ok (.iload_n 2, 1) := by decide +kernel
theorem dX6_loadAs_58 : decode cX6_loadAs 58 = .ok (.aaload, 1) := by decide +kernel
theorem dX6_loadAs_59 : decode cX6_loadAs 59 = .ok (.aastore, 1) := by decide +kernel
theorem dX6_loadAs_60 : decode cX6_loadAs 60 = .ok (.iinc 2 1, 3) := by decide +kernel
theorem dX6_loadAs_63 : decode cX6_loadAs 63 = .ok (.goto (-23), 3) := by decide +kernel
theorem dX6_loadAs_66 : decode cX6_loadAs 66 = .ok (.aload_n 0, 1) := by decide +kernel
theorem dX6_loadAs_67 : decode cX6_loadAs 67 = .ok (.aload_n 1, 1) := by decide +kernel
theorem dX6_loadAs_68 : decode cX6_loadAs 68 = .ok (.getfield 85, 3) := by decide +kernel
theorem dX6_loadAs_71 : decode cX6_loadAs 71 = .ok (.putfield 85, 3) := by decide +kernel
theorem dX6_loadAs_74 : decode cX6_loadAs 74 = .ok (.return_, 1) := by decide +kernel
theorem cc_X6_loadAs : Cond.code yX6_loadAs cX6_loadAs 3 none ∈ rf_tb := rf_at 1484 (by decide +kernel) (by decide +kernel)
theorem cw_RX6_97 : cl_wV RX6 RX2 yX2_load cX2_load 2 none 97 1 := ⟨⟨rf_at 1485 (by decide +kernel) (by decide +kernel), rf_at 1086 (by decide +kernel) (by decide +kernel), rf_at 1087 (by decide +kernel) (by decide +kernel), cc_X2_load, rf_at 16 (by decide +kernel) (by decide +kernel)⟩, ⟨by decide, by decide, by decide +kernel⟩⟩
noncomputable def lc_X6_loadAs_40 (a : Nat) (x1 : (Option Nat)) (x2 : Int32) (σ : cl_S) : Option ((Int32 × cl_S) ⊕ (Int32 × cl_S)) := nn x1 (fun a_45 => (if (σ.1 a_45 12) ≤ x2 then some (.inr (x2, σ)) else ix x2 100 (vl (σ.2.2.1 (a_45 + 8) x2.toNatClampNeg) (fun r_52 => ix x2 100 (vl (cl_wr σ (a + 8) x2.toNatClampNeg r_52) (fun σ_55 => vl (x2 + (1:Int32)) (fun x2_60 => some (.inl (x2_60, σ_55)))))))))
noncomputable def ec_X6_loadAs_40 (a : Nat) (x1 : (Option Nat)) (x2 : Int32) (σ : cl_S) : Option (cl_S) := nn x1 (fun a_63 => vl (cl_w σ a 12 (σ.1 a_63 12)) (fun σ_66 => some σ_66))
noncomputable def bc_X6_loadAs_40 (a : Nat) (x1 : (Option Nat)) (x2 : Int32) (σ : cl_S) : Option (cl_S) := (lp (fun z : (Int32 × cl_S) => lc_X6_loadAs_40 a x1 z.1 z.2) (x2, σ)).bind (fun z => ec_X6_loadAs_40 a x1 z.1 z.2)
set_option maxHeartbeats 4000000 in
theorem wc_X6_loadAs_40 (C : cl_C D p s m args meth c cX6_loadAs 3 none RX6) {a : Nat} {x1 : (Option Nat)} {x2 : Int32} {σ0 σ σ' : cl_S} {T : Nat → Nat × Nat} {H : Heap} {locs : List Loc} {ls : Array Slot} {cells slots : Nat} (h : bc_X6_loadAs_40 a x1 x2 σ = some σ') (G : cl_G true D c0 ({ frames := 2, cells := σ0.2.2.2.2.2.1, slots := σ0.2.2.2.2.2.2, locals := 69 }) s σ0.2.2.2.1 T σ H locs cells slots) (ha : (T a).1 = 22) (f1 : cl_RT T x1 22) (hl : lv_has ls 3 [(0, .ref (c0 + a)), (1, cl_rf c0 x1), (2, .int x2)]) : W p l e ({ frames := 2, cells := σ0.2.2.2.2.2.1, slots := σ0.2.2.2.2.2.2, locals := 69 }) s m args below meth c H locs cells slots (MQ below (cl_Q true D c0 none cl_no σ0 σ') args s (σ0.2.2.2.2.2.1 - σ'.2.2.2.2.2.1) (σ0.2.2.2.2.2.2 - σ'.2.2.2.2.2.2) (cl_A c0 σ0.2.2.2.1 s.heap.size)) (F0 m 40 ls []) := by
  unfold bc_X6_loadAs_40 at h
  obtain ⟨y, hy, h⟩ := bd_some h
  have hE : (fun z : (Int32 × cl_S) => ∀ (T : Nat → Nat × Nat) (H : Heap) (locs : List Loc) (ls : Array Slot) (cells slots : Nat), cl_G true D c0 ({ frames := 2, cells := σ0.2.2.2.2.2.1, slots := σ0.2.2.2.2.2.2, locals := 69 }) s σ0.2.2.2.1 T z.2 H locs cells slots → (T a).1 = 22 → cl_RT T x1 22 → lv_has ls 3 [(0, .ref (c0 + a)), (1, cl_rf c0 x1), (2, .int (z.1))] → W p l e ({ frames := 2, cells := σ0.2.2.2.2.2.1, slots := σ0.2.2.2.2.2.2, locals := 69 }) s m args below meth c H locs cells slots (MQ below (cl_Q true D c0 none cl_no σ0 σ') args s (σ0.2.2.2.2.2.1 - σ'.2.2.2.2.2.1) (σ0.2.2.2.2.2.2 - σ'.2.2.2.2.2.2) (cl_A c0 σ0.2.2.2.1 s.heap.size)) (F0 m 66 ls [])) y := by
    clear hy G ha f1 hl
    intro T H locs ls cells slots G ha f1 hl
    obtain ⟨x2, σ⟩ := y
    dsimp only at h G ha f1 hl
    unfold ec_X6_loadAs_40 at h
    refine lv_aload_n C.1 C.2.1 dX6_loadAs_66 rfl (lv_at hl 0 rfl) ?_
    refine cl_aload_n C.1 C.2.1 dX6_loadAs_67 rfl (lv_at hl 1 rfl) ?_
    obtain ⟨a_63, rfl, h_65⟩ := nn_some h
    have t_64 := f1 _ rfl
    refine cg_6_85 C G t_64 dX6_loadAs_68 ?_
    refine cp_6_85 C G ha dX6_loadAs_71 (fun H locs G_67 => ?_)
    refine cl_nm G_67 h_65 (fun σ_66 G_68 h_69 => ?_)
    exact cl_vret ⟨rfl, rfl⟩ rfl C G_68 h_69 dX6_loadAs_74
  refine lp_recE (fun z : (Int32 × cl_S) => ∀ (T : Nat → Nat × Nat) (H : Heap) (locs : List Loc) (ls : Array Slot) (cells slots : Nat), cl_G true D c0 ({ frames := 2, cells := σ0.2.2.2.2.2.1, slots := σ0.2.2.2.2.2.2, locals := 69 }) s σ0.2.2.2.1 T z.2 H locs cells slots → (T a).1 = 22 → cl_RT T x1 22 → lv_has ls 3 [(0, .ref (c0 + a)), (1, cl_rf c0 x1), (2, .int (z.1))] → W p l e ({ frames := 2, cells := σ0.2.2.2.2.2.1, slots := σ0.2.2.2.2.2.2, locals := 69 }) s m args below meth c H locs cells slots (MQ below (cl_Q true D c0 none cl_no σ0 σ') args s (σ0.2.2.2.2.2.1 - σ'.2.2.2.2.2.1) (σ0.2.2.2.2.2.2 - σ'.2.2.2.2.2.2) (cl_A c0 σ0.2.2.2.1 s.heap.size)) (F0 m 40 ls [])) (fun z : (Int32 × cl_S) => ∀ (T : Nat → Nat × Nat) (H : Heap) (locs : List Loc) (ls : Array Slot) (cells slots : Nat), cl_G true D c0 ({ frames := 2, cells := σ0.2.2.2.2.2.1, slots := σ0.2.2.2.2.2.2, locals := 69 }) s σ0.2.2.2.1 T z.2 H locs cells slots → (T a).1 = 22 → cl_RT T x1 22 → lv_has ls 3 [(0, .ref (c0 + a)), (1, cl_rf c0 x1), (2, .int (z.1))] → W p l e ({ frames := 2, cells := σ0.2.2.2.2.2.1, slots := σ0.2.2.2.2.2.2, locals := 69 }) s m args below meth c H locs cells slots (MQ below (cl_Q true D c0 none cl_no σ0 σ') args s (σ0.2.2.2.2.2.1 - σ'.2.2.2.2.2.1) (σ0.2.2.2.2.2.2 - σ'.2.2.2.2.2.2) (cl_A c0 σ0.2.2.2.1 s.heap.size)) (F0 m 66 ls [])) ?_ _ _ hy hE _ _ _ _ _ _ G ha f1 hl
  clear hE hy G ha f1 hl h
  intro z o h hP T H locs ls cells slots G ha f1 hl
  obtain ⟨x2, σ⟩ := z
  dsimp only at h G ha f1 hl
  unfold lc_X6_loadAs_40 at h
  refine lv_iload_n C.1 C.2.1 dX6_loadAs_40 rfl (lv_at hl 2 rfl) ?_
  refine cl_aload_n C.1 C.2.1 dX6_loadAs_41 rfl (lv_at hl 1 rfl) ?_
  obtain ⟨a_45, rfl, h_47⟩ := nn_some h
  have t_46 := f1 _ rfl
  refine cg_6_85 C G t_46 dX6_loadAs_42 ?_
  refine lv_icmp_ge (tgt := 66) C.1 C.2.1 dX6_loadAs_45 (by decide) (fun hc => ?_) (fun hc => ?_)
  · rw [if_pos hc] at h_47
    cases h_47
    exact hP _ _ _ _ _ _ G ha (cl_RTs t_46) (lv_sub hl [0, 1, 2] rfl)
  · rw [if_neg hc] at h_47
    refine lv_aload_n C.1 C.2.1 dX6_loadAs_48 rfl (lv_at hl 0 rfl) ?_
    refine cg_6_34 C G ha dX6_loadAs_49 (fun t_48 => ?_)
    refine lv_iload_n C.1 C.2.1 dX6_loadAs_52 rfl (lv_at hl 2 rfl) ?_
    refine lv_aload_n C.1 C.2.1 dX6_loadAs_53 rfl (lv_at hl 1 rfl) ?_
    refine cg_6_34 C G t_46 dX6_loadAs_54 (fun t_49 => ?_)
    refine lv_iload_n C.1 C.2.1 dX6_loadAs_57 rfl (lv_at hl 2 rfl) ?_
    obtain ⟨hi, h_50⟩ := ix_some h_47
    refine cl_aald C G t_49 (by decide) (by decide) rfl hi dX6_loadAs_58 (fun t_51 => ?_)
    refine vt_r (K := 25) t_51 h_50 (fun r_52 t_53 h_54 => ?_)
    obtain ⟨hi, h_56⟩ := ix_some h_54
    refine cl_aast (ci := 9) (x := r_52) C G rfl rfl rfl t_48 (by decide) (by decide) t_53 hi dX6_loadAs_59 (fun H locs G_57 => ?_)
    refine cl_nm G_57 h_56 (fun σ_55 G_58 h_59 => ?_)
    refine vl_ex h_59 (fun x2_60 ey h_61 => ?_)
    refine lv_iinc (v := x2_60) (lv' := [(2, .int x2_60), (0, .ref (c0 + a)), (1, .ref (c0 + a_45))]) C.1 C.2.1 dX6_loadAs_60 hl (k := 2) rfl (by rw [ey]; rfl) (by decide) rfl (fun ls hl_62 => ?_)
    refine lv_goto (tgt := 40) C.1 C.2.1 dX6_loadAs_63 (by decide) ?_
    cases h_61
    exact hP _ _ _ _ _ _ G_58 ha (cl_RTs t_46) (lv_sub hl_62 [1, 2, 0] rfl)
noncomputable def bc_X6_loadAs_0 (a : Nat) (x1 : (Option Nat)) (σ : cl_S) : Option (cl_S) := nn x1 (fun a_1 => vl (σ.2.2.1 a_1 15) (fun r_5 => vl (cl_wr σ a 15 r_5) (fun σ_8 => vl (σ_8.2.2.1 a_1 16) (fun r_13 => vl (cl_wr σ_8 a 16 r_13) (fun σ_16 => vl (σ_16.2.2.1 a_1 17) (fun r_21 => vl (cl_wr σ_16 a 17 r_21) (fun σ_24 => vl (σ_24.2.2.1 a 15) (fun r_30 => nn r_30 (fun a_33 => nn (σ_24.2.2.1 a_33 6) (fun a_36 => bd1 (fc_X2_load (a + 1) (some a_36) σ_24) (fun σ_39 => bc_X6_loadAs_40 a (some a_1) (0:Int32) σ_39)))))))))))
set_option maxHeartbeats 4000000 in
theorem wc_X6_loadAs_0 (C : cl_C D p s m args meth c cX6_loadAs 3 none RX6) {a : Nat} {x1 : (Option Nat)} {σ0 σ σ' : cl_S} {T : Nat → Nat × Nat} {H : Heap} {locs : List Loc} {ls : Array Slot} {cells slots : Nat} (h : bc_X6_loadAs_0 a x1 σ = some σ') (G : cl_G true D c0 ({ frames := 2, cells := σ0.2.2.2.2.2.1, slots := σ0.2.2.2.2.2.2, locals := 69 }) s σ0.2.2.2.1 T σ H locs cells slots) (ha : (T a).1 = 22) (f1 : cl_RT T x1 22) (hl : lv_has ls 3 [(0, .ref (c0 + a)), (1, cl_rf c0 x1)]) : W p l e ({ frames := 2, cells := σ0.2.2.2.2.2.1, slots := σ0.2.2.2.2.2.2, locals := 69 }) s m args below meth c H locs cells slots (MQ below (cl_Q true D c0 none cl_no σ0 σ') args s (σ0.2.2.2.2.2.1 - σ'.2.2.2.2.2.1) (σ0.2.2.2.2.2.2 - σ'.2.2.2.2.2.2) (cl_A c0 σ0.2.2.2.1 s.heap.size)) (F0 m 0 ls []) := by
  unfold bc_X6_loadAs_0 at h
  refine lv_aload_n C.1 C.2.1 dX6_loadAs_0 rfl (lv_at hl 0 rfl) ?_
  refine cl_aload_n C.1 C.2.1 dX6_loadAs_1 rfl (lv_at hl 1 rfl) ?_
  obtain ⟨a_1, rfl, h_3⟩ := nn_some h
  have t_2 := f1 _ rfl
  refine cg_6_60 C G t_2 dX6_loadAs_2 (fun t_4 => ?_)
  refine vt_r (K := 25) t_4 h_3 (fun r_5 t_6 h_7 => ?_)
  refine cp_6_60 (x := r_5) C G ha t_6 dX6_loadAs_5 (fun H locs G_9 => ?_)
  refine cl_nm G_9 h_7 (fun σ_8 G_10 h_11 => ?_)
  refine lv_aload_n C.1 C.2.1 dX6_loadAs_8 rfl (lv_at hl 0 rfl) ?_
  refine lv_aload_n C.1 C.2.1 dX6_loadAs_9 rfl (lv_at hl 1 rfl) ?_
  refine cg_6_63 C G_10 t_2 dX6_loadAs_10 (fun t_12 => ?_)
  refine vt_r (K := 25) t_12 h_11 (fun r_13 t_14 h_15 => ?_)
  refine cp_6_63 (x := r_13) C G_10 ha t_14 dX6_loadAs_13 (fun H locs G_17 => ?_)
  refine cl_nm G_17 h_15 (fun σ_16 G_18 h_19 => ?_)
  refine lv_aload_n C.1 C.2.1 dX6_loadAs_16 rfl (lv_at hl 0 rfl) ?_
  refine lv_aload_n C.1 C.2.1 dX6_loadAs_17 rfl (lv_at hl 1 rfl) ?_
  refine cg_6_66 C G_18 t_2 dX6_loadAs_18 (fun t_20 => ?_)
  refine vt_r (K := 25) t_20 h_19 (fun r_21 t_22 h_23 => ?_)
  refine cp_6_66 (x := r_21) C G_18 ha t_22 dX6_loadAs_21 (fun H locs G_25 => ?_)
  refine cl_nm G_25 h_23 (fun σ_24 G_26 h_27 => ?_)
  refine lv_aload_n C.1 C.2.1 dX6_loadAs_24 rfl (lv_at hl 0 rfl) ?_
  refine cg_6_12 C G_26 ha dX6_loadAs_25 (fun t_28 => ?_)
  have t_28 : (T (a + 1)).1 = 18 := by rw [t_28]
  refine lv_aload_n C.1 C.2.1 dX6_loadAs_28 rfl (lv_at hl 0 rfl) ?_
  refine cg_6_60 C G_26 ha dX6_loadAs_29 (fun t_29 => ?_)
  refine vt_r (K := 25) t_29 h_27 (fun r_30 t_31 h_32 => ?_)
  obtain ⟨a_33, rfl, h_35⟩ := nn_some h_32
  have t_34 := t_31 _ rfl
  obtain ⟨a_36, hw, h_38⟩ := nn_some h_35
  refine cg_6_94 C G_26 t_34 hw dX6_loadAs_32 (fun t_37 => ?_)
  obtain ⟨σ_39, hq, h_40⟩ := bd1_some h_38
  refine cl_callV (ci := 2) (rest := []) C G_26 rfl t_28 cw_RX6_97 [.ref (c0 + a_36)] _ (kc_X2_load l D c0 (by rw [G_26.1]; exact t_28) hq (by rw [G_26.1]; exact (cl_RTs (by rw [t_37])))) (Nat.le_of_ble_eq_true rfl) (Nat.le_of_ble_eq_true rfl) rfl rfl hl.1 (Nat.le_of_ble_eq_true rfl) dX6_loadAs_35 (fun T_41 H locs cells slots t_42 hu G_43 => ?_)
  have ha := hu.kind ha (by decide)
  have t_2 := hu.kind t_2 (by decide)
  refine W.eq (g2 := F0 m 38 ls []) rfl ?_
  refine lv_iconst (v := (0:Int32)) C.1 C.2.1 dX6_loadAs_38 (by decide) ?_
  refine lv_istore_n (lv' := [(2, .int (0:Int32)), (0, .ref (c0 + a)), (1, .ref (c0 + a_1))]) C.1 C.2.1 dX6_loadAs_39 rfl hl (by decide) rfl (fun ls hl_44 => ?_)
  exact wc_X6_loadAs_40 C h_40 G_43 ha (cl_RTs t_2) (lv_sub hl_44 [1, 2, 0] rfl)
noncomputable def fc_X6_loadAs (a : Nat) (x1 : (Option Nat)) (σ : cl_S) : Option (cl_S) := bc_X6_loadAs_0 a x1 σ
theorem kc_X6_loadAs (l : Launch) (D : cl_D) (c0 : Nat) {a : Nat} {x1 : (Option Nat)} {σ σ' : cl_S} (ha : (σ.2.2.2.1 a).1 = 22) (h : fc_X6_loadAs a x1 σ = some σ') (f1 : cl_RT σ.2.2.2.1 x1 22) : cl_Met true l D c0 yX6_loadAs cX6_loadAs 3 none 2 69 [.ref (c0 + a), cl_rf c0 x1] σ none cl_no σ' :=
  by cases x1 <;> exact cl_of (by decide) (Nat.le_of_ble_eq_true rfl) (fun p e s m args below meth c ls C hn G hl => wc_X6_loadAs_0 C h G ha f1 hl)
abbrev cX5_firstCopy : ByteArray := prog_7_method_7_code
def yX5_firstCopy : MethodName := ⟨RX5, "firstCopy", "(II)I"⟩
theorem dX5_firstCopy_0 : decode cX5_firstCopy 0 = .ok (.iconst 2, 1) := by decide +kernel
theorem dX5_firstCopy_1 : decode cX5_firstCopy 1 = .ok (.aload_n 0, 1) := by decide +kernel
theorem dX5_firstCopy_2 : decode cX5_firstCopy 2 = .ok (.getfield 12, 3) := by decide +kernel
theorem dX5_firstCopy_5 : decode cX5_firstCopy 5 = .ok (.getfield 161, 3) := by decide +kernel
theorem dX5_firstCopy_8 : decode cX5_firstCopy 8 = .ok (.iload_n 1, 1) := by decide +kernel
theorem dX5_firstCopy_9 : decode cX5_firstCopy 9 = .ok (.iaload, 1) := by decide +kernel
theorem dX5_firstCopy_10 : decode cX5_firstCopy 10 = .ok (.iload_n 2, 1) := by decide +kernel
theorem dX5_firstCopy_11 : decode cX5_firstCopy 11 = .ok (.iadd, 1) := by decide +kernel
theorem dX5_firstCopy_12 : decode cX5_firstCopy 12 = .ok (.imul, 1) := by decide +kernel
theorem dX5_firstCopy_13 : decode cX5_firstCopy 13 = .ok (.ireturn, 1) := by decide +kernel
theorem cc_X5_firstCopy : Cond.code yX5_firstCopy cX5_firstCopy 3 (some .int) ∈ rf_tb := rf_at 1294 (by decide +kernel) (by decide +kernel)
noncomputable def bc_X5_firstCopy_0 (a : Nat) (x1 : Int32) (x2 : Int32) (σ : cl_S) : Option (Int32 × cl_S) := vl (σ.2.2.1 a 3) (fun r_2 => nn r_2 (fun a_5 => ix x1 8 (some (((2:Int32) * ((σ.1 (a_5 + 4) x1.toNatClampNeg) + x2)), σ))))
set_option maxHeartbeats 4000000 in
theorem wc_X5_firstCopy_0 (C : cl_C D p s m args meth c cX5_firstCopy 3 (some .int) RX5) {r : Int32} {a : Nat} {x1 : Int32} {x2 : Int32} {σ0 σ σ' : cl_S} {T : Nat → Nat × Nat} {H : Heap} {locs : List Loc} {ls : Array Slot} {cells slots : Nat} (h : bc_X5_firstCopy_0 a x1 x2 σ = some (r, σ')) (G : cl_G true D c0 ({ frames := 0, cells := σ0.2.2.2.2.2.1, slots := σ0.2.2.2.2.2.2, locals := 0 }) s σ0.2.2.2.1 T σ H locs cells slots) (ha : (T a).1 = 21) (hl : lv_has ls 3 [(0, .ref (c0 + a)), (1, .int x1), (2, .int x2)]) : W p l e ({ frames := 0, cells := σ0.2.2.2.2.2.1, slots := σ0.2.2.2.2.2.2, locals := 0 }) s m args below meth c H locs cells slots (MQ below (cl_Q true D c0 (some (.int r)) cl_no σ0 σ') args s (σ0.2.2.2.2.2.1 - σ'.2.2.2.2.2.1) (σ0.2.2.2.2.2.2 - σ'.2.2.2.2.2.2) (cl_A c0 σ0.2.2.2.1 s.heap.size)) (F0 m 0 ls []) := by
  unfold bc_X5_firstCopy_0 at h
  refine lv_iconst (v := (2:Int32)) C.1 C.2.1 dX5_firstCopy_0 (by decide) ?_
  refine lv_aload_n C.1 C.2.1 dX5_firstCopy_1 rfl (lv_at hl 0 rfl) ?_
  refine cg_5_12 C G ha dX5_firstCopy_2 (fun t_1 => ?_)
  refine vt_r (K := 17) t_1 h (fun r_2 t_3 h_4 => ?_)
  obtain ⟨a_5, rfl, h_7⟩ := nn_some h_4
  have t_6 := t_3 _ rfl
  refine cg_5_161 C G t_6 dX5_firstCopy_5 (fun t_8 => ?_)
  refine lv_iload_n C.1 C.2.1 dX5_firstCopy_8 rfl (lv_at hl 1 rfl) ?_
  obtain ⟨hi, h_9⟩ := ix_some h_7
  refine cl_iald C G t_8 hi dX5_firstCopy_9 ?_
  refine lv_iload_n C.1 C.2.1 dX5_firstCopy_10 rfl (lv_at hl 2 rfl) ?_
  refine lv_iadd C.1 C.2.1 dX5_firstCopy_11 ?_
  refine lv_imul C.1 C.2.1 dX5_firstCopy_12 ?_
  exact cl_iret ⟨rfl, rfl⟩ rfl C G h_9 dX5_firstCopy_13
noncomputable def fc_X5_firstCopy (a : Nat) (x1 : Int32) (x2 : Int32) (σ : cl_S) : Option (Int32 × cl_S) := bc_X5_firstCopy_0 a x1 x2 σ
theorem kc_X5_firstCopy (l : Launch) (D : cl_D) (c0 : Nat) {r : Int32} {a : Nat} {x1 : Int32} {x2 : Int32} {σ σ' : cl_S} (ha : (σ.2.2.2.1 a).1 = 21) (h : fc_X5_firstCopy a x1 x2 σ = some (r, σ')) : cl_Met true l D c0 yX5_firstCopy cX5_firstCopy 3 (some .int) 0 0 [.ref (c0 + a), .int x1, .int x2] σ (some (.int r)) cl_no σ' :=
  cl_of (by decide) (Nat.le_of_ble_eq_true rfl) (fun p e s m args below meth c ls C hn G hl => wc_X5_firstCopy_0 C h G ha hl)
abbrev cX5_emptyArea : ByteArray := prog_7_method_6_code
def yX5_emptyArea : MethodName := ⟨RX5, "emptyArea", "(I)V"⟩
theorem dX5_emptyArea_0 : decode cX5_emptyArea 0 = .ok (.iconst 0, 1) := by decide +kernel
theorem dX5_emptyArea_1 : decode cX5_emptyArea 1 = .ok (.istore_n 2, 1) := by decide +kernel
theorem dX5_emptyArea_2 : decode cX5_emptyArea 2 = .ok (.iload_n 2, 1) := by decide +kernel
theorem dX5_emptyArea_3 : decode cX5_emptyArea 3 = .ok (.aload_n 0, 1) := by decide +kernel
theorem dX5_emptyArea_4 : decode cX5_emptyArea 4 = .ok (.getfield 12, 3) := by decide +kernel
theorem dX5_emptyArea_7 : decode cX5_emptyArea 7 = .ok (.getfield 151, 3) := by decide +kernel
theorem dX5_emptyArea_10 : decode cX5_emptyArea 10 = .ok (.iload_n 1, 1) := by decide +kernel
theorem dX5_emptyArea_11 : decode cX5_emptyArea 11 = .ok (.iaload, 1) := by decide +kernel
theorem dX5_emptyArea_12 : decode cX5_emptyArea 12 = .ok (.if_icmp .ge 37, 3) := by decide +kernel
theorem dX5_emptyArea_15 : decode cX5_emptyArea 15 = .ok (.aload_n 0, 1) := by decide +kernel
theorem dX5_emptyArea_16 : decode cX5_emptyArea 16 = .ok (.getfield 55, 3) := by decide +kernel
theorem dX5_emptyArea_19 : decode cX5_emptyArea 19 = .ok (.aload_n 0, 1) := by decide +kernel
theorem dX5_emptyArea_20 : decode cX5_emptyArea 20 = .ok (.iload_n 1, 1) := by decide +kernel
theorem dX5_emptyArea_21 : decode cX5_emptyArea 21 = .ok (.iload_n 2, 1) := by decide +kernel
theorem dX5_emptyArea_22 : decode cX5_emptyArea 22 = .ok (.invokevirtual 154, 3) := by decide +kernel
theorem dX5_emptyArea_25 : decode cX5_emptyArea 25 = .ok (.invokevirtual 158, 3) := by decide +kernel
theorem dX5_emptyArea_28 : decode cX5_emptyArea 28 = .ok (.aload_n 0, 1) := by decide +kernel
theorem dX5_emptyArea_29 : decode cX5_emptyArea 29 = .ok (.getfield 55, 3) := by decide +kernel
theorem dX5_emptyArea_32 : decode cX5_emptyArea 32 = .ok (.aload_n 0, 1) := by decide +kernel
theorem dX5_emptyArea_33 : decode cX5_emptyArea 33 = .ok (.iload_n 1, 1) := by decide +kernel
theorem dX5_emptyArea_34 : decode cX5_emptyArea 34 = .ok (.iload_n 2, 1) := by decide +kernel
theorem dX5_emptyArea_35 : decode cX5_emptyArea 35 = .ok (.invokevirtual 154, 3) := by decide +kernel
theorem dX5_emptyArea_38 : decode cX5_emptyArea 38 = .ok (.iconst 1, 1) := by decide +kernel
theorem dX5_emptyArea_39 : decode cX5_emptyArea 39 = .ok (.iadd, 1) := by decide +kernel
theorem dX5_emptyArea_40 : decode cX5_emptyArea 40 = .ok (.invokevirtual 158, 3) := by decide +kernel
theorem dX5_emptyArea_43 : decode cX5_emptyArea 43 = .ok (.iinc 2 1, 3) := by decide +kernel
theorem dX5_emptyArea_46 : decode cX5_emptyArea 46 = .ok (.goto (-44), 3) := by decide +kernel
theorem dX5_emptyArea_49 : decode cX5_emptyArea 49 = .ok (.return_, 1) := by decide +kernel
theorem cc_X5_emptyArea : Cond.code yX5_emptyArea cX5_emptyArea 3 none ∈ rf_tb := rf_at 1489 (by decide +kernel) (by decide +kernel)
theorem cw_RX5_154 : cl_wV RX5 RX5 yX5_firstCopy cX5_firstCopy 3 (some .int) 154 2 := ⟨⟨rf_at 1291 (by decide +kernel) (by decide +kernel), rf_at 1293 (by decide +kernel) (by decide +kernel), rf_sel (q := (yX5_firstCopy, 20)) 60 (by decide +kernel) (by decide +kernel), cc_X5_firstCopy, rf_at 13 (by decide +kernel) (by decide +kernel)⟩, ⟨by decide, by decide, by decide +kernel⟩⟩
theorem cw_RX5_158 : cl_wV RX5 RX3 yX3_empty cX3_empty 2 none 158 1 := ⟨⟨rf_at 1307 (by decide +kernel) (by decide +kernel), rf_at 1308 (by decide +kernel) (by decide +kernel), rf_at 1309 (by decide +kernel) (by decide +kernel), cc_X3_empty, rf_at 12 (by decide +kernel) (by decide +kernel)⟩, ⟨by decide, by decide, by decide +kernel⟩⟩
noncomputable def lc_X5_emptyArea_2 (a : Nat) (x1 : Int32) (x2 : Int32) (σ : cl_S) : Option ((Int32 × cl_S) ⊕ (Int32 × cl_S)) := vl (σ.2.2.1 a 3) (fun r_3 => nn r_3 (fun a_6 => ix x1 8 ((if (σ.1 (a_6 + 3) x1.toNatClampNeg) ≤ x2 then some (.inr (x2, σ)) else vl (σ.2.2.1 a 1) (fun r_12 => bd2 (fc_X5_firstCopy a x1 x2 σ) (fun r_16 σ_15 => nn r_12 (fun a_21 => bd1 (fc_X3_empty a_21 r_16 σ_15) (fun σ_24 => vl (σ_24.2.2.1 a 1) (fun r_30 => bd2 (fc_X5_firstCopy a x1 x2 σ_24) (fun r_34 σ_33 => nn r_30 (fun a_39 => bd1 (fc_X3_empty a_39 (r_34 + (1:Int32)) σ_33) (fun σ_42 => vl (x2 + (1:Int32)) (fun x2_47 => some (.inl (x2_47, σ_42)))))))))))))))
noncomputable def ec_X5_emptyArea_2 (a : Nat) (x1 : Int32) (x2 : Int32) (σ : cl_S) : Option (cl_S) := some σ
noncomputable def bc_X5_emptyArea_2 (a : Nat) (x1 : Int32) (x2 : Int32) (σ : cl_S) : Option (cl_S) := (lp (fun z : (Int32 × cl_S) => lc_X5_emptyArea_2 a x1 z.1 z.2) (x2, σ)).bind (fun z => ec_X5_emptyArea_2 a x1 z.1 z.2)
set_option maxHeartbeats 4000000 in
theorem wc_X5_emptyArea_2 (C : cl_C D p s m args meth c cX5_emptyArea 3 none RX5) {a : Nat} {x1 : Int32} {x2 : Int32} {σ0 σ σ' : cl_S} {T : Nat → Nat × Nat} {H : Heap} {locs : List Loc} {ls : Array Slot} {cells slots : Nat} (h : bc_X5_emptyArea_2 a x1 x2 σ = some σ') (G : cl_G true D c0 ({ frames := 2, cells := σ0.2.2.2.2.2.1, slots := σ0.2.2.2.2.2.2, locals := 44 }) s σ0.2.2.2.1 T σ H locs cells slots) (ha : (T a).1 = 21) (hl : lv_has ls 3 [(0, .ref (c0 + a)), (1, .int x1), (2, .int x2)]) : W p l e ({ frames := 2, cells := σ0.2.2.2.2.2.1, slots := σ0.2.2.2.2.2.2, locals := 44 }) s m args below meth c H locs cells slots (MQ below (cl_Q true D c0 none cl_no σ0 σ') args s (σ0.2.2.2.2.2.1 - σ'.2.2.2.2.2.1) (σ0.2.2.2.2.2.2 - σ'.2.2.2.2.2.2) (cl_A c0 σ0.2.2.2.1 s.heap.size)) (F0 m 2 ls []) := by
  unfold bc_X5_emptyArea_2 at h
  obtain ⟨y, hy, h⟩ := bd_some h
  have hE : (fun z : (Int32 × cl_S) => ∀ (T : Nat → Nat × Nat) (H : Heap) (locs : List Loc) (ls : Array Slot) (cells slots : Nat), cl_G true D c0 ({ frames := 2, cells := σ0.2.2.2.2.2.1, slots := σ0.2.2.2.2.2.2, locals := 44 }) s σ0.2.2.2.1 T z.2 H locs cells slots → (T a).1 = 21 → lv_has ls 3 [(0, .ref (c0 + a)), (1, .int x1), (2, .int (z.1))] → W p l e ({ frames := 2, cells := σ0.2.2.2.2.2.1, slots := σ0.2.2.2.2.2.2, locals := 44 }) s m args below meth c H locs cells slots (MQ below (cl_Q true D c0 none cl_no σ0 σ') args s (σ0.2.2.2.2.2.1 - σ'.2.2.2.2.2.1) (σ0.2.2.2.2.2.2 - σ'.2.2.2.2.2.2) (cl_A c0 σ0.2.2.2.1 s.heap.size)) (F0 m 49 ls [])) y := by
    clear hy G ha hl
    intro T H locs ls cells slots G ha hl
    obtain ⟨x2, σ⟩ := y
    dsimp only at h G ha hl
    unfold ec_X5_emptyArea_2 at h
    exact cl_vret ⟨rfl, rfl⟩ rfl C G h dX5_emptyArea_49
  refine lp_recE (fun z : (Int32 × cl_S) => ∀ (T : Nat → Nat × Nat) (H : Heap) (locs : List Loc) (ls : Array Slot) (cells slots : Nat), cl_G true D c0 ({ frames := 2, cells := σ0.2.2.2.2.2.1, slots := σ0.2.2.2.2.2.2, locals := 44 }) s σ0.2.2.2.1 T z.2 H locs cells slots → (T a).1 = 21 → lv_has ls 3 [(0, .ref (c0 + a)), (1, .int x1), (2, .int (z.1))] → W p l e ({ frames := 2, cells := σ0.2.2.2.2.2.1, slots := σ0.2.2.2.2.2.2, locals := 44 }) s m args below meth c H locs cells slots (MQ below (cl_Q true D c0 none cl_no σ0 σ') args s (σ0.2.2.2.2.2.1 - σ'.2.2.2.2.2.1) (σ0.2.2.2.2.2.2 - σ'.2.2.2.2.2.2) (cl_A c0 σ0.2.2.2.1 s.heap.size)) (F0 m 2 ls [])) (fun z : (Int32 × cl_S) => ∀ (T : Nat → Nat × Nat) (H : Heap) (locs : List Loc) (ls : Array Slot) (cells slots : Nat), cl_G true D c0 ({ frames := 2, cells := σ0.2.2.2.2.2.1, slots := σ0.2.2.2.2.2.2, locals := 44 }) s σ0.2.2.2.1 T z.2 H locs cells slots → (T a).1 = 21 → lv_has ls 3 [(0, .ref (c0 + a)), (1, .int x1), (2, .int (z.1))] → W p l e ({ frames := 2, cells := σ0.2.2.2.2.2.1, slots := σ0.2.2.2.2.2.2, locals := 44 }) s m args below meth c H locs cells slots (MQ below (cl_Q true D c0 none cl_no σ0 σ') args s (σ0.2.2.2.2.2.1 - σ'.2.2.2.2.2.1) (σ0.2.2.2.2.2.2 - σ'.2.2.2.2.2.2) (cl_A c0 σ0.2.2.2.1 s.heap.size)) (F0 m 49 ls [])) ?_ _ _ hy hE _ _ _ _ _ _ G ha hl
  clear hE hy G ha hl h
  intro z o h hP T H locs ls cells slots G ha hl
  obtain ⟨x2, σ⟩ := z
  dsimp only at h G ha hl
  unfold lc_X5_emptyArea_2 at h
  refine lv_iload_n C.1 C.2.1 dX5_emptyArea_2 rfl (lv_at hl 2 rfl) ?_
  refine lv_aload_n C.1 C.2.1 dX5_emptyArea_3 rfl (lv_at hl 0 rfl) ?_
  refine cg_5_12 C G ha dX5_emptyArea_4 (fun t_2 => ?_)
  refine vt_r (K := 17) t_2 h (fun r_3 t_4 h_5 => ?_)
  obtain ⟨a_6, rfl, h_8⟩ := nn_some h_5
  have t_7 := t_4 _ rfl
  refine cg_5_151 C G t_7 dX5_emptyArea_7 (fun t_9 => ?_)
  refine lv_iload_n C.1 C.2.1 dX5_emptyArea_10 rfl (lv_at hl 1 rfl) ?_
  obtain ⟨hi, h_10⟩ := ix_some h_8
  refine cl_iald C G t_9 hi dX5_emptyArea_11 ?_
  refine lv_icmp_ge (tgt := 49) C.1 C.2.1 dX5_emptyArea_12 (by decide) (fun hc => ?_) (fun hc => ?_)
  · rw [if_pos hc] at h_10
    cases h_10
    exact hP _ _ _ _ _ _ G ha (lv_sub hl [0, 1, 2] rfl)
  · rw [if_neg hc] at h_10
    refine lv_aload_n C.1 C.2.1 dX5_emptyArea_15 rfl (lv_at hl 0 rfl) ?_
    refine cg_5_55 C G ha dX5_emptyArea_16 (fun t_11 => ?_)
    refine vt_r (K := 19) t_11 h_10 (fun r_12 t_13 h_14 => ?_)
    refine lv_aload_n C.1 C.2.1 dX5_emptyArea_19 rfl (lv_at hl 0 rfl) ?_
    refine lv_iload_n C.1 C.2.1 dX5_emptyArea_20 rfl (lv_at hl 1 rfl) ?_
    refine lv_iload_n C.1 C.2.1 dX5_emptyArea_21 rfl (lv_at hl 2 rfl) ?_
    obtain ⟨r_16, σ_15, hq, h_17⟩ := bd2_some h_14
    refine cl_callV (ci := 5) (rest := [cl_rf c0 r_12]) C G rfl ha cw_RX5_154 [.int x1, .int x2] _ (kc_X5_firstCopy l D c0 (by rw [G.1]; exact ha) hq) (Nat.le_of_ble_eq_true rfl) (Nat.le_of_ble_eq_true rfl) rfl rfl hl.1 (by cases r_12 <;> exact Nat.le_of_ble_eq_true rfl) dX5_emptyArea_22 (fun T_18 H locs cells slots t_19 hu G_20 => ?_)
    have ha := hu.kind ha (by decide)
    have t_13 := t_13.up hu (by decide)
    refine W.eq (g2 := F0 m 25 ls [.int r_16, cl_rf c0 r_12]) rfl ?_
    obtain ⟨a_21, rfl, h_23⟩ := nn_some h_17
    have t_22 := t_13 _ rfl
    obtain ⟨σ_24, hq, h_25⟩ := bd1_some h_23
    refine cl_callV (ci := 3) (rest := []) C G_20 rfl t_22 cw_RX5_158 [.int r_16] _ (kc_X3_empty l D c0 (by rw [G_20.1]; exact t_22) hq) (Nat.le_of_ble_eq_true rfl) (Nat.le_of_ble_eq_true rfl) rfl rfl hl.1 (Nat.le_of_ble_eq_true rfl) dX5_emptyArea_25 (fun T_26 H locs cells slots t_27 hu G_28 => ?_)
    have ha := hu.kind ha (by decide)
    refine W.eq (g2 := F0 m 28 ls []) rfl ?_
    refine lv_aload_n C.1 C.2.1 dX5_emptyArea_28 rfl (lv_at hl 0 rfl) ?_
    refine cg_5_55 C G_28 ha dX5_emptyArea_29 (fun t_29 => ?_)
    refine vt_r (K := 19) t_29 h_25 (fun r_30 t_31 h_32 => ?_)
    refine lv_aload_n C.1 C.2.1 dX5_emptyArea_32 rfl (lv_at hl 0 rfl) ?_
    refine lv_iload_n C.1 C.2.1 dX5_emptyArea_33 rfl (lv_at hl 1 rfl) ?_
    refine lv_iload_n C.1 C.2.1 dX5_emptyArea_34 rfl (lv_at hl 2 rfl) ?_
    obtain ⟨r_34, σ_33, hq, h_35⟩ := bd2_some h_32
    refine cl_callV (ci := 5) (rest := [cl_rf c0 r_30]) C G_28 rfl ha cw_RX5_154 [.int x1, .int x2] _ (kc_X5_firstCopy l D c0 (by rw [G_28.1]; exact ha) hq) (Nat.le_of_ble_eq_true rfl) (Nat.le_of_ble_eq_true rfl) rfl rfl hl.1 (by cases r_30 <;> exact Nat.le_of_ble_eq_true rfl) dX5_emptyArea_35 (fun T_36 H locs cells slots t_37 hu G_38 => ?_)
    have ha := hu.kind ha (by decide)
    have t_31 := t_31.up hu (by decide)
    refine W.eq (g2 := F0 m 38 ls [.int r_34, cl_rf c0 r_30]) rfl ?_
    refine lv_iconst (v := (1:Int32)) C.1 C.2.1 dX5_emptyArea_38 (by decide) ?_
    refine lv_iadd C.1 C.2.1 dX5_emptyArea_39 ?_
    obtain ⟨a_39, rfl, h_41⟩ := nn_some h_35
    have t_40 := t_31 _ rfl
    obtain ⟨σ_42, hq, h_43⟩ := bd1_some h_41
    refine cl_callV (ci := 3) (rest := []) C G_38 rfl t_40 cw_RX5_158 [.int (r_34 + (1:Int32))] _ (kc_X3_empty l D c0 (by rw [G_38.1]; exact t_40) hq) (Nat.le_of_ble_eq_true rfl) (Nat.le_of_ble_eq_true rfl) rfl rfl hl.1 (Nat.le_of_ble_eq_true rfl) dX5_emptyArea_40 (fun T_44 H locs cells slots t_45 hu G_46 => ?_)
    have ha := hu.kind ha (by decide)
    refine W.eq (g2 := F0 m 43 ls []) rfl ?_
    refine vl_ex h_43 (fun x2_47 ey h_48 => ?_)
    refine lv_iinc (v := x2_47) (lv' := [(2, .int x2_47), (0, .ref (c0 + a)), (1, .int x1)]) C.1 C.2.1 dX5_emptyArea_43 hl (k := 2) rfl (by rw [ey]; rfl) (by decide) rfl (fun ls hl_49 => ?_)
    refine lv_goto (tgt := 2) C.1 C.2.1 dX5_emptyArea_46 (by decide) ?_
    cases h_48
    exact hP _ _ _ _ _ _ G_46 ha (lv_sub hl_49 [1, 2, 0] rfl)
noncomputable def bc_X5_emptyArea_0 (a : Nat) (x1 : Int32) (σ : cl_S) : Option (cl_S) := bc_X5_emptyArea_2 a x1 (0:Int32) σ
set_option maxHeartbeats 4000000 in
theorem wc_X5_emptyArea_0 (C : cl_C D p s m args meth c cX5_emptyArea 3 none RX5) {a : Nat} {x1 : Int32} {σ0 σ σ' : cl_S} {T : Nat → Nat × Nat} {H : Heap} {locs : List Loc} {ls : Array Slot} {cells slots : Nat} (h : bc_X5_emptyArea_0 a x1 σ = some σ') (G : cl_G true D c0 ({ frames := 2, cells := σ0.2.2.2.2.2.1, slots := σ0.2.2.2.2.2.2, locals := 44 }) s σ0.2.2.2.1 T σ H locs cells slots) (ha : (T a).1 = 21) (hl : lv_has ls 3 [(0, .ref (c0 + a)), (1, .int x1)]) : W p l e ({ frames := 2, cells := σ0.2.2.2.2.2.1, slots := σ0.2.2.2.2.2.2, locals := 44 }) s m args below meth c H locs cells slots (MQ below (cl_Q true D c0 none cl_no σ0 σ') args s (σ0.2.2.2.2.2.1 - σ'.2.2.2.2.2.1) (σ0.2.2.2.2.2.2 - σ'.2.2.2.2.2.2) (cl_A c0 σ0.2.2.2.1 s.heap.size)) (F0 m 0 ls []) := by
  unfold bc_X5_emptyArea_0 at h
  refine lv_iconst (v := (0:Int32)) C.1 C.2.1 dX5_emptyArea_0 (by decide) ?_
  refine lv_istore_n (lv' := [(2, .int (0:Int32)), (0, .ref (c0 + a)), (1, .int x1)]) C.1 C.2.1 dX5_emptyArea_1 rfl hl (by decide) rfl (fun ls hl_1 => ?_)
  exact wc_X5_emptyArea_2 C h G ha (lv_sub hl_1 [1, 2, 0] rfl)
noncomputable def fc_X5_emptyArea (a : Nat) (x1 : Int32) (σ : cl_S) : Option (cl_S) := bc_X5_emptyArea_0 a x1 σ
theorem kc_X5_emptyArea (l : Launch) (D : cl_D) (c0 : Nat) {a : Nat} {x1 : Int32} {σ σ' : cl_S} (ha : (σ.2.2.2.1 a).1 = 21) (h : fc_X5_emptyArea a x1 σ = some σ') : cl_Met true l D c0 yX5_emptyArea cX5_emptyArea 3 none 2 44 [.ref (c0 + a), .int x1] σ none cl_no σ' :=
  cl_of (by decide) (Nat.le_of_ble_eq_true rfl) (fun p e s m args below meth c ls C hn G hl => wc_X5_emptyArea_0 C h G ha hl)
abbrev cX5_pass : ByteArray := prog_7_method_9_code
def yX5_pass : MethodName := ⟨RX5, "pass", "(I)I"⟩
theorem dX5_pass_0 : decode cX5_pass 0 = .ok (.aload_n 0, 1) := by decide +kernel
theorem dX5_pass_1 : decode cX5_pass 1 = .ok (.dup, 1) := by decide +kernel
theorem dX5_pass_2 : decode cX5_pass 2 = .ok (.getfield 89, 3) := by decide +kernel
theorem dX5_pass_5 : decode cX5_pass 5 = .ok (.iload_n 1, 1) := by decide +kernel
theorem dX5_pass_6 : decode cX5_pass 6 = .ok (.iadd, 1) := by decide +kernel
theorem dX5_pass_7 : decode cX5_pass 7 = .ok (.putfield 89, 3) := by decide +kernel
theorem dX5_pass_10 : decode cX5_pass 10 = .ok (.aload_n 0, 1) := by decide +kernel
theorem dX5_pass_11 : decode cX5_pass 11 = .ok (.dup, 1) := by decide +kernel
theorem dX5_pass_12 : decode cX5_pass 12 = .ok (.getfield 95, 3) := by decide +kernel
theorem dX5_pass_15 : decode cX5_pass 15 = .ok (.iload_n 1, 1) := by decide +kernel
theorem dX5_pass_16 : decode cX5_pass 16 = .ok (.iadd, 1) := by decide +kernel
theorem dX5_pass_17 : decode cX5_pass 17 = .ok (.putfield 95, 3) := by decide +kernel
theorem dX5_pass_20 : decode cX5_pass 20 = .ok (.aload_n 0, 1) := by decide +kernel
theorem dX5_pass_21 : decode cX5_pass 21 = .ok (.getfield 95, 3) := by decide +kernel
theorem dX5_pass_24 : decode cX5_pass 24 = .ok (.aload_n 0, 1) := by decide +kernel
theorem dX5_pass_25 : decode cX5_pass 25 = .ok (.getfield 12, 3) := by decide +kernel
theorem dX5_pass_28 : decode cX5_pass 28 = .ok (.getfield 167, 3) := by decide +kernel
theorem dX5_pass_31 : decode cX5_pass 31 = .ok (.aload_n 0, 1) := by decide +kernel
theorem dX5_pass_32 : decode cX5_pass 32 = .ok (.getfield 92, 3) := by decide +kernel
theorem dX5_pass_35 : decode cX5_pass 35 = .ok (.iaload, 1) := by decide +kernel
theorem dX5_pass_36 : decode cX5_pass 36 = .ok (.if_icmp .lt 43, 3) := by decide +kernel
theorem dX5_pass_39 : decode cX5_pass 39 = .ok (.aload_n 0, 1) := by decide +kernel
theorem dX5_pass_40 : decode cX5_pass 40 = .ok (.iconst 0, 1) := by decide +kernel
theorem dX5_pass_41 : decode cX5_pass 41 = .ok (.putfield 95, 3) := by decide +kernel
theorem dX5_pass_44 : decode cX5_pass 44 = .ok (.aload_n 0, 1) := by decide +kernel
theorem dX5_pass_45 : decode cX5_pass 45 = .ok (.iconst 0, 1) := by decide +kernel
theorem dX5_pass_46 : decode cX5_pass 46 = .ok (.putfield 98, 3) := by decide +kernel
theorem dX5_pass_49 : decode cX5_pass 49 = .ok (.aload_n 0, 1) := by decide +kernel
theorem dX5_pass_50 : decode cX5_pass 50 = .ok (.aload_n 0, 1) := by decide +kernel
theorem dX5_pass_51 : decode cX5_pass 51 = .ok (.getfield 92, 3) := by decide +kernel
theorem dX5_pass_54 : decode cX5_pass 54 = .ok (.iconst 1, 1) := by decide +kernel
theorem dX5_pass_55 : decode cX5_pass 55 = .ok (.iadd, 1) := by decide +kernel
theorem dX5_pass_56 : decode cX5_pass 56 = .ok (.aload_n 0, 1) := by decide +kernel
theorem dX5_pass_57 : decode cX5_pass 57 = .ok (.getfield 12, 3) := by decide +kernel
theorem dX5_pass_60 : decode cX5_pass 60 = .ok (.getfield 190, 3) := by decide +kernel
theorem dX5_pass_63 : decode cX5_pass 63 = .ok (.if_icmp .ge 12, 3) := by decide +kernel
theorem dX5_pass_66 : decode cX5_pass 66 = .ok (.aload_n 0, 1) := by decide +kernel
theorem dX5_pass_67 : decode cX5_pass 67 = .ok (.getfield 92, 3) := by decide +kernel
theorem dX5_pass_70 : decode cX5_pass 70 = .ok (.iconst 1, 1) := by decide +kernel
theorem dX5_pass_71 : decode cX5_pass 71 = .ok (.iadd, 1) := by decide +kernel
theorem dX5_pass_72 : decode cX5_pass 72 = .ok (.goto 4, 3) := by decide +kernel
theorem dX5_pass_75 : decode cX5_pass 75 = .ok (.iconst 0, 1) := by decide +kernel
theorem dX5_pass_76 : decode cX5_pass 76 = .ok (.putfield 92, 3) := by decide +kernel
theorem dX5_pass_79 : decode cX5_pass 79 = .ok (.iload_n 1, 1) := by decide +kernel
theorem dX5_pass_80 : decode cX5_pass 80 = .ok (.ireturn, 1) := by decide +kernel
theorem cc_X5_pass : Cond.code yX5_pass cX5_pass 2 (some .int) ∈ rf_tb := rf_at 1112 (by decide +kernel) (by decide +kernel)
noncomputable def bc_X5_pass_76 (x1 : Int32) (v0 : (Option Nat)) (v1 : Int32) (σ : cl_S) : Option (Int32 × cl_S) := nn v0 (fun a_33 => vl (cl_w σ a_33 10 v1) (fun σ_36 => some (x1, σ_36)))
set_option maxHeartbeats 4000000 in
theorem wc_X5_pass_76 (C : cl_C D p s m args meth c cX5_pass 2 (some .int) RX5) {r : Int32} {x1 : Int32} {v0 : (Option Nat)} {v1 : Int32} {σ0 σ σ' : cl_S} {T : Nat → Nat × Nat} {H : Heap} {locs : List Loc} {ls : Array Slot} {cells slots : Nat} (h : bc_X5_pass_76 x1 v0 v1 σ = some (r, σ')) (G : cl_G true D c0 ({ frames := 0, cells := σ0.2.2.2.2.2.1, slots := σ0.2.2.2.2.2.2, locals := 0 }) s σ0.2.2.2.1 T σ H locs cells slots) (g0 : cl_RT T v0 21) (hl : lv_has ls 2 [(1, .int x1)]) : W p l e ({ frames := 0, cells := σ0.2.2.2.2.2.1, slots := σ0.2.2.2.2.2.2, locals := 0 }) s m args below meth c H locs cells slots (MQ below (cl_Q true D c0 (some (.int r)) cl_no σ0 σ') args s (σ0.2.2.2.2.2.1 - σ'.2.2.2.2.2.1) (σ0.2.2.2.2.2.2 - σ'.2.2.2.2.2.2) (cl_A c0 σ0.2.2.2.1 s.heap.size)) (F0 m 76 ls [.int v1, cl_rf c0 v0]) := by
  unfold bc_X5_pass_76 at h
  obtain ⟨a_33, rfl, h_35⟩ := nn_some h
  have t_34 := g0 _ rfl
  refine cp_5_92 C G t_34 dX5_pass_76 (fun H locs G_37 => ?_)
  refine cl_nm G_37 h_35 (fun σ_36 G_38 h_39 => ?_)
  refine lv_iload_n C.1 C.2.1 dX5_pass_79 rfl (lv_at hl 0 rfl) ?_
  exact cl_iret ⟨rfl, rfl⟩ rfl C G_38 h_39 dX5_pass_80
noncomputable def bc_X5_pass_0 (a : Nat) (x1 : Int32) (σ : cl_S) : Option (Int32 × cl_S) := vl (cl_w σ a 9 ((σ.1 a 9) + x1)) (fun σ_1 => vl (cl_w σ_1 a 11 ((σ_1.1 a 11) + x1)) (fun σ_5 => vl (σ_5.2.2.1 a 3) (fun r_10 => nn r_10 (fun a_13 => ix (σ_5.1 a 10) 32 ((if (σ_5.1 a 11) < (σ_5.1 (a_13 + 9) (σ_5.1 a 10).toNatClampNeg) then some (x1, σ_5) else vl (cl_w σ_5 a 11 (0:Int32)) (fun σ_18 => vl (cl_w σ_18 a 12 (0:Int32)) (fun σ_22 => vl (σ_22.2.2.1 a 3) (fun r_27 => nn r_27 (fun a_30 => (if (σ_22.1 a_30 9) ≤ ((σ_22.1 a 10) + (1:Int32)) then bc_X5_pass_76 x1 (some a) (0:Int32) σ_22 else bc_X5_pass_76 x1 (some a) ((σ_22.1 a 10) + (1:Int32)) σ_22)))))))))))
set_option maxHeartbeats 4000000 in
theorem wc_X5_pass_0 (C : cl_C D p s m args meth c cX5_pass 2 (some .int) RX5) {r : Int32} {a : Nat} {x1 : Int32} {σ0 σ σ' : cl_S} {T : Nat → Nat × Nat} {H : Heap} {locs : List Loc} {ls : Array Slot} {cells slots : Nat} (h : bc_X5_pass_0 a x1 σ = some (r, σ')) (G : cl_G true D c0 ({ frames := 0, cells := σ0.2.2.2.2.2.1, slots := σ0.2.2.2.2.2.2, locals := 0 }) s σ0.2.2.2.1 T σ H locs cells slots) (ha : (T a).1 = 21) (hl : lv_has ls 2 [(0, .ref (c0 + a)), (1, .int x1)]) : W p l e ({ frames := 0, cells := σ0.2.2.2.2.2.1, slots := σ0.2.2.2.2.2.2, locals := 0 }) s m args below meth c H locs cells slots (MQ below (cl_Q true D c0 (some (.int r)) cl_no σ0 σ') args s (σ0.2.2.2.2.2.1 - σ'.2.2.2.2.2.1) (σ0.2.2.2.2.2.2 - σ'.2.2.2.2.2.2) (cl_A c0 σ0.2.2.2.1 s.heap.size)) (F0 m 0 ls []) := by
  unfold bc_X5_pass_0 at h
  refine lv_aload_n C.1 C.2.1 dX5_pass_0 rfl (lv_at hl 0 rfl) ?_
  refine lv_dup C.1 C.2.1 dX5_pass_1 rfl ?_
  refine cg_5_89 C G ha dX5_pass_2 ?_
  refine lv_iload_n C.1 C.2.1 dX5_pass_5 rfl (lv_at hl 1 rfl) ?_
  refine lv_iadd C.1 C.2.1 dX5_pass_6 ?_
  refine cp_5_89 C G ha dX5_pass_7 (fun H locs G_2 => ?_)
  refine cl_nm G_2 h (fun σ_1 G_3 h_4 => ?_)
  refine lv_aload_n C.1 C.2.1 dX5_pass_10 rfl (lv_at hl 0 rfl) ?_
  refine lv_dup C.1 C.2.1 dX5_pass_11 rfl ?_
  refine cg_5_95 C G_3 ha dX5_pass_12 ?_
  refine lv_iload_n C.1 C.2.1 dX5_pass_15 rfl (lv_at hl 1 rfl) ?_
  refine lv_iadd C.1 C.2.1 dX5_pass_16 ?_
  refine cp_5_95 C G_3 ha dX5_pass_17 (fun H locs G_6 => ?_)
  refine cl_nm G_6 h_4 (fun σ_5 G_7 h_8 => ?_)
  refine lv_aload_n C.1 C.2.1 dX5_pass_20 rfl (lv_at hl 0 rfl) ?_
  refine cg_5_95 C G_7 ha dX5_pass_21 ?_
  refine lv_aload_n C.1 C.2.1 dX5_pass_24 rfl (lv_at hl 0 rfl) ?_
  refine cg_5_12 C G_7 ha dX5_pass_25 (fun t_9 => ?_)
  refine vt_r (K := 17) t_9 h_8 (fun r_10 t_11 h_12 => ?_)
  obtain ⟨a_13, rfl, h_15⟩ := nn_some h_12
  have t_14 := t_11 _ rfl
  refine cg_5_167 C G_7 t_14 dX5_pass_28 (fun t_16 => ?_)
  refine lv_aload_n C.1 C.2.1 dX5_pass_31 rfl (lv_at hl 0 rfl) ?_
  refine cg_5_92 C G_7 ha dX5_pass_32 ?_
  obtain ⟨hi, h_17⟩ := ix_some h_15
  refine cl_iald C G_7 t_16 hi dX5_pass_35 ?_
  refine lv_icmp_lt (tgt := 79) C.1 C.2.1 dX5_pass_36 (by decide) (fun hc => ?_) (fun hc => ?_)
  · rw [if_pos hc] at h_17
    refine lv_iload_n C.1 C.2.1 dX5_pass_79 rfl (lv_at hl 1 rfl) ?_
    exact cl_iret ⟨rfl, rfl⟩ rfl C G_7 h_17 dX5_pass_80
  · rw [if_neg hc] at h_17
    refine lv_aload_n C.1 C.2.1 dX5_pass_39 rfl (lv_at hl 0 rfl) ?_
    refine lv_iconst (v := (0:Int32)) C.1 C.2.1 dX5_pass_40 (by decide) ?_
    refine cp_5_95 C G_7 ha dX5_pass_41 (fun H locs G_19 => ?_)
    refine cl_nm G_19 h_17 (fun σ_18 G_20 h_21 => ?_)
    refine lv_aload_n C.1 C.2.1 dX5_pass_44 rfl (lv_at hl 0 rfl) ?_
    refine lv_iconst (v := (0:Int32)) C.1 C.2.1 dX5_pass_45 (by decide) ?_
    refine cp_5_98 C G_20 ha rfl rfl dX5_pass_46 (fun H locs G_23 => ?_)
    refine cl_nm G_23 h_21 (fun σ_22 G_24 h_25 => ?_)
    refine lv_aload_n C.1 C.2.1 dX5_pass_49 rfl (lv_at hl 0 rfl) ?_
    refine lv_aload_n C.1 C.2.1 dX5_pass_50 rfl (lv_at hl 0 rfl) ?_
    refine cg_5_92 C G_24 ha dX5_pass_51 ?_
    refine lv_iconst (v := (1:Int32)) C.1 C.2.1 dX5_pass_54 (by decide) ?_
    refine lv_iadd C.1 C.2.1 dX5_pass_55 ?_
    refine lv_aload_n C.1 C.2.1 dX5_pass_56 rfl (lv_at hl 0 rfl) ?_
    refine cg_5_12 C G_24 ha dX5_pass_57 (fun t_26 => ?_)
    refine vt_r (K := 17) t_26 h_25 (fun r_27 t_28 h_29 => ?_)
    obtain ⟨a_30, rfl, h_32⟩ := nn_some h_29
    have t_31 := t_28 _ rfl
    refine cg_5_190 C G_24 t_31 dX5_pass_60 ?_
    refine lv_icmp_ge (tgt := 75) C.1 C.2.1 dX5_pass_63 (by decide) (fun hc => ?_) (fun hc => ?_)
    · rw [if_pos hc] at h_32
      refine lv_iconst (v := (0:Int32)) C.1 C.2.1 dX5_pass_75 (by decide) ?_
      exact wc_X5_pass_76 C h_32 G_24 (cl_RTs ha) (lv_sub hl [1] rfl)
    · rw [if_neg hc] at h_32
      refine lv_aload_n C.1 C.2.1 dX5_pass_66 rfl (lv_at hl 0 rfl) ?_
      refine cg_5_92 C G_24 ha dX5_pass_67 ?_
      refine lv_iconst (v := (1:Int32)) C.1 C.2.1 dX5_pass_70 (by decide) ?_
      refine lv_iadd C.1 C.2.1 dX5_pass_71 ?_
      refine lv_goto (tgt := 76) C.1 C.2.1 dX5_pass_72 (by decide) ?_
      exact wc_X5_pass_76 C h_32 G_24 (cl_RTs ha) (lv_sub hl [1] rfl)
noncomputable def fc_X5_pass (a : Nat) (x1 : Int32) (σ : cl_S) : Option (Int32 × cl_S) := bc_X5_pass_0 a x1 σ
theorem kc_X5_pass (l : Launch) (D : cl_D) (c0 : Nat) {r : Int32} {a : Nat} {x1 : Int32} {σ σ' : cl_S} (ha : (σ.2.2.2.1 a).1 = 21) (h : fc_X5_pass a x1 σ = some (r, σ')) : cl_Met true l D c0 yX5_pass cX5_pass 2 (some .int) 0 0 [.ref (c0 + a), .int x1] σ (some (.int r)) cl_no σ' :=
  cl_of (by decide) (Nat.le_of_ble_eq_true rfl) (fun p e s m args below meth c ls C hn G hl => wc_X5_pass_0 C h G ha hl)
abbrev cX8_has : ByteArray := prog_10_method_3_code
def yX8_has : MethodName := ⟨RX8, "has", "(I)Z"⟩
theorem dX8_has_0 : decode cX8_has 0 = .ok (.iload_n 1, 1) := by decide +kernel
theorem dX8_has_1 : decode cX8_has 1 = .ok (.iconst 1, 1) := by decide +kernel
theorem dX8_has_2 : decode cX8_has 2 = .ok (.if_icmp .lt 15, 3) := by decide +kernel
theorem dX8_has_5 : decode cX8_has 5 = .ok (.iload_n 1, 1) := by decide +kernel
theorem dX8_has_6 : decode cX8_has 6 = .ok (.aload_n 0, 1) := by decide +kernel
theorem dX8_has_7 : decode cX8_has 7 = .ok (.getfield 33, 3) := by decide +kernel
theorem dX8_has_10 : decode cX8_has 10 = .ok (.if_icmp .gt 7, 3) := by decide +kernel
theorem dX8_has_13 : decode cX8_has 13 = .ok (.iconst 1, 1) := by decide +kernel
theorem dX8_has_14 : decode cX8_has 14 = .ok (.goto 4, 3) := by decide +kernel
theorem dX8_has_17 : decode cX8_has 17 = .ok (.iconst 0, 1) := by decide +kernel
theorem dX8_has_18 : decode cX8_has 18 = .ok (.ireturn, 1) := by decide +kernel
theorem cc_X8_has : Cond.code yX8_has cX8_has 2 (some .boolean) ∈ rf_tb := rf_at 1166 (by decide +kernel) (by decide +kernel)
noncomputable def bc_X8_has_0 (a : Nat) (x1 : Int32) (σ : cl_S) : Option (Int32 × cl_S) := (if x1 < (1:Int32) then some ((0:Int32), σ) else (if (σ.1 a 5) < x1 then some ((0:Int32), σ) else some ((1:Int32), σ)))
set_option maxHeartbeats 4000000 in
theorem wc_X8_has_0 (C : cl_C D p s m args meth c cX8_has 2 (some .boolean) RX8) {r : Int32} {a : Nat} {x1 : Int32} {σ0 σ σ' : cl_S} {T : Nat → Nat × Nat} {H : Heap} {locs : List Loc} {ls : Array Slot} {cells slots : Nat} (h : bc_X8_has_0 a x1 σ = some (r, σ')) (G : cl_G true D c0 ({ frames := 0, cells := σ0.2.2.2.2.2.1, slots := σ0.2.2.2.2.2.2, locals := 0 }) s σ0.2.2.2.1 T σ H locs cells slots) (ha : (T a).1 = 24) (hl : lv_has ls 2 [(0, .ref (c0 + a)), (1, .int x1)]) : W p l e ({ frames := 0, cells := σ0.2.2.2.2.2.1, slots := σ0.2.2.2.2.2.2, locals := 0 }) s m args below meth c H locs cells slots (MQ below (cl_Q true D c0 (some (.int r)) cl_no σ0 σ') args s (σ0.2.2.2.2.2.1 - σ'.2.2.2.2.2.1) (σ0.2.2.2.2.2.2 - σ'.2.2.2.2.2.2) (cl_A c0 σ0.2.2.2.1 s.heap.size)) (F0 m 0 ls []) := by
  unfold bc_X8_has_0 at h
  refine lv_iload_n C.1 C.2.1 dX8_has_0 rfl (lv_at hl 1 rfl) ?_
  refine lv_iconst (v := (1:Int32)) C.1 C.2.1 dX8_has_1 (by decide) ?_
  refine lv_icmp_lt (tgt := 17) C.1 C.2.1 dX8_has_2 (by decide) (fun hc => ?_) (fun hc => ?_)
  · rw [if_pos hc] at h
    refine lv_iconst (v := (0:Int32)) C.1 C.2.1 dX8_has_17 (by decide) ?_
    exact cl_zret ⟨rfl, rfl⟩ rfl C G h rfl dX8_has_18
  · rw [if_neg hc] at h
    refine lv_iload_n C.1 C.2.1 dX8_has_5 rfl (lv_at hl 1 rfl) ?_
    refine lv_aload_n C.1 C.2.1 dX8_has_6 rfl (lv_at hl 0 rfl) ?_
    refine cg_8_33 C G ha dX8_has_7 ?_
    refine lv_icmp_gt (tgt := 17) C.1 C.2.1 dX8_has_10 (by decide) (fun hc => ?_) (fun hc => ?_)
    · rw [if_pos hc] at h
      refine lv_iconst (v := (0:Int32)) C.1 C.2.1 dX8_has_17 (by decide) ?_
      exact cl_zret ⟨rfl, rfl⟩ rfl C G h rfl dX8_has_18
    · rw [if_neg hc] at h
      refine lv_iconst (v := (1:Int32)) C.1 C.2.1 dX8_has_13 (by decide) ?_
      refine lv_goto (tgt := 18) C.1 C.2.1 dX8_has_14 (by decide) ?_
      exact cl_zret ⟨rfl, rfl⟩ rfl C G h rfl dX8_has_18
noncomputable def fc_X8_has (a : Nat) (x1 : Int32) (σ : cl_S) : Option (Int32 × cl_S) := bc_X8_has_0 a x1 σ
theorem kc_X8_has (l : Launch) (D : cl_D) (c0 : Nat) {r : Int32} {a : Nat} {x1 : Int32} {σ σ' : cl_S} (ha : (σ.2.2.2.1 a).1 = 24) (h : fc_X8_has a x1 σ = some (r, σ')) : cl_Met true l D c0 yX8_has cX8_has 2 (some .boolean) 0 0 [.ref (c0 + a), .int x1] σ (some (.int r)) cl_no σ' :=
  cl_of (by decide) (Nat.le_of_ble_eq_true rfl) (fun p e s m args below meth c ls C hn G hl => wc_X8_has_0 C h G ha hl)
abbrev cX8_at : ByteArray := prog_10_method_5_code
def yX8_at : MethodName := ⟨RX8, "at", "(I)LPartHouse$Term;"⟩
theorem dX8_at_0 : decode cX8_at 0 = .ok (.aload_n 0, 1) := by decide +kernel
theorem dX8_at_1 : decode cX8_at 1 = .ok (.iload_n 1, 1) := by decide +kernel
theorem dX8_at_2 : decode cX8_at 2 = .ok (.invokevirtual 42, 3) := by decide +kernel
theorem dX8_at_5 : decode cX8_at 5 = .ok (.ifCond .eq 12, 3) := by decide +kernel
theorem dX8_at_8 : decode cX8_at 8 = .ok (.aload_n 0, 1) := by decide +kernel
theorem dX8_at_9 : decode cX8_at 9 = .ok (.getfield 25, 3) := by decide +kernel
theorem dX8_at_12 : decode cX8_at 12 = .ok (.iload_n 1, 1) := by decide +kernel
theorem dX8_at_13 : decode cX8_at 13 = .ok (.aaload, 1) := by decide +kernel
theorem dX8_at_14 : decode cX8_at 14 = .ok (.goto 10, 3) := by decide +kernel
theorem dX8_at_17 : decode cX8_at 17 = .ok (.aload_n 0, 1) := by decide +kernel
theorem dX8_at_18 : decode cX8_at 18 = .ok (.getfield 9, 3) := by decide +kernel
theorem dX8_at_21 : decode cX8_at 21 = .ok (.getfield 46, 3) := by decide +kernel
theorem dX8_at_24 : decode cX8_at 24 = .ok (.areturn, 1) := by decide +kernel
theorem cc_X8_at : Cond.code yX8_at cX8_at 2 (some (.object "PartHouse$Term")) ∈ rf_tb := rf_at 1162 (by decide +kernel) (by decide +kernel)
theorem cw_RX8_42 : cl_wV RX8 RX8 yX8_has cX8_has 2 (some .boolean) 42 1 := ⟨⟨rf_at 1163 (by decide +kernel) (by decide +kernel), rf_at 1164 (by decide +kernel) (by decide +kernel), rf_at 1165 (by decide +kernel) (by decide +kernel), cc_X8_has, rf_at 11 (by decide +kernel) (by decide +kernel)⟩, ⟨by decide, by decide, by decide +kernel⟩⟩
noncomputable def bc_X8_at_0 (a : Nat) (x1 : Int32) (σ : cl_S) : Option ((Option Nat) × cl_S) := bd2 (fc_X8_has a x1 σ) (fun r_2 σ_1 => (if r_2 = 0 then vl (σ_1.2.2.1 31 4) (fun r_9 => some (r_9, σ_1)) else ix x1 (cl_th a) (vl (σ_1.2.2.1 (a + 1) x1.toNatClampNeg) (fun r_15 => some (r_15, σ_1)))))
set_option maxHeartbeats 4000000 in
theorem wc_X8_at_0 (C : cl_C D p s m args meth c cX8_at 2 (some (.object "PartHouse$Term")) RX8) {r : (Option Nat)} {a : Nat} {x1 : Int32} {σ0 σ σ' : cl_S} {T : Nat → Nat × Nat} {H : Heap} {locs : List Loc} {ls : Array Slot} {cells slots : Nat} (h : bc_X8_at_0 a x1 σ = some (r, σ')) (G : cl_G true D c0 ({ frames := 1, cells := σ0.2.2.2.2.2.1, slots := σ0.2.2.2.2.2.2, locals := 21 }) s σ0.2.2.2.1 T σ H locs cells slots) (ha : (T a).1 = 24) (hl : lv_has ls 2 [(0, .ref (c0 + a)), (1, .int x1)]) : W p l e ({ frames := 1, cells := σ0.2.2.2.2.2.1, slots := σ0.2.2.2.2.2.2, locals := 21 }) s m args below meth c H locs cells slots (MQ below (cl_Q true D c0 (some (cl_rf c0 r)) (fun T1 => cl_RT T1 r 25) σ0 σ') args s (σ0.2.2.2.2.2.1 - σ'.2.2.2.2.2.1) (σ0.2.2.2.2.2.2 - σ'.2.2.2.2.2.2) (cl_A c0 σ0.2.2.2.1 s.heap.size)) (F0 m 0 ls []) := by
  unfold bc_X8_at_0 at h
  refine lv_aload_n C.1 C.2.1 dX8_at_0 rfl (lv_at hl 0 rfl) ?_
  refine lv_iload_n C.1 C.2.1 dX8_at_1 rfl (lv_at hl 1 rfl) ?_
  obtain ⟨r_2, σ_1, hq, h_3⟩ := bd2_some h
  refine cl_callV (ci := 8) (rest := []) C G rfl ha cw_RX8_42 [.int x1] _ (kc_X8_has l D c0 (by rw [G.1]; exact ha) hq) (Nat.le_of_ble_eq_true rfl) (Nat.le_of_ble_eq_true rfl) rfl rfl hl.1 (Nat.le_of_ble_eq_true rfl) dX8_at_2 (fun T_4 H locs cells slots t_5 hu G_6 => ?_)
  have ha := hu.kind ha (by decide)
  refine W.eq (g2 := F0 m 5 ls [.int r_2]) rfl ?_
  refine lv_if_eq (tgt := 17) C.1 C.2.1 dX8_at_5 (by decide) (fun hc => ?_) (fun hc => ?_)
  · rw [if_pos hc] at h_3
    refine lv_aload_n C.1 C.2.1 dX8_at_17 rfl (lv_at hl 0 rfl) ?_
    refine cg_8_9 C G_6 ha dX8_at_18 (fun t_7 => ?_)
    have t_7 : (T_4 31).1 = 26 := by rw [t_7]
    refine cg_8_46 C G_6 t_7 dX8_at_21 (fun t_8 => ?_)
    refine vt_r (K := 25) t_8 h_3 (fun r_9 t_10 h_11 => ?_)
    exact cl_aret (v := r_9) ⟨rfl, rfl⟩ rfl C G_6 h_11 (by first | exact Or.inl ⟨_, rfl⟩ | exact Or.inr ⟨_, rfl⟩) t_10 dX8_at_24
  · rw [if_neg hc] at h_3
    refine lv_aload_n C.1 C.2.1 dX8_at_8 rfl (lv_at hl 0 rfl) ?_
    refine cg_8_25 C G_6 ha dX8_at_9 (fun t_12 => ?_)
    refine lv_iload_n C.1 C.2.1 dX8_at_12 rfl (lv_at hl 1 rfl) ?_
    obtain ⟨hi, h_13⟩ := ix_some h_3
    refine cl_aald C G_6 t_12 (by decide) (by decide) rfl hi dX8_at_13 (fun t_14 => ?_)
    refine vt_r (K := 25) t_14 h_13 (fun r_15 t_16 h_17 => ?_)
    refine lv_goto (tgt := 24) C.1 C.2.1 dX8_at_14 (by decide) ?_
    exact cl_aret (v := r_15) ⟨rfl, rfl⟩ rfl C G_6 h_17 (by first | exact Or.inl ⟨_, rfl⟩ | exact Or.inr ⟨_, rfl⟩) t_16 dX8_at_24
noncomputable def fc_X8_at (a : Nat) (x1 : Int32) (σ : cl_S) : Option ((Option Nat) × cl_S) := bc_X8_at_0 a x1 σ
theorem kc_X8_at (l : Launch) (D : cl_D) (c0 : Nat) {r : (Option Nat)} {a : Nat} {x1 : Int32} {σ σ' : cl_S} (ha : (σ.2.2.2.1 a).1 = 24) (h : fc_X8_at a x1 σ = some (r, σ')) : cl_Met true l D c0 yX8_at cX8_at 2 (some (.object "PartHouse$Term")) 1 21 [.ref (c0 + a), .int x1] σ (some (cl_rf c0 r)) (fun T1 => cl_RT T1 r 25) σ' :=
  cl_of (by decide) (Nat.le_of_ble_eq_true rfl) (fun p e s m args below meth c ls C hn G hl => wc_X8_at_0 C h G ha hl)
abbrev cX5_yieldTurn : ByteArray := prog_7_method_12_code
def yX5_yieldTurn : MethodName := ⟨RX5, "yieldTurn", "()I"⟩
theorem dX5_yieldTurn_0 : decode cX5_yieldTurn 0 = .ok (.aload_n 0, 1) := by decide +kernel
theorem dX5_yieldTurn_1 : decode cX5_yieldTurn 1 = .ok (.iconst 1, 1) := by decide +kernel
theorem dX5_yieldTurn_2 : decode cX5_yieldTurn 2 = .ok (.putfield 98, 3) := by decide +kernel
theorem dX5_yieldTurn_5 : decode cX5_yieldTurn 5 = .ok (.iconst 0, 1) := by decide +kernel
theorem dX5_yieldTurn_6 : decode cX5_yieldTurn 6 = .ok (.ireturn, 1) := by decide +kernel
theorem cc_X5_yieldTurn : Cond.code yX5_yieldTurn cX5_yieldTurn 1 (some .int) ∈ rf_tb := rf_at 1170 (by decide +kernel) (by decide +kernel)
noncomputable def bc_X5_yieldTurn_0 (a : Nat) (σ : cl_S) : Option (Int32 × cl_S) := vl (cl_w σ a 12 (1:Int32)) (fun σ_1 => some ((0:Int32), σ_1))
set_option maxHeartbeats 4000000 in
theorem wc_X5_yieldTurn_0 (C : cl_C D p s m args meth c cX5_yieldTurn 1 (some .int) RX5) {r : Int32} {a : Nat} {σ0 σ σ' : cl_S} {T : Nat → Nat × Nat} {H : Heap} {locs : List Loc} {ls : Array Slot} {cells slots : Nat} (h : bc_X5_yieldTurn_0 a σ = some (r, σ')) (G : cl_G true D c0 ({ frames := 0, cells := σ0.2.2.2.2.2.1, slots := σ0.2.2.2.2.2.2, locals := 0 }) s σ0.2.2.2.1 T σ H locs cells slots) (ha : (T a).1 = 21) (hl : lv_has ls 1 [(0, .ref (c0 + a))]) : W p l e ({ frames := 0, cells := σ0.2.2.2.2.2.1, slots := σ0.2.2.2.2.2.2, locals := 0 }) s m args below meth c H locs cells slots (MQ below (cl_Q true D c0 (some (.int r)) cl_no σ0 σ') args s (σ0.2.2.2.2.2.1 - σ'.2.2.2.2.2.1) (σ0.2.2.2.2.2.2 - σ'.2.2.2.2.2.2) (cl_A c0 σ0.2.2.2.1 s.heap.size)) (F0 m 0 ls []) := by
  unfold bc_X5_yieldTurn_0 at h
  refine lv_aload_n C.1 C.2.1 dX5_yieldTurn_0 rfl (lv_at hl 0 rfl) ?_
  refine lv_iconst (v := (1:Int32)) C.1 C.2.1 dX5_yieldTurn_1 (by decide) ?_
  refine cp_5_98 C G ha rfl rfl dX5_yieldTurn_2 (fun H locs G_2 => ?_)
  refine cl_nm G_2 h (fun σ_1 G_3 h_4 => ?_)
  refine lv_iconst (v := (0:Int32)) C.1 C.2.1 dX5_yieldTurn_5 (by decide) ?_
  exact cl_iret ⟨rfl, rfl⟩ rfl C G_3 h_4 dX5_yieldTurn_6
noncomputable def fc_X5_yieldTurn (a : Nat) (σ : cl_S) : Option (Int32 × cl_S) := bc_X5_yieldTurn_0 a σ
theorem kc_X5_yieldTurn (l : Launch) (D : cl_D) (c0 : Nat) {r : Int32} {a : Nat} {σ σ' : cl_S} (ha : (σ.2.2.2.1 a).1 = 21) (h : fc_X5_yieldTurn a σ = some (r, σ')) : cl_Met true l D c0 yX5_yieldTurn cX5_yieldTurn 1 (some .int) 0 0 [.ref (c0 + a)] σ (some (.int r)) cl_no σ' :=
  cl_of (by decide) (Nat.le_of_ble_eq_true rfl) (fun p e s m args below meth c ls C hn G hl => wc_X5_yieldTurn_0 C h G ha hl)
abbrev cX6_askWord : ByteArray := prog_8_method_6_code
def yX6_askWord : MethodName := ⟨RX6, "askWord", "()I"⟩
theorem dX6_askWord_0 : decode cX6_askWord 0 = .ok (.aload_n 0, 1) := by decide +kernel
theorem dX6_askWord_1 : decode cX6_askWord 1 = .ok (.getfield 12, 3) := by decide +kernel
theorem dX6_askWord_4 : decode cX6_askWord 4 = .ok (.getfield 101, 3) := by decide +kernel
theorem dX6_askWord_7 : decode cX6_askWord 7 = .ok (.iconst 2, 1) := by decide +kernel
theorem dX6_askWord_8 : decode cX6_askWord 8 = .ok (.aload_n 0, 1) := by decide +kernel
theorem dX6_askWord_9 : decode cX6_askWord 9 = .ok (.getfield 79, 3) := by decide +kernel
theorem dX6_askWord_12 : decode cX6_askWord 12 = .ok (.ifCond .le 7, 3) := by decide +kernel
theorem dX6_askWord_15 : decode cX6_askWord 15 = .ok (.iconst 1, 1) := by decide +kernel
theorem dX6_askWord_16 : decode cX6_askWord 16 = .ok (.goto 4, 3) := by decide +kernel
theorem dX6_askWord_19 : decode cX6_askWord 19 = .ok (.iconst 0, 1) := by decide +kernel
theorem dX6_askWord_20 : decode cX6_askWord 20 = .ok (.iastore, 1) := by decide +kernel
theorem dX6_askWord_21 : decode cX6_askWord 21 = .ok (.aload_n 0, 1) := by decide +kernel
theorem dX6_askWord_22 : decode cX6_askWord 22 = .ok (.getfield 79, 3) := by decide +kernel
theorem dX6_askWord_25 : decode cX6_askWord 25 = .ok (.ifCond .ne 5, 3) := by decide +kernel
theorem dX6_askWord_28 : decode cX6_askWord 28 = .ok (.iconst 0, 1) := by decide +kernel
theorem dX6_askWord_29 : decode cX6_askWord 29 = .ok (.ireturn, 1) := by decide +kernel
theorem dX6_askWord_30 : decode cX6_askWord 30 = .ok (.aload_n 0, 1) := by decide +kernel
theorem dX6_askWord_31 : decode cX6_askWord 31 = .ok (.getfield 28, 3) := by decide +kernel
theorem dX6_askWord_34 : decode cX6_askWord 34 = .ok (.iconst 0, 1) := by decide +kernel
theorem dX6_askWord_35 : decode cX6_askWord 35 = .ok (.iaload, 1) := by decide +kernel
theorem dX6_askWord_36 : decode cX6_askWord 36 = .ok (.istore_n 1, 1) := by decide +kernel
theorem dX6_askWord_37 : decode cX6_askWord 37 = .ok (.aload_n 0, 1) := by decide +kernel
theorem dX6_askWord_38 : decode cX6_askWord 38 = .ok (.dup, 1) := by decide +kernel
theorem dX6_askWord_39 : decode cX6_askWord 39 = .ok (.getfield 79, 3) := by decide +kernel
theorem dX6_askWord_42 : decode cX6_askWord 42 = .ok (.iconst 1, 1) := by decide +kernel
theorem dX6_askWord_43 : decode cX6_askWord 43 = .ok (.isub, 1) := by decide +kernel
theorem dX6_askWord_44 : decode cX6_askWord 44 = .ok (.putfield 79, 3) := by decide +kernel
theorem dX6_askWord_47 : decode cX6_askWord 47 = .ok (.iconst 0, 1) := by decide +kernel
theorem dX6_askWord_48 : decode cX6_askWord 48 = .ok (.istore_n 2, 1) := by decide +kernel
theorem dX6_askWord_49 : decode cX6_askWord 49 = .ok (.iload_n 2, 1) := by decide +kernel
theorem dX6_askWord_50 : decode cX6_askWord 50 = .ok (.aload_n 0, 1) := by decide +kernel
theorem dX6_askWord_51 : decode cX6_askWord 51 = .ok (.getfield 79, 3) := by decide +kernel
theorem dX6_askWord_54 : decode cX6_askWord 54 = .ok (.if_icmp .ge 23, 3) := by decide +kernel
theorem dX6_askWord_57 : decode cX6_askWord 57 = .ok (.aload_n 0, 1) := by decide +kernel
theorem dX6_askWord_58 : decode cX6_askWord 58 = .ok (.getfield 28, 3) := by decide +kernel
theorem dX6_askWord_61 : decode cX6_askWord 61 = .ok (.iload_n 2, 1) := by decide +kernel
theorem dX6_askWord_62 : decode cX6_askWord 62 = .ok (.aload_n 0, 1) := by decide +kernel
theorem dX6_askWord_63 : decode cX6_askWord 63 = .ok (.getfield 28, 3) := by decide +kernel
theorem dX6_askWord_66 : decode cX6_askWord 66 = .ok (.iload_n 2, 1) := by decide +kernel
theorem dX6_askWord_67 : decode cX6_askWord 67 = .ok (.iconst 1, 1) := by decide +kernel
theorem dX6_askWord_68 : decode cX6_askWord 68 = .ok (.iadd, 1) := by decide +kernel
theorem dX6_askWord_69 : decode cX6_askWord 69 = .ok (.iaload, 1) := by decide +kernel
theorem dX6_askWord_70 : decode cX6_askWord 70 = .ok (.iastore, 1) := by decide +kernel
theorem dX6_askWord_71 : decode cX6_askWord 71 = .ok (.iinc 2 1, 3) := by decide +kernel
theorem dX6_askWord_74 : decode cX6_askWord 74 = .ok (.goto (-25), 3) := by decide +kernel
theorem dX6_askWord_77 : decode cX6_askWord 77 = .ok (.iload_n 1, 1) := by decide +kernel
theorem dX6_askWord_78 : decode cX6_askWord 78 = .ok (.ireturn, 1) := by decide +kernel
theorem cc_X6_askWord : Cond.code yX6_askWord cX6_askWord 3 (some .int) ∈ rf_tb := rf_at 1178 (by decide +kernel) (by decide +kernel)
noncomputable def lc_X6_askWord_49 (a : Nat) (x1 : Int32) (x2 : Int32) (σ : cl_S) : Option ((Int32 × cl_S) ⊕ (Int32 × cl_S)) := (if (σ.1 a 8) ≤ x2 then some (.inr (x2, σ)) else ix (x2 + (1:Int32)) 64 (ix x2 64 (vl (cl_w σ (a + 6) x2.toNatClampNeg (σ.1 (a + 6) (x2 + (1:Int32)).toNatClampNeg)) (fun σ_21 => vl (x2 + (1:Int32)) (fun x2_26 => some (.inl (x2_26, σ_21)))))))
noncomputable def ec_X6_askWord_49 (a : Nat) (x1 : Int32) (x2 : Int32) (σ : cl_S) : Option (Int32 × cl_S) := some (x1, σ)
noncomputable def bc_X6_askWord_49 (a : Nat) (x1 : Int32) (x2 : Int32) (σ : cl_S) : Option (Int32 × cl_S) := (lp (fun z : (Int32 × cl_S) => lc_X6_askWord_49 a x1 z.1 z.2) (x2, σ)).bind (fun z => ec_X6_askWord_49 a x1 z.1 z.2)
set_option maxHeartbeats 4000000 in
theorem wc_X6_askWord_49 (C : cl_C D p s m args meth c cX6_askWord 3 (some .int) RX6) {r : Int32} {a : Nat} {x1 : Int32} {x2 : Int32} {σ0 σ σ' : cl_S} {T : Nat → Nat × Nat} {H : Heap} {locs : List Loc} {ls : Array Slot} {cells slots : Nat} (h : bc_X6_askWord_49 a x1 x2 σ = some (r, σ')) (G : cl_G true D c0 ({ frames := 0, cells := σ0.2.2.2.2.2.1, slots := σ0.2.2.2.2.2.2, locals := 0 }) s σ0.2.2.2.1 T σ H locs cells slots) (ha : (T a).1 = 22) (hl : lv_has ls 3 [(0, .ref (c0 + a)), (1, .int x1), (2, .int x2)]) : W p l e ({ frames := 0, cells := σ0.2.2.2.2.2.1, slots := σ0.2.2.2.2.2.2, locals := 0 }) s m args below meth c H locs cells slots (MQ below (cl_Q true D c0 (some (.int r)) cl_no σ0 σ') args s (σ0.2.2.2.2.2.1 - σ'.2.2.2.2.2.1) (σ0.2.2.2.2.2.2 - σ'.2.2.2.2.2.2) (cl_A c0 σ0.2.2.2.1 s.heap.size)) (F0 m 49 ls []) := by
  unfold bc_X6_askWord_49 at h
  obtain ⟨y, hy, h⟩ := bd_some h
  have hE : (fun z : (Int32 × cl_S) => ∀ (T : Nat → Nat × Nat) (H : Heap) (locs : List Loc) (ls : Array Slot) (cells slots : Nat), cl_G true D c0 ({ frames := 0, cells := σ0.2.2.2.2.2.1, slots := σ0.2.2.2.2.2.2, locals := 0 }) s σ0.2.2.2.1 T z.2 H locs cells slots → (T a).1 = 22 → lv_has ls 3 [(0, .ref (c0 + a)), (1, .int x1), (2, .int (z.1))] → W p l e ({ frames := 0, cells := σ0.2.2.2.2.2.1, slots := σ0.2.2.2.2.2.2, locals := 0 }) s m args below meth c H locs cells slots (MQ below (cl_Q true D c0 (some (.int r)) cl_no σ0 σ') args s (σ0.2.2.2.2.2.1 - σ'.2.2.2.2.2.1) (σ0.2.2.2.2.2.2 - σ'.2.2.2.2.2.2) (cl_A c0 σ0.2.2.2.1 s.heap.size)) (F0 m 77 ls [])) y := by
    clear hy G ha hl
    intro T H locs ls cells slots G ha hl
    obtain ⟨x2, σ⟩ := y
    dsimp only at h G ha hl
    unfold ec_X6_askWord_49 at h
    refine lv_iload_n C.1 C.2.1 dX6_askWord_77 rfl (lv_at hl 1 rfl) ?_
    exact cl_iret ⟨rfl, rfl⟩ rfl C G h dX6_askWord_78
  refine lp_recE (fun z : (Int32 × cl_S) => ∀ (T : Nat → Nat × Nat) (H : Heap) (locs : List Loc) (ls : Array Slot) (cells slots : Nat), cl_G true D c0 ({ frames := 0, cells := σ0.2.2.2.2.2.1, slots := σ0.2.2.2.2.2.2, locals := 0 }) s σ0.2.2.2.1 T z.2 H locs cells slots → (T a).1 = 22 → lv_has ls 3 [(0, .ref (c0 + a)), (1, .int x1), (2, .int (z.1))] → W p l e ({ frames := 0, cells := σ0.2.2.2.2.2.1, slots := σ0.2.2.2.2.2.2, locals := 0 }) s m args below meth c H locs cells slots (MQ below (cl_Q true D c0 (some (.int r)) cl_no σ0 σ') args s (σ0.2.2.2.2.2.1 - σ'.2.2.2.2.2.1) (σ0.2.2.2.2.2.2 - σ'.2.2.2.2.2.2) (cl_A c0 σ0.2.2.2.1 s.heap.size)) (F0 m 49 ls [])) (fun z : (Int32 × cl_S) => ∀ (T : Nat → Nat × Nat) (H : Heap) (locs : List Loc) (ls : Array Slot) (cells slots : Nat), cl_G true D c0 ({ frames := 0, cells := σ0.2.2.2.2.2.1, slots := σ0.2.2.2.2.2.2, locals := 0 }) s σ0.2.2.2.1 T z.2 H locs cells slots → (T a).1 = 22 → lv_has ls 3 [(0, .ref (c0 + a)), (1, .int x1), (2, .int (z.1))] → W p l e ({ frames := 0, cells := σ0.2.2.2.2.2.1, slots := σ0.2.2.2.2.2.2, locals := 0 }) s m args below meth c H locs cells slots (MQ below (cl_Q true D c0 (some (.int r)) cl_no σ0 σ') args s (σ0.2.2.2.2.2.1 - σ'.2.2.2.2.2.1) (σ0.2.2.2.2.2.2 - σ'.2.2.2.2.2.2) (cl_A c0 σ0.2.2.2.1 s.heap.size)) (F0 m 77 ls [])) ?_ _ _ hy hE _ _ _ _ _ _ G ha hl
  clear hE hy G ha hl h
  intro z o h hP T H locs ls cells slots G ha hl
  obtain ⟨x2, σ⟩ := z
  dsimp only at h G ha hl
  unfold lc_X6_askWord_49 at h
  refine lv_iload_n C.1 C.2.1 dX6_askWord_49 rfl (lv_at hl 2 rfl) ?_
  refine lv_aload_n C.1 C.2.1 dX6_askWord_50 rfl (lv_at hl 0 rfl) ?_
  refine cg_6_79 C G ha dX6_askWord_51 ?_
  refine lv_icmp_ge (tgt := 77) C.1 C.2.1 dX6_askWord_54 (by decide) (fun hc => ?_) (fun hc => ?_)
  · rw [if_pos hc] at h
    cases h
    exact hP _ _ _ _ _ _ G ha (lv_sub hl [0, 1, 2] rfl)
  · rw [if_neg hc] at h
    refine lv_aload_n C.1 C.2.1 dX6_askWord_57 rfl (lv_at hl 0 rfl) ?_
    refine cg_6_28 C G ha dX6_askWord_58 (fun t_18 => ?_)
    refine lv_iload_n C.1 C.2.1 dX6_askWord_61 rfl (lv_at hl 2 rfl) ?_
    refine lv_aload_n C.1 C.2.1 dX6_askWord_62 rfl (lv_at hl 0 rfl) ?_
    refine cg_6_28 C G ha dX6_askWord_63 (fun t_19 => ?_)
    refine lv_iload_n C.1 C.2.1 dX6_askWord_66 rfl (lv_at hl 2 rfl) ?_
    refine lv_iconst (v := (1:Int32)) C.1 C.2.1 dX6_askWord_67 (by decide) ?_
    refine lv_iadd C.1 C.2.1 dX6_askWord_68 ?_
    obtain ⟨hi, h_20⟩ := ix_some h
    refine cl_iald C G t_19 hi dX6_askWord_69 ?_
    obtain ⟨hi, h_22⟩ := ix_some h_20
    refine cl_iast C G t_18 hi dX6_askWord_70 (fun H locs G_23 => ?_)
    refine cl_nm G_23 h_22 (fun σ_21 G_24 h_25 => ?_)
    refine vl_ex h_25 (fun x2_26 ey h_27 => ?_)
    refine lv_iinc (v := x2_26) (lv' := [(2, .int x2_26), (0, .ref (c0 + a)), (1, .int x1)]) C.1 C.2.1 dX6_askWord_71 hl (k := 2) rfl (by rw [ey]; rfl) (by decide) rfl (fun ls hl_28 => ?_)
    refine lv_goto (tgt := 49) C.1 C.2.1 dX6_askWord_74 (by decide) ?_
    cases h_27
    exact hP _ _ _ _ _ _ G_24 ha (lv_sub hl_28 [1, 2, 0] rfl)
noncomputable def bc_X6_askWord_20 (a : Nat) (v0 : Nat) (w0 : Nat) (v1 : Int32) (v2 : Int32) (σ : cl_S) : Option (Int32 × cl_S) := ix v1 w0 (vl (cl_w σ v0 v1.toNatClampNeg v2) (fun σ_3 => (if (σ_3.1 a 8) = 0 then some ((0:Int32), σ_3) else ix (0:Int32) 64 (vl (σ_3.1 (a + 6) (0:Int32).toNatClampNeg) (fun x1_10 => vl (cl_w σ_3 a 8 ((σ_3.1 a 8) - (1:Int32))) (fun σ_13 => bc_X6_askWord_49 a x1_10 (0:Int32) σ_13))))))
set_option maxHeartbeats 4000000 in
theorem wc_X6_askWord_20 (C : cl_C D p s m args meth c cX6_askWord 3 (some .int) RX6) {r : Int32} {a : Nat} {v0 : Nat} {w0 : Nat} {v1 : Int32} {v2 : Int32} {σ0 σ σ' : cl_S} {T : Nat → Nat × Nat} {H : Heap} {locs : List Loc} {ls : Array Slot} {cells slots : Nat} (h : bc_X6_askWord_20 a v0 w0 v1 v2 σ = some (r, σ')) (G : cl_G true D c0 ({ frames := 0, cells := σ0.2.2.2.2.2.1, slots := σ0.2.2.2.2.2.2, locals := 0 }) s σ0.2.2.2.1 T σ H locs cells slots) (ha : (T a).1 = 22) (g0 : T v0 = (1, w0)) (hl : lv_has ls 3 [(0, .ref (c0 + a))]) : W p l e ({ frames := 0, cells := σ0.2.2.2.2.2.1, slots := σ0.2.2.2.2.2.2, locals := 0 }) s m args below meth c H locs cells slots (MQ below (cl_Q true D c0 (some (.int r)) cl_no σ0 σ') args s (σ0.2.2.2.2.2.1 - σ'.2.2.2.2.2.1) (σ0.2.2.2.2.2.2 - σ'.2.2.2.2.2.2) (cl_A c0 σ0.2.2.2.1 s.heap.size)) (F0 m 20 ls [.int v2, .int v1, .ref (c0 + v0)]) := by
  unfold bc_X6_askWord_20 at h
  obtain ⟨hi, h_4⟩ := ix_some h
  refine cl_iast C G g0 hi dX6_askWord_20 (fun H locs G_5 => ?_)
  refine cl_nm G_5 h_4 (fun σ_3 G_6 h_7 => ?_)
  refine lv_aload_n C.1 C.2.1 dX6_askWord_21 rfl (lv_at hl 0 rfl) ?_
  refine cg_6_79 C G_6 ha dX6_askWord_22 ?_
  refine lv_if_ne (tgt := 30) C.1 C.2.1 dX6_askWord_25 (by decide) (fun hc => ?_) (fun hc => ?_)
  · rw [if_neg hc] at h_7
    refine lv_aload_n C.1 C.2.1 dX6_askWord_30 rfl (lv_at hl 0 rfl) ?_
    refine cg_6_28 C G_6 ha dX6_askWord_31 (fun t_8 => ?_)
    refine lv_iconst (v := (0:Int32)) C.1 C.2.1 dX6_askWord_34 (by decide) ?_
    obtain ⟨hi, h_9⟩ := ix_some h_7
    refine cl_iald C G_6 t_8 hi dX6_askWord_35 ?_
    refine vt_i h_9 (fun x1_10 h_11 => ?_)
    refine lv_istore_n (lv' := [(1, .int x1_10), (0, .ref (c0 + a))]) C.1 C.2.1 dX6_askWord_36 rfl hl (by decide) rfl (fun ls hl_12 => ?_)
    refine lv_aload_n C.1 C.2.1 dX6_askWord_37 rfl (lv_at hl_12 1 rfl) ?_
    refine lv_dup C.1 C.2.1 dX6_askWord_38 rfl ?_
    refine cg_6_79 C G_6 ha dX6_askWord_39 ?_
    refine lv_iconst (v := (1:Int32)) C.1 C.2.1 dX6_askWord_42 (by decide) ?_
    refine lv_isub C.1 C.2.1 dX6_askWord_43 ?_
    refine cp_6_79 C G_6 ha dX6_askWord_44 (fun H locs G_14 => ?_)
    refine cl_nm G_14 h_11 (fun σ_13 G_15 h_16 => ?_)
    refine lv_iconst (v := (0:Int32)) C.1 C.2.1 dX6_askWord_47 (by decide) ?_
    refine lv_istore_n (lv' := [(2, .int (0:Int32)), (1, .int x1_10), (0, .ref (c0 + a))]) C.1 C.2.1 dX6_askWord_48 rfl hl_12 (by decide) rfl (fun ls hl_17 => ?_)
    exact wc_X6_askWord_49 C h_16 G_15 ha (lv_sub hl_17 [2, 1, 0] rfl)
  · rw [if_pos hc] at h_7
    refine lv_iconst (v := (0:Int32)) C.1 C.2.1 dX6_askWord_28 (by decide) ?_
    exact cl_iret ⟨rfl, rfl⟩ rfl C G_6 h_7 dX6_askWord_29
noncomputable def bc_X6_askWord_0 (a : Nat) (σ : cl_S) : Option (Int32 × cl_S) := (if (σ.1 a 8) ≤ 0 then bc_X6_askWord_20 a ((a + 1) + 2) 16 (2:Int32) (0:Int32) σ else bc_X6_askWord_20 a ((a + 1) + 2) 16 (2:Int32) (1:Int32) σ)
set_option maxHeartbeats 4000000 in
theorem wc_X6_askWord_0 (C : cl_C D p s m args meth c cX6_askWord 3 (some .int) RX6) {r : Int32} {a : Nat} {σ0 σ σ' : cl_S} {T : Nat → Nat × Nat} {H : Heap} {locs : List Loc} {ls : Array Slot} {cells slots : Nat} (h : bc_X6_askWord_0 a σ = some (r, σ')) (G : cl_G true D c0 ({ frames := 0, cells := σ0.2.2.2.2.2.1, slots := σ0.2.2.2.2.2.2, locals := 0 }) s σ0.2.2.2.1 T σ H locs cells slots) (ha : (T a).1 = 22) (hl : lv_has ls 3 [(0, .ref (c0 + a))]) : W p l e ({ frames := 0, cells := σ0.2.2.2.2.2.1, slots := σ0.2.2.2.2.2.2, locals := 0 }) s m args below meth c H locs cells slots (MQ below (cl_Q true D c0 (some (.int r)) cl_no σ0 σ') args s (σ0.2.2.2.2.2.1 - σ'.2.2.2.2.2.1) (σ0.2.2.2.2.2.2 - σ'.2.2.2.2.2.2) (cl_A c0 σ0.2.2.2.1 s.heap.size)) (F0 m 0 ls []) := by
  unfold bc_X6_askWord_0 at h
  refine lv_aload_n C.1 C.2.1 dX6_askWord_0 rfl (lv_at hl 0 rfl) ?_
  refine cg_6_12 C G ha dX6_askWord_1 (fun t_1 => ?_)
  have t_1 : (T (a + 1)).1 = 18 := by rw [t_1]
  refine cg_6_101 C G t_1 dX6_askWord_4 (fun t_2 => ?_)
  refine lv_iconst (v := (2:Int32)) C.1 C.2.1 dX6_askWord_7 (by decide) ?_
  refine lv_aload_n C.1 C.2.1 dX6_askWord_8 rfl (lv_at hl 0 rfl) ?_
  refine cg_6_79 C G ha dX6_askWord_9 ?_
  refine lv_if_le (tgt := 19) C.1 C.2.1 dX6_askWord_12 (by decide) (fun hc => ?_) (fun hc => ?_)
  · rw [if_pos hc] at h
    refine lv_iconst (v := (0:Int32)) C.1 C.2.1 dX6_askWord_19 (by decide) ?_
    exact wc_X6_askWord_20 C h G ha t_2 (lv_sub hl [0] rfl)
  · rw [if_neg hc] at h
    refine lv_iconst (v := (1:Int32)) C.1 C.2.1 dX6_askWord_15 (by decide) ?_
    refine lv_goto (tgt := 20) C.1 C.2.1 dX6_askWord_16 (by decide) ?_
    exact wc_X6_askWord_20 C h G ha t_2 (lv_sub hl [0] rfl)
noncomputable def fc_X6_askWord (a : Nat) (σ : cl_S) : Option (Int32 × cl_S) := bc_X6_askWord_0 a σ
theorem kc_X6_askWord (l : Launch) (D : cl_D) (c0 : Nat) {r : Int32} {a : Nat} {σ σ' : cl_S} (ha : (σ.2.2.2.1 a).1 = 22) (h : fc_X6_askWord a σ = some (r, σ')) : cl_Met true l D c0 yX6_askWord cX6_askWord 3 (some .int) 0 0 [.ref (c0 + a)] σ (some (.int r)) cl_no σ' :=
  cl_of (by decide) (Nat.le_of_ble_eq_true rfl) (fun p e s m args below meth c ls C hn G hl => wc_X6_askWord_0 C h G ha hl)
abbrev cX6_putOut : ByteArray := prog_8_method_8_code
def yX6_putOut : MethodName := ⟨RX6, "putOut", "(ILPartHouse$Term;)I"⟩
theorem dX6_putOut_0 : decode cX6_putOut 0 = .ok (.aload_n 0, 1) := by decide +kernel
theorem dX6_putOut_1 : decode cX6_putOut 1 = .ok (.getfield 76, 3) := by decide +kernel
theorem dX6_putOut_4 : decode cX6_putOut 4 = .ok (.sipush 200, 3) := by decide +kernel
theorem dX6_putOut_7 : decode cX6_putOut 7 = .ok (.if_icmp .lt 6, 3) := by decide +kernel
theorem dX6_putOut_10 : decode cX6_putOut 10 = .ok (.bipush (-4), 2) := by decide +kernel
theorem dX6_putOut_12 : decode cX6_putOut 12 = .ok (.ireturn, 1) := by decide +kernel
theorem dX6_putOut_13 : decode cX6_putOut 13 = .ok (.aload_n 0, 1) := by decide +kernel
theorem dX6_putOut_14 : decode cX6_putOut 14 = .ok (.getfield 18, 3) := by decide +kernel
theorem dX6_putOut_17 : decode cX6_putOut 17 = .ok (.aload_n 0, 1) := by decide +kernel
theorem dX6_putOut_18 : decode cX6_putOut 18 = .ok (.getfield 76, 3) := by decide +kernel
theorem dX6_putOut_21 : decode cX6_putOut 21 = .ok (.iload_n 1, 1) := by decide +kernel
theorem dX6_putOut_22 : decode cX6_putOut 22 = .ok (.iastore, 1) := by decide +kernel
theorem dX6_putOut_23 : decode cX6_putOut 23 = .ok (.aload_n 0, 1) := by decide +kernel
theorem dX6_putOut_24 : decode cX6_putOut 24 = .ok (.getfield 24, 3) := by decide +kernel
theorem dX6_putOut_27 : decode cX6_putOut 27 = .ok (.aload_n 0, 1) := by decide +kernel
theorem dX6_putOut_28 : decode cX6_putOut 28 = .ok (.getfield 76, 3) := by decide +kernel
theorem dX6_putOut_31 : decode cX6_putOut 31 = .ok (.aload_n 2, 1) := by decide +kernel
theorem dX6_putOut_32 : decode cX6_putOut 32 = .ok (.aastore, 1) := by decide +kernel
theorem dX6_putOut_33 : decode cX6_putOut 33 = .ok (.aload_n 0, 1) := by decide +kernel
theorem dX6_putOut_34 : decode cX6_putOut 34 = .ok (.dup, 1) := by decide +kernel
theorem dX6_putOut_35 : decode cX6_putOut 35 = .ok (.getfield 76, 3) := by decide +kernel
theorem dX6_putOut_38 : decode cX6_putOut 38 = .ok (.iconst 1, 1) := by decide +kernel
theorem dX6_putOut_39 : decode cX6_putOut 39 = .ok (.iadd, 1) := by decide +kernel
theorem dX6_putOut_40 : decode cX6_putOut 40 = .ok (.putfield 76, 3) := by decide +kernel
theorem dX6_putOut_43 : decode cX6_putOut 43 = .ok (.iconst 0, 1) := by decide +kernel
theorem dX6_putOut_44 : decode cX6_putOut 44 = .ok (.ireturn, 1) := by decide +kernel
theorem cc_X6_putOut : Cond.code yX6_putOut cX6_putOut 3 (some .int) ∈ rf_tb := rf_at 1182 (by decide +kernel) (by decide +kernel)
noncomputable def bc_X6_putOut_0 (a : Nat) (x1 : Int32) (x2 : (Option Nat)) (σ : cl_S) : Option (Int32 × cl_S) := (if (σ.1 a 6) < (200:Int32) then ix (σ.1 a 6) 200 (vl (cl_w σ (a + 4) (σ.1 a 6).toNatClampNeg x1) (fun σ_2 => ix (σ_2.1 a 6) 200 (vl (cl_wr σ_2 (a + 5) (σ_2.1 a 6).toNatClampNeg x2) (fun σ_8 => vl (cl_w σ_8 a 6 ((σ_8.1 a 6) + (1:Int32))) (fun σ_13 => some ((0:Int32), σ_13)))))) else some ((-4:Int32), σ))
set_option maxHeartbeats 4000000 in
theorem wc_X6_putOut_0 (C : cl_C D p s m args meth c cX6_putOut 3 (some .int) RX6) {r : Int32} {a : Nat} {x1 : Int32} {x2 : (Option Nat)} {σ0 σ σ' : cl_S} {T : Nat → Nat × Nat} {H : Heap} {locs : List Loc} {ls : Array Slot} {cells slots : Nat} (h : bc_X6_putOut_0 a x1 x2 σ = some (r, σ')) (G : cl_G true D c0 ({ frames := 0, cells := σ0.2.2.2.2.2.1, slots := σ0.2.2.2.2.2.2, locals := 0 }) s σ0.2.2.2.1 T σ H locs cells slots) (ha : (T a).1 = 22) (f2 : cl_RT T x2 25) (hl : lv_has ls 3 [(0, .ref (c0 + a)), (1, .int x1), (2, cl_rf c0 x2)]) : W p l e ({ frames := 0, cells := σ0.2.2.2.2.2.1, slots := σ0.2.2.2.2.2.2, locals := 0 }) s m args below meth c H locs cells slots (MQ below (cl_Q true D c0 (some (.int r)) cl_no σ0 σ') args s (σ0.2.2.2.2.2.1 - σ'.2.2.2.2.2.1) (σ0.2.2.2.2.2.2 - σ'.2.2.2.2.2.2) (cl_A c0 σ0.2.2.2.1 s.heap.size)) (F0 m 0 ls []) := by
  unfold bc_X6_putOut_0 at h
  refine lv_aload_n C.1 C.2.1 dX6_putOut_0 rfl (lv_at hl 0 rfl) ?_
  refine cg_6_76 C G ha dX6_putOut_1 ?_
  refine lv_sipush (v := (200:Int32)) C.1 C.2.1 dX6_putOut_4 (by decide) ?_
  refine lv_icmp_lt (tgt := 13) C.1 C.2.1 dX6_putOut_7 (by decide) (fun hc => ?_) (fun hc => ?_)
  · rw [if_pos hc] at h
    refine lv_aload_n C.1 C.2.1 dX6_putOut_13 rfl (lv_at hl 0 rfl) ?_
    refine cg_6_18 C G ha dX6_putOut_14 (fun t_1 => ?_)
    refine lv_aload_n C.1 C.2.1 dX6_putOut_17 rfl (lv_at hl 0 rfl) ?_
    refine cg_6_76 C G ha dX6_putOut_18 ?_
    refine lv_iload_n C.1 C.2.1 dX6_putOut_21 rfl (lv_at hl 1 rfl) ?_
    obtain ⟨hi, h_3⟩ := ix_some h
    refine cl_iast C G t_1 hi dX6_putOut_22 (fun H locs G_4 => ?_)
    refine cl_nm G_4 h_3 (fun σ_2 G_5 h_6 => ?_)
    refine lv_aload_n C.1 C.2.1 dX6_putOut_23 rfl (lv_at hl 0 rfl) ?_
    refine cg_6_24 C G_5 ha dX6_putOut_24 (fun t_7 => ?_)
    refine lv_aload_n C.1 C.2.1 dX6_putOut_27 rfl (lv_at hl 0 rfl) ?_
    refine cg_6_76 C G_5 ha dX6_putOut_28 ?_
    refine cl_aload_n C.1 C.2.1 dX6_putOut_31 rfl (lv_at hl 2 rfl) ?_
    obtain ⟨hi, h_9⟩ := ix_some h_6
    refine cl_aast (ci := 9) (x := x2) C G_5 rfl rfl rfl t_7 (by decide) (by decide) f2 hi dX6_putOut_32 (fun H locs G_10 => ?_)
    refine cl_nm G_10 h_9 (fun σ_8 G_11 h_12 => ?_)
    refine lv_aload_n C.1 C.2.1 dX6_putOut_33 rfl (lv_at hl 0 rfl) ?_
    refine lv_dup C.1 C.2.1 dX6_putOut_34 rfl ?_
    refine cg_6_76 C G_11 ha dX6_putOut_35 ?_
    refine lv_iconst (v := (1:Int32)) C.1 C.2.1 dX6_putOut_38 (by decide) ?_
    refine lv_iadd C.1 C.2.1 dX6_putOut_39 ?_
    refine cp_6_76 C G_11 ha dX6_putOut_40 (fun H locs G_14 => ?_)
    refine cl_nm G_14 h_12 (fun σ_13 G_15 h_16 => ?_)
    refine lv_iconst (v := (0:Int32)) C.1 C.2.1 dX6_putOut_43 (by decide) ?_
    exact cl_iret ⟨rfl, rfl⟩ rfl C G_15 h_16 dX6_putOut_44
  · rw [if_neg hc] at h
    refine lv_bipush (v := (-4:Int32)) C.1 C.2.1 dX6_putOut_10 (by decide) ?_
    exact cl_iret ⟨rfl, rfl⟩ rfl C G h dX6_putOut_12
noncomputable def fc_X6_putOut (a : Nat) (x1 : Int32) (x2 : (Option Nat)) (σ : cl_S) : Option (Int32 × cl_S) := bc_X6_putOut_0 a x1 x2 σ
theorem kc_X6_putOut (l : Launch) (D : cl_D) (c0 : Nat) {r : Int32} {a : Nat} {x1 : Int32} {x2 : (Option Nat)} {σ σ' : cl_S} (ha : (σ.2.2.2.1 a).1 = 22) (h : fc_X6_putOut a x1 x2 σ = some (r, σ')) (f2 : cl_RT σ.2.2.2.1 x2 25) : cl_Met true l D c0 yX6_putOut cX6_putOut 3 (some .int) 0 0 [.ref (c0 + a), .int x1, cl_rf c0 x2] σ (some (.int r)) cl_no σ' :=
  by cases x2 <;> exact cl_of (by decide) (Nat.le_of_ble_eq_true rfl) (fun p e s m args below meth c ls C hn G hl => wc_X6_putOut_0 C h G ha f2 hl)
abbrev cX5_isFrom : ByteArray := prog_7_method_13_code
def yX5_isFrom : MethodName := ⟨RX5, "isFrom", "(LPartHouse$Partition;I)Z"⟩
theorem dX5_isFrom_0 : decode cX5_isFrom 0 = .ok (.iload_n 2, 1) := by decide +kernel
theorem dX5_isFrom_1 : decode cX5_isFrom 1 = .ok (.ifCond .lt 34, 3) := by decide +kernel
theorem dX5_isFrom_4 : decode cX5_isFrom 4 = .ok (.iload_n 2, 1) := by decide +kernel
theorem dX5_isFrom_5 : decode cX5_isFrom 5 = .ok (.aload_n 0, 1) := by decide +kernel
theorem dX5_isFrom_6 : decode cX5_isFrom 6 = .ok (.getfield 12, 3) := by decide +kernel
theorem dX5_isFrom_9 : decode cX5_isFrom 9 = .ok (.getfield 300, 3) := by decide +kernel
theorem dX5_isFrom_12 : decode cX5_isFrom 12 = .ok (.if_icmp .ge 23, 3) := by decide +kernel
theorem dX5_isFrom_15 : decode cX5_isFrom 15 = .ok (.aload_n 0, 1) := by decide +kernel
theorem dX5_isFrom_16 : decode cX5_isFrom 16 = .ok (.getfield 12, 3) := by decide +kernel
theorem dX5_isFrom_19 : decode cX5_isFrom 19 = .ok (.getfield 303, 3) := by decide +kernel
theorem dX5_isFrom_22 : decode cX5_isFrom 22 = .ok (.iload_n 2, 1) := by decide +kernel
theorem dX5_isFrom_23 : decode cX5_isFrom 23 = .ok (.iaload, 1) := by decide +kernel
theorem dX5_isFrom_24 : decode cX5_isFrom 24 = .ok (.aload_n 1, 1) := by decide +kernel
theorem dX5_isFrom_25 : decode cX5_isFrom 25 = .ok (.getfield 306, 3) := by decide +kernel
theorem dX5_isFrom_28 : decode cX5_isFrom 28 = .ok (.if_icmp .ne 7, 3) := by decide +kernel
theorem dX5_isFrom_31 : decode cX5_isFrom 31 = .ok (.iconst 1, 1) := by decide +kernel
theorem dX5_isFrom_32 : decode cX5_isFrom 32 = .ok (.goto 4, 3) := by decide +kernel
theorem dX5_isFrom_35 : decode cX5_isFrom 35 = .ok (.iconst 0, 1) := by decide +kernel
theorem dX5_isFrom_36 : decode cX5_isFrom 36 = .ok (.ireturn, 1) := by decide +kernel
theorem cc_X5_isFrom : Cond.code yX5_isFrom cX5_isFrom 3 (some .boolean) ∈ rf_tb := rf_at 1190 (by decide +kernel) (by decide +kernel)
noncomputable def bc_X5_isFrom_0 (a : Nat) (x1 : (Option Nat)) (x2 : Int32) (σ : cl_S) : Option (Int32 × cl_S) := (if x2 < 0 then some ((0:Int32), σ) else vl (σ.2.2.1 a 3) (fun r_2 => nn r_2 (fun a_5 => (if (σ.1 a_5 5) ≤ x2 then some ((0:Int32), σ) else vl (σ.2.2.1 a 3) (fun r_9 => nn r_9 (fun a_12 => ix x2 16 (nn x1 (fun a_17 => (if (σ.1 (a_12 + 5) x2.toNatClampNeg) = (σ.1 a_17 3) then some ((1:Int32), σ) else some ((0:Int32), σ))))))))))
set_option maxHeartbeats 4000000 in
theorem wc_X5_isFrom_0 (C : cl_C D p s m args meth c cX5_isFrom 3 (some .boolean) RX5) {r : Int32} {a : Nat} {x1 : (Option Nat)} {x2 : Int32} {σ0 σ σ' : cl_S} {T : Nat → Nat × Nat} {H : Heap} {locs : List Loc} {ls : Array Slot} {cells slots : Nat} (h : bc_X5_isFrom_0 a x1 x2 σ = some (r, σ')) (G : cl_G true D c0 ({ frames := 0, cells := σ0.2.2.2.2.2.1, slots := σ0.2.2.2.2.2.2, locals := 0 }) s σ0.2.2.2.1 T σ H locs cells slots) (ha : (T a).1 = 21) (f1 : cl_RT T x1 22) (hl : lv_has ls 3 [(0, .ref (c0 + a)), (1, cl_rf c0 x1), (2, .int x2)]) : W p l e ({ frames := 0, cells := σ0.2.2.2.2.2.1, slots := σ0.2.2.2.2.2.2, locals := 0 }) s m args below meth c H locs cells slots (MQ below (cl_Q true D c0 (some (.int r)) cl_no σ0 σ') args s (σ0.2.2.2.2.2.1 - σ'.2.2.2.2.2.1) (σ0.2.2.2.2.2.2 - σ'.2.2.2.2.2.2) (cl_A c0 σ0.2.2.2.1 s.heap.size)) (F0 m 0 ls []) := by
  unfold bc_X5_isFrom_0 at h
  refine lv_iload_n C.1 C.2.1 dX5_isFrom_0 rfl (lv_at hl 2 rfl) ?_
  refine lv_if_lt (tgt := 35) C.1 C.2.1 dX5_isFrom_1 (by decide) (fun hc => ?_) (fun hc => ?_)
  · rw [if_pos hc] at h
    refine lv_iconst (v := (0:Int32)) C.1 C.2.1 dX5_isFrom_35 (by decide) ?_
    exact cl_zret ⟨rfl, rfl⟩ rfl C G h rfl dX5_isFrom_36
  · rw [if_neg hc] at h
    refine lv_iload_n C.1 C.2.1 dX5_isFrom_4 rfl (lv_at hl 2 rfl) ?_
    refine lv_aload_n C.1 C.2.1 dX5_isFrom_5 rfl (lv_at hl 0 rfl) ?_
    refine cg_5_12 C G ha dX5_isFrom_6 (fun t_1 => ?_)
    refine vt_r (K := 17) t_1 h (fun r_2 t_3 h_4 => ?_)
    obtain ⟨a_5, rfl, h_7⟩ := nn_some h_4
    have t_6 := t_3 _ rfl
    refine cg_5_300 C G t_6 dX5_isFrom_9 ?_
    refine lv_icmp_ge (tgt := 35) C.1 C.2.1 dX5_isFrom_12 (by decide) (fun hc => ?_) (fun hc => ?_)
    · rw [if_pos hc] at h_7
      refine lv_iconst (v := (0:Int32)) C.1 C.2.1 dX5_isFrom_35 (by decide) ?_
      exact cl_zret ⟨rfl, rfl⟩ rfl C G h_7 rfl dX5_isFrom_36
    · rw [if_neg hc] at h_7
      refine lv_aload_n C.1 C.2.1 dX5_isFrom_15 rfl (lv_at hl 0 rfl) ?_
      refine cg_5_12 C G ha dX5_isFrom_16 (fun t_8 => ?_)
      refine vt_r (K := 17) t_8 h_7 (fun r_9 t_10 h_11 => ?_)
      obtain ⟨a_12, rfl, h_14⟩ := nn_some h_11
      have t_13 := t_10 _ rfl
      refine cg_5_303 C G t_13 dX5_isFrom_19 (fun t_15 => ?_)
      refine lv_iload_n C.1 C.2.1 dX5_isFrom_22 rfl (lv_at hl 2 rfl) ?_
      obtain ⟨hi, h_16⟩ := ix_some h_14
      refine cl_iald C G t_15 hi dX5_isFrom_23 ?_
      refine cl_aload_n C.1 C.2.1 dX5_isFrom_24 rfl (lv_at hl 1 rfl) ?_
      obtain ⟨a_17, rfl, h_19⟩ := nn_some h_16
      have t_18 := f1 _ rfl
      refine cg_5_306 C G t_18 dX5_isFrom_25 ?_
      refine lv_icmp_ne (tgt := 35) C.1 C.2.1 dX5_isFrom_28 (by decide) (fun hc => ?_) (fun hc => ?_)
      · rw [if_neg hc] at h_19
        refine lv_iconst (v := (0:Int32)) C.1 C.2.1 dX5_isFrom_35 (by decide) ?_
        exact cl_zret ⟨rfl, rfl⟩ rfl C G h_19 rfl dX5_isFrom_36
      · rw [if_pos hc] at h_19
        refine lv_iconst (v := (1:Int32)) C.1 C.2.1 dX5_isFrom_31 (by decide) ?_
        refine lv_goto (tgt := 36) C.1 C.2.1 dX5_isFrom_32 (by decide) ?_
        exact cl_zret ⟨rfl, rfl⟩ rfl C G h_19 rfl dX5_isFrom_36
noncomputable def fc_X5_isFrom (a : Nat) (x1 : (Option Nat)) (x2 : Int32) (σ : cl_S) : Option (Int32 × cl_S) := bc_X5_isFrom_0 a x1 x2 σ
theorem kc_X5_isFrom (l : Launch) (D : cl_D) (c0 : Nat) {r : Int32} {a : Nat} {x1 : (Option Nat)} {x2 : Int32} {σ σ' : cl_S} (ha : (σ.2.2.2.1 a).1 = 21) (h : fc_X5_isFrom a x1 x2 σ = some (r, σ')) (f1 : cl_RT σ.2.2.2.1 x1 22) : cl_Met true l D c0 yX5_isFrom cX5_isFrom 3 (some .boolean) 0 0 [.ref (c0 + a), cl_rf c0 x1, .int x2] σ (some (.int r)) cl_no σ' :=
  by cases x1 <;> exact cl_of (by decide) (Nat.le_of_ble_eq_true rfl) (fun p e s m args below meth c ls C hn G hl => wc_X5_isFrom_0 C h G ha f1 hl)
abbrev cX5_send : ByteArray := prog_7_method_15_code
def yX5_send : MethodName := ⟨RX5, "send", "(LPartHouse$Partition;I)I"⟩
theorem dX5_send_0 : decode cX5_send 0 = .ok (.aload_n 0, 1) := by decide +kernel
theorem dX5_send_1 : decode cX5_send 1 = .ok (.aload_n 1, 1) := by decide +kernel
theorem dX5_send_2 : decode cX5_send 2 = .ok (.iload_n 2, 1) := by decide +kernel
theorem dX5_send_3 : decode cX5_send 3 = .ok (.invokevirtual 312, 3) := by decide +kernel
theorem dX5_send_6 : decode cX5_send 6 = .ok (.ifCond .ne 5, 3) := by decide +kernel
theorem dX5_send_9 : decode cX5_send 9 = .ok (.iconst (-1), 1) := by decide +kernel
theorem dX5_send_10 : decode cX5_send 10 = .ok (.ireturn, 1) := by decide +kernel
theorem dX5_send_11 : decode cX5_send 11 = .ok (.aload_n 1, 1) := by decide +kernel
theorem dX5_send_12 : decode cX5_send 12 = .ok (.getfield 121, 3) := by decide +kernel
theorem dX5_send_15 : decode cX5_send 15 = .ok (.getfield 193, 3) := by decide +kernel
theorem dX5_send_18 : decode cX5_send 18 = .ok (.iconst 2, 1) := by decide +kernel
theorem dX5_send_19 : decode cX5_send 19 = .ok (.iaload, 1) := by decide +kernel
theorem dX5_send_20 : decode cX5_send 20 = .ok (.istore_n 3, 1) := by decide +kernel
theorem dX5_send_21 : decode cX5_send 21 = .ok (.aload_n 1, 1) := by decide +kernel
theorem dX5_send_22 : decode cX5_send 22 = .ok (.getfield 121, 3) := by decide +kernel
theorem dX5_send_25 : decode cX5_send 25 = .ok (.iload_n 3, 1) := by decide +kernel
theorem dX5_send_26 : decode cX5_send 26 = .ok (.aload_n 0, 1) := by decide +kernel
theorem dX5_send_27 : decode cX5_send 27 = .ok (.getfield 12, 3) := by decide +kernel
theorem dX5_send_30 : decode cX5_send 30 = .ok (.getfield 316, 3) := by decide +kernel
theorem dX5_send_33 : decode cX5_send 33 = .ok (.iload_n 2, 1) := by decide +kernel
theorem dX5_send_34 : decode cX5_send 34 = .ok (.iaload, 1) := by decide +kernel
theorem dX5_send_35 : decode cX5_send 35 = .ok (.invokevirtual 319, 3) := by decide +kernel
theorem dX5_send_38 : decode cX5_send 38 = .ok (.ifCond .ne 6, 3) := by decide +kernel
theorem dX5_send_41 : decode cX5_send 41 = .ok (.bipush (-2), 2) := by decide +kernel
theorem dX5_send_43 : decode cX5_send 43 = .ok (.ireturn, 1) := by decide +kernel
theorem dX5_send_44 : decode cX5_send 44 = .ok (.aload_n 1, 1) := by decide +kernel
theorem dX5_send_45 : decode cX5_send 45 = .ok (.getfield 121, 3) := by decide +kernel
theorem dX5_send_48 : decode cX5_send 48 = .ok (.getfield 323, 3) := by decide +kernel
theorem dX5_send_51 : decode cX5_send 51 = .ok (.iload_n 3, 1) := by decide +kernel
theorem dX5_send_52 : decode cX5_send 52 = .ok (.iconst 2, 1) := by decide +kernel
theorem dX5_send_53 : decode cX5_send 53 = .ok (.ishr, 1) := by decide +kernel
theorem dX5_send_54 : decode cX5_send 54 = .ok (.aload_n 0, 1) := by decide +kernel
theorem dX5_send_55 : decode cX5_send 55 = .ok (.getfield 26, 3) := by decide +kernel
theorem dX5_send_58 : decode cX5_send 58 = .ok (.iload_n 2, 1) := by decide +kernel
theorem dX5_send_59 : decode cX5_send 59 = .ok (.aaload, 1) := by decide +kernel
theorem dX5_send_60 : decode cX5_send 60 = .ok (.iconst 0, 1) := by decide +kernel
theorem dX5_send_61 : decode cX5_send 61 = .ok (.aload_n 0, 1) := by decide +kernel
theorem dX5_send_62 : decode cX5_send 62 = .ok (.getfield 12, 3) := by decide +kernel
theorem dX5_send_65 : decode cX5_send 65 = .ok (.getfield 316, 3) := by decide +kernel
theorem dX5_send_68 : decode cX5_send 68 = .ok (.iload_n 2, 1) := by decide +kernel
theorem dX5_send_69 : decode cX5_send 69 = .ok (.iaload, 1) := by decide +kernel
theorem dX5_send_70 : decode cX5_send 70 = .ok (.invokestatic 326, 3) := by decide +kernel
theorem dX5_send_73 : decode cX5_send 73 = .ok (.aload_n 0, 1) := by decide +kernel
theorem dX5_send_74 : decode cX5_send 74 = .ok (.getfield 29, 3) := by decide +kernel
theorem dX5_send_77 : decode cX5_send 77 = .ok (.iload_n 2, 1) := by decide +kernel
theorem dX5_send_78 : decode cX5_send 78 = .ok (.iconst 1, 1) := by decide +kernel
theorem dX5_send_79 : decode cX5_send 79 = .ok (.iastore, 1) := by decide +kernel
theorem dX5_send_80 : decode cX5_send 80 = .ok (.iconst 0, 1) := by decide +kernel
theorem dX5_send_81 : decode cX5_send 81 = .ok (.ireturn, 1) := by decide +kernel
theorem cc_X5_send : Cond.code yX5_send cX5_send 4 (some .int) ∈ rf_tb := rf_at 1186 (by decide +kernel) (by decide +kernel)
theorem cw_RX5_312 : cl_wV RX5 RX5 yX5_isFrom cX5_isFrom 3 (some .boolean) 312 2 := ⟨⟨rf_at 1187 (by decide +kernel) (by decide +kernel), rf_at 1189 (by decide +kernel) (by decide +kernel), rf_sel (q := (yX5_isFrom, 20)) 44 (by decide +kernel) (by decide +kernel), cc_X5_isFrom, rf_at 13 (by decide +kernel) (by decide +kernel)⟩, ⟨by decide, by decide, by decide +kernel⟩⟩
theorem cw_RX5_319 : cl_wV RX5 RX2 yX2_holds cX2_holds 3 (some .boolean) 319 2 := ⟨⟨rf_at 1191 (by decide +kernel) (by decide +kernel), rf_at 1192 (by decide +kernel) (by decide +kernel), rf_at 1193 (by decide +kernel) (by decide +kernel), cc_X2_holds, rf_at 16 (by decide +kernel) (by decide +kernel)⟩, ⟨by decide, by decide, by decide +kernel⟩⟩
theorem mw_RX5_326 : Cond.methodLink RX5 326 arraycopyName ∈ rf_tb := rf_at 1195 (by decide +kernel) (by decide +kernel)
noncomputable def bc_X5_send_0 (a : Nat) (x1 : (Option Nat)) (x2 : Int32) (σ : cl_S) : Option (Int32 × cl_S) := bd2 (fc_X5_isFrom a x1 x2 σ) (fun r_2 σ_1 => (if r_2 = 0 then some ((-1:Int32), σ_1) else nn x1 (fun a_7 => ix (2:Int32) 16 (vl (σ_1.1 ((a_7 + 1) + 2) (2:Int32).toNatClampNeg) (fun x3_13 => vl (σ_1.2.2.1 a 3) (fun r_18 => nn r_18 (fun a_21 => ix x2 16 (bd2 (fc_X2_holds (a_7 + 1) x3_13 (σ_1.1 (a_21 + 7) x2.toNatClampNeg) σ_1) (fun r_27 σ_26 => (if r_27 = 0 then some ((-2:Int32), σ_26) else ix x2 16 (vl (σ_26.2.2.1 (a + 13 + cl_md a) x2.toNatClampNeg) (fun r_37 => vl (σ_26.2.2.1 a 3) (fun r_41 => nn r_41 (fun a_44 => ix x2 16 (nn r_37 (fun a_49 => cpg (x3_13 >>> ((2:Int32) &&& 31)) (0:Int32) (σ_26.1 (a_44 + 7) x2.toNatClampNeg) 2048 (σ_26.2.2.2.1 a_49).2 (vl (cl_cp σ_26 ((a_7 + 1) + 1) a_49 (x3_13 >>> ((2:Int32) &&& 31)) (0:Int32) (σ_26.1 (a_44 + 7) x2.toNatClampNeg)) (fun σ_53 => ix x2 16 (vl (cl_w σ_53 (a + 30 + cl_md a) x2.toNatClampNeg (1:Int32)) (fun σ_59 => some ((0:Int32), σ_59)))))))))))))))))))))
set_option maxHeartbeats 4000000 in
theorem wc_X5_send_0 (C : cl_C D p s m args meth c cX5_send 4 (some .int) RX5) {r : Int32} {a : Nat} {x1 : (Option Nat)} {x2 : Int32} {σ0 σ σ' : cl_S} {T : Nat → Nat × Nat} {H : Heap} {locs : List Loc} {ls : Array Slot} {cells slots : Nat} (h : bc_X5_send_0 a x1 x2 σ = some (r, σ')) (G : cl_G true D c0 ({ frames := 1, cells := σ0.2.2.2.2.2.1, slots := σ0.2.2.2.2.2.2, locals := 48 }) s σ0.2.2.2.1 T σ H locs cells slots) (ha : (T a).1 = 21) (f1 : cl_RT T x1 22) (hl : lv_has ls 4 [(0, .ref (c0 + a)), (1, cl_rf c0 x1), (2, .int x2)]) : W p l e ({ frames := 1, cells := σ0.2.2.2.2.2.1, slots := σ0.2.2.2.2.2.2, locals := 48 }) s m args below meth c H locs cells slots (MQ below (cl_Q true D c0 (some (.int r)) cl_no σ0 σ') args s (σ0.2.2.2.2.2.1 - σ'.2.2.2.2.2.1) (σ0.2.2.2.2.2.2 - σ'.2.2.2.2.2.2) (cl_A c0 σ0.2.2.2.1 s.heap.size)) (F0 m 0 ls []) := by
  unfold bc_X5_send_0 at h
  refine lv_aload_n C.1 C.2.1 dX5_send_0 rfl (lv_at hl 0 rfl) ?_
  refine cl_aload_n C.1 C.2.1 dX5_send_1 rfl (lv_at hl 1 rfl) ?_
  refine lv_iload_n C.1 C.2.1 dX5_send_2 rfl (lv_at hl 2 rfl) ?_
  obtain ⟨r_2, σ_1, hq, h_3⟩ := bd2_some h
  refine cl_callV (ci := 5) (rest := []) C G rfl ha cw_RX5_312 [cl_rf c0 x1, .int x2] _ (kc_X5_isFrom l D c0 (by rw [G.1]; exact ha) hq (by rw [G.1]; exact f1)) (Nat.le_of_ble_eq_true rfl) (Nat.le_of_ble_eq_true rfl) rfl rfl hl.1 (Nat.le_of_ble_eq_true rfl) dX5_send_3 (fun T_4 H locs cells slots t_5 hu G_6 => ?_)
  have ha := hu.kind ha (by decide)
  have f1 := f1.up hu (by decide)
  refine W.eq (g2 := F0 m 6 ls [.int r_2]) rfl ?_
  refine lv_if_ne (tgt := 11) C.1 C.2.1 dX5_send_6 (by decide) (fun hc => ?_) (fun hc => ?_)
  · rw [if_neg hc] at h_3
    refine cl_aload_n C.1 C.2.1 dX5_send_11 rfl (lv_at hl 1 rfl) ?_
    obtain ⟨a_7, rfl, h_9⟩ := nn_some h_3
    have t_8 := f1 _ rfl
    refine cg_5_121 C G_6 t_8 dX5_send_12 (fun t_10 => ?_)
    have t_10 : (T_4 (a_7 + 1)).1 = 18 := by rw [t_10]
    refine cg_5_193 C G_6 t_10 dX5_send_15 (fun t_11 => ?_)
    refine lv_iconst (v := (2:Int32)) C.1 C.2.1 dX5_send_18 (by decide) ?_
    obtain ⟨hi, h_12⟩ := ix_some h_9
    refine cl_iald C G_6 t_11 hi dX5_send_19 ?_
    refine vt_i h_12 (fun x3_13 h_14 => ?_)
    refine lv_istore_n (lv' := [(3, .int x3_13), (0, .ref (c0 + a)), (1, .ref (c0 + a_7)), (2, .int x2)]) C.1 C.2.1 dX5_send_20 rfl hl (by decide) rfl (fun ls hl_15 => ?_)
    refine lv_aload_n C.1 C.2.1 dX5_send_21 rfl (lv_at hl_15 2 rfl) ?_
    refine cg_5_121 C G_6 t_8 dX5_send_22 (fun t_16 => ?_)
    have t_16 : (T_4 (a_7 + 1)).1 = 18 := by rw [t_16]
    refine lv_iload_n C.1 C.2.1 dX5_send_25 rfl (lv_at hl_15 0 rfl) ?_
    refine lv_aload_n C.1 C.2.1 dX5_send_26 rfl (lv_at hl_15 1 rfl) ?_
    refine cg_5_12 C G_6 ha dX5_send_27 (fun t_17 => ?_)
    refine vt_r (K := 17) t_17 h_14 (fun r_18 t_19 h_20 => ?_)
    obtain ⟨a_21, rfl, h_23⟩ := nn_some h_20
    have t_22 := t_19 _ rfl
    refine cg_5_316 C G_6 t_22 dX5_send_30 (fun t_24 => ?_)
    refine lv_iload_n C.1 C.2.1 dX5_send_33 rfl (lv_at hl_15 3 rfl) ?_
    obtain ⟨hi, h_25⟩ := ix_some h_23
    refine cl_iald C G_6 t_24 hi dX5_send_34 ?_
    obtain ⟨r_27, σ_26, hq, h_28⟩ := bd2_some h_25
    refine cl_callV (ci := 2) (rest := []) C G_6 rfl t_16 cw_RX5_319 [.int x3_13, .int (σ_1.1 (a_21 + 7) x2.toNatClampNeg)] _ (kc_X2_holds l D c0 (by rw [G_6.1]; exact t_16) hq) (Nat.le_of_ble_eq_true rfl) (Nat.le_of_ble_eq_true rfl) rfl rfl hl_15.1 (Nat.le_of_ble_eq_true rfl) dX5_send_35 (fun T_29 H locs cells slots t_30 hu G_31 => ?_)
    have ha := hu.kind ha (by decide)
    have t_8 := hu.kind t_8 (by decide)
    refine W.eq (g2 := F0 m 38 ls [.int r_27]) rfl ?_
    refine lv_if_ne (tgt := 44) C.1 C.2.1 dX5_send_38 (by decide) (fun hc => ?_) (fun hc => ?_)
    · rw [if_neg hc] at h_28
      refine lv_aload_n C.1 C.2.1 dX5_send_44 rfl (lv_at hl_15 2 rfl) ?_
      refine cg_5_121 C G_31 t_8 dX5_send_45 (fun t_32 => ?_)
      have t_32 : (T_29 (a_7 + 1)).1 = 18 := by rw [t_32]
      refine cg_5_323 C G_31 t_32 dX5_send_48 (fun t_33 => ?_)
      refine lv_iload_n C.1 C.2.1 dX5_send_51 rfl (lv_at hl_15 0 rfl) ?_
      refine lv_iconst (v := (2:Int32)) C.1 C.2.1 dX5_send_52 (by decide) ?_
      refine lv_ishr C.1 C.2.1 dX5_send_53 ?_
      refine lv_aload_n C.1 C.2.1 dX5_send_54 rfl (lv_at hl_15 1 rfl) ?_
      refine cg_5_26 C G_31 ha dX5_send_55 (fun t_34 => ?_)
      refine lv_iload_n C.1 C.2.1 dX5_send_58 rfl (lv_at hl_15 3 rfl) ?_
      obtain ⟨hi, h_35⟩ := ix_some h_28
      refine cl_aald C G_31 t_34 (by decide) (by decide) rfl hi dX5_send_59 (fun t_36 => ?_)
      refine vt_r (K := 1) t_36 h_35 (fun r_37 t_38 h_39 => ?_)
      refine lv_iconst (v := (0:Int32)) C.1 C.2.1 dX5_send_60 (by decide) ?_
      refine lv_aload_n C.1 C.2.1 dX5_send_61 rfl (lv_at hl_15 1 rfl) ?_
      refine cg_5_12 C G_31 ha dX5_send_62 (fun t_40 => ?_)
      refine vt_r (K := 17) t_40 h_39 (fun r_41 t_42 h_43 => ?_)
      obtain ⟨a_44, rfl, h_46⟩ := nn_some h_43
      have t_45 := t_42 _ rfl
      refine cg_5_316 C G_31 t_45 dX5_send_65 (fun t_47 => ?_)
      refine lv_iload_n C.1 C.2.1 dX5_send_68 rfl (lv_at hl_15 3 rfl) ?_
      obtain ⟨hi, h_48⟩ := ix_some h_46
      refine cl_iald C G_31 t_47 hi dX5_send_69 ?_
      obtain ⟨a_49, rfl, h_51⟩ := nn_some h_48
      have t_50 := t_38 _ rfl
      have t_52 : T_29 a_49 = (1, (σ_26.2.2.2.1 a_49).2) := by rw [G_31.1]; exact Prod.ext t_50 rfl
      obtain ⟨hcp, h_54⟩ := cpg_some h_51
      refine cl_copy C G_31 t_33 t_52 hcp (C.2.2.2.2.1 _ mw_RX5_326) (Nat.le_of_ble_eq_true rfl) (show 0 + 18 ≤ 48 from by decide) hl_15.1 dX5_send_70 (fun H locs G_55 => ?_)
      refine cl_nm G_55 h_54 (fun σ_53 G_56 h_57 => ?_)
      refine lv_aload_n C.1 C.2.1 dX5_send_73 rfl (lv_at hl_15 1 rfl) ?_
      refine cg_5_29 C G_56 ha dX5_send_74 (fun t_58 => ?_)
      refine lv_iload_n C.1 C.2.1 dX5_send_77 rfl (lv_at hl_15 3 rfl) ?_
      refine lv_iconst (v := (1:Int32)) C.1 C.2.1 dX5_send_78 (by decide) ?_
      obtain ⟨hi, h_60⟩ := ix_some h_57
      refine cl_iast C G_56 t_58 hi dX5_send_79 (fun H locs G_61 => ?_)
      refine cl_nm G_61 h_60 (fun σ_59 G_62 h_63 => ?_)
      refine lv_iconst (v := (0:Int32)) C.1 C.2.1 dX5_send_80 (by decide) ?_
      exact cl_iret ⟨rfl, rfl⟩ rfl C G_62 h_63 dX5_send_81
    · rw [if_pos hc] at h_28
      refine lv_bipush (v := (-2:Int32)) C.1 C.2.1 dX5_send_41 (by decide) ?_
      exact cl_iret ⟨rfl, rfl⟩ rfl C G_31 h_28 dX5_send_43
  · rw [if_pos hc] at h_3
    refine lv_iconst (v := (-1:Int32)) C.1 C.2.1 dX5_send_9 (by decide) ?_
    exact cl_iret ⟨rfl, rfl⟩ rfl C G_6 h_3 dX5_send_10
noncomputable def fc_X5_send (a : Nat) (x1 : (Option Nat)) (x2 : Int32) (σ : cl_S) : Option (Int32 × cl_S) := bc_X5_send_0 a x1 x2 σ
theorem kc_X5_send (l : Launch) (D : cl_D) (c0 : Nat) {r : Int32} {a : Nat} {x1 : (Option Nat)} {x2 : Int32} {σ σ' : cl_S} (ha : (σ.2.2.2.1 a).1 = 21) (h : fc_X5_send a x1 x2 σ = some (r, σ')) (f1 : cl_RT σ.2.2.2.1 x1 22) : cl_Met true l D c0 yX5_send cX5_send 4 (some .int) 1 48 [.ref (c0 + a), cl_rf c0 x1, .int x2] σ (some (.int r)) cl_no σ' :=
  by cases x1 <;> exact cl_of (by decide) (Nat.le_of_ble_eq_true rfl) (fun p e s m args below meth c ls C hn G hl => wc_X5_send_0 C h G ha f1 hl)
abbrev cX5_isTo : ByteArray := prog_7_method_14_code
def yX5_isTo : MethodName := ⟨RX5, "isTo", "(LPartHouse$Partition;I)Z"⟩
theorem dX5_isTo_0 : decode cX5_isTo 0 = .ok (.iload_n 2, 1) := by decide +kernel
theorem dX5_isTo_1 : decode cX5_isTo 1 = .ok (.ifCond .lt 34, 3) := by decide +kernel
theorem dX5_isTo_4 : decode cX5_isTo 4 = .ok (.iload_n 2, 1) := by decide +kernel
theorem dX5_isTo_5 : decode cX5_isTo 5 = .ok (.aload_n 0, 1) := by decide +kernel
theorem dX5_isTo_6 : decode cX5_isTo 6 = .ok (.getfield 12, 3) := by decide +kernel
theorem dX5_isTo_9 : decode cX5_isTo 9 = .ok (.getfield 300, 3) := by decide +kernel
theorem dX5_isTo_12 : decode cX5_isTo 12 = .ok (.if_icmp .ge 23, 3) := by decide +kernel
theorem dX5_isTo_15 : decode cX5_isTo 15 = .ok (.aload_n 0, 1) := by decide +kernel
theorem dX5_isTo_16 : decode cX5_isTo 16 = .ok (.getfield 12, 3) := by decide +kernel
theorem dX5_isTo_19 : decode cX5_isTo 19 = .ok (.getfield 309, 3) := by decide +kernel
theorem dX5_isTo_22 : decode cX5_isTo 22 = .ok (.iload_n 2, 1) := by decide +kernel
theorem dX5_isTo_23 : decode cX5_isTo 23 = .ok (.iaload, 1) := by decide +kernel
theorem dX5_isTo_24 : decode cX5_isTo 24 = .ok (.aload_n 1, 1) := by decide +kernel
theorem dX5_isTo_25 : decode cX5_isTo 25 = .ok (.getfield 306, 3) := by decide +kernel
theorem dX5_isTo_28 : decode cX5_isTo 28 = .ok (.if_icmp .ne 7, 3) := by decide +kernel
theorem dX5_isTo_31 : decode cX5_isTo 31 = .ok (.iconst 1, 1) := by decide +kernel
theorem dX5_isTo_32 : decode cX5_isTo 32 = .ok (.goto 4, 3) := by decide +kernel
theorem dX5_isTo_35 : decode cX5_isTo 35 = .ok (.iconst 0, 1) := by decide +kernel
theorem dX5_isTo_36 : decode cX5_isTo 36 = .ok (.ireturn, 1) := by decide +kernel
theorem cc_X5_isTo : Cond.code yX5_isTo cX5_isTo 3 (some .boolean) ∈ rf_tb := rf_at 1203 (by decide +kernel) (by decide +kernel)
noncomputable def bc_X5_isTo_0 (a : Nat) (x1 : (Option Nat)) (x2 : Int32) (σ : cl_S) : Option (Int32 × cl_S) := (if x2 < 0 then some ((0:Int32), σ) else vl (σ.2.2.1 a 3) (fun r_2 => nn r_2 (fun a_5 => (if (σ.1 a_5 5) ≤ x2 then some ((0:Int32), σ) else vl (σ.2.2.1 a 3) (fun r_9 => nn r_9 (fun a_12 => ix x2 16 (nn x1 (fun a_17 => (if (σ.1 (a_12 + 6) x2.toNatClampNeg) = (σ.1 a_17 3) then some ((1:Int32), σ) else some ((0:Int32), σ))))))))))
set_option maxHeartbeats 4000000 in
theorem wc_X5_isTo_0 (C : cl_C D p s m args meth c cX5_isTo 3 (some .boolean) RX5) {r : Int32} {a : Nat} {x1 : (Option Nat)} {x2 : Int32} {σ0 σ σ' : cl_S} {T : Nat → Nat × Nat} {H : Heap} {locs : List Loc} {ls : Array Slot} {cells slots : Nat} (h : bc_X5_isTo_0 a x1 x2 σ = some (r, σ')) (G : cl_G true D c0 ({ frames := 0, cells := σ0.2.2.2.2.2.1, slots := σ0.2.2.2.2.2.2, locals := 0 }) s σ0.2.2.2.1 T σ H locs cells slots) (ha : (T a).1 = 21) (f1 : cl_RT T x1 22) (hl : lv_has ls 3 [(0, .ref (c0 + a)), (1, cl_rf c0 x1), (2, .int x2)]) : W p l e ({ frames := 0, cells := σ0.2.2.2.2.2.1, slots := σ0.2.2.2.2.2.2, locals := 0 }) s m args below meth c H locs cells slots (MQ below (cl_Q true D c0 (some (.int r)) cl_no σ0 σ') args s (σ0.2.2.2.2.2.1 - σ'.2.2.2.2.2.1) (σ0.2.2.2.2.2.2 - σ'.2.2.2.2.2.2) (cl_A c0 σ0.2.2.2.1 s.heap.size)) (F0 m 0 ls []) := by
  unfold bc_X5_isTo_0 at h
  refine lv_iload_n C.1 C.2.1 dX5_isTo_0 rfl (lv_at hl 2 rfl) ?_
  refine lv_if_lt (tgt := 35) C.1 C.2.1 dX5_isTo_1 (by decide) (fun hc => ?_) (fun hc => ?_)
  · rw [if_pos hc] at h
    refine lv_iconst (v := (0:Int32)) C.1 C.2.1 dX5_isTo_35 (by decide) ?_
    exact cl_zret ⟨rfl, rfl⟩ rfl C G h rfl dX5_isTo_36
  · rw [if_neg hc] at h
    refine lv_iload_n C.1 C.2.1 dX5_isTo_4 rfl (lv_at hl 2 rfl) ?_
    refine lv_aload_n C.1 C.2.1 dX5_isTo_5 rfl (lv_at hl 0 rfl) ?_
    refine cg_5_12 C G ha dX5_isTo_6 (fun t_1 => ?_)
    refine vt_r (K := 17) t_1 h (fun r_2 t_3 h_4 => ?_)
    obtain ⟨a_5, rfl, h_7⟩ := nn_some h_4
    have t_6 := t_3 _ rfl
    refine cg_5_300 C G t_6 dX5_isTo_9 ?_
    refine lv_icmp_ge (tgt := 35) C.1 C.2.1 dX5_isTo_12 (by decide) (fun hc => ?_) (fun hc => ?_)
    · rw [if_pos hc] at h_7
      refine lv_iconst (v := (0:Int32)) C.1 C.2.1 dX5_isTo_35 (by decide) ?_
      exact cl_zret ⟨rfl, rfl⟩ rfl C G h_7 rfl dX5_isTo_36
    · rw [if_neg hc] at h_7
      refine lv_aload_n C.1 C.2.1 dX5_isTo_15 rfl (lv_at hl 0 rfl) ?_
      refine cg_5_12 C G ha dX5_isTo_16 (fun t_8 => ?_)
      refine vt_r (K := 17) t_8 h_7 (fun r_9 t_10 h_11 => ?_)
      obtain ⟨a_12, rfl, h_14⟩ := nn_some h_11
      have t_13 := t_10 _ rfl
      refine cg_5_309 C G t_13 dX5_isTo_19 (fun t_15 => ?_)
      refine lv_iload_n C.1 C.2.1 dX5_isTo_22 rfl (lv_at hl 2 rfl) ?_
      obtain ⟨hi, h_16⟩ := ix_some h_14
      refine cl_iald C G t_15 hi dX5_isTo_23 ?_
      refine cl_aload_n C.1 C.2.1 dX5_isTo_24 rfl (lv_at hl 1 rfl) ?_
      obtain ⟨a_17, rfl, h_19⟩ := nn_some h_16
      have t_18 := f1 _ rfl
      refine cg_5_306 C G t_18 dX5_isTo_25 ?_
      refine lv_icmp_ne (tgt := 35) C.1 C.2.1 dX5_isTo_28 (by decide) (fun hc => ?_) (fun hc => ?_)
      · rw [if_neg hc] at h_19
        refine lv_iconst (v := (0:Int32)) C.1 C.2.1 dX5_isTo_35 (by decide) ?_
        exact cl_zret ⟨rfl, rfl⟩ rfl C G h_19 rfl dX5_isTo_36
      · rw [if_pos hc] at h_19
        refine lv_iconst (v := (1:Int32)) C.1 C.2.1 dX5_isTo_31 (by decide) ?_
        refine lv_goto (tgt := 36) C.1 C.2.1 dX5_isTo_32 (by decide) ?_
        exact cl_zret ⟨rfl, rfl⟩ rfl C G h_19 rfl dX5_isTo_36
noncomputable def fc_X5_isTo (a : Nat) (x1 : (Option Nat)) (x2 : Int32) (σ : cl_S) : Option (Int32 × cl_S) := bc_X5_isTo_0 a x1 x2 σ
theorem kc_X5_isTo (l : Launch) (D : cl_D) (c0 : Nat) {r : Int32} {a : Nat} {x1 : (Option Nat)} {x2 : Int32} {σ σ' : cl_S} (ha : (σ.2.2.2.1 a).1 = 21) (h : fc_X5_isTo a x1 x2 σ = some (r, σ')) (f1 : cl_RT σ.2.2.2.1 x1 22) : cl_Met true l D c0 yX5_isTo cX5_isTo 3 (some .boolean) 0 0 [.ref (c0 + a), cl_rf c0 x1, .int x2] σ (some (.int r)) cl_no σ' :=
  by cases x1 <;> exact cl_of (by decide) (Nat.le_of_ble_eq_true rfl) (fun p e s m args below meth c ls C hn G hl => wc_X5_isTo_0 C h G ha f1 hl)
end CQ7
