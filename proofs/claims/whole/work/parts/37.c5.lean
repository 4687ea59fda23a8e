section CQ4
variable {p : Program} {l : Launch} {e : Env} {s : State} {m : MethodId} {args : Array Value} {below : List Frame} {meth : Method} {c : Code} {D : cl_D} {c0 : Nat}
abbrev cX1_readChannel : ByteArray := prog_3_method_6_code
def yX1_readChannel : MethodName := ⟨RX1, "readChannel", "(I)V"⟩
theorem dX1_readChannel_0 : decode cX1_readChannel 0 = .ok (.aload_n 0, 1) := by decide +kernel
theorem dX1_readChannel_1 : decode cX1_readChannel 1 = .ok (.getfield 24, 3) := by decide +kernel
theorem dX1_readChannel_4 : decode cX1_readChannel 4 = .ok (.iload_n 1, 1) := by decide +kernel
theorem dX1_readChannel_5 : decode cX1_readChannel 5 = .ok (.aload_n 0, 1) := by decide +kernel
theorem dX1_readChannel_6 : decode cX1_readChannel 6 = .ok (.iconst 0, 1) := by decide +kernel
theorem dX1_readChannel_7 : decode cX1_readChannel 7 = .ok (.aload_n 0, 1) := by decide +kernel
theorem dX1_readChannel_8 : decode cX1_readChannel 8 = .ok (.getfield 61, 3) := by decide +kernel
theorem dX1_readChannel_11 : decode cX1_readChannel 11 = .ok (.iconst 1, 1) := by decide +kernel
theorem dX1_readChannel_12 : decode cX1_readChannel 12 = .ok (.isub, 1) := by decide +kernel
theorem dX1_readChannel_13 : decode cX1_readChannel 13 = .ok (.invokevirtual 58, 3) := by decide +kernel
theorem dX1_readChannel_16 : decode cX1_readChannel 16 = .ok (.iastore, 1) := by decide +kernel
theorem dX1_readChannel_17 : decode cX1_readChannel 17 = .ok (.aload_n 0, 1) := by decide +kernel
theorem dX1_readChannel_18 : decode cX1_readChannel 18 = .ok (.getfield 27, 3) := by decide +kernel
theorem dX1_readChannel_21 : decode cX1_readChannel 21 = .ok (.iload_n 1, 1) := by decide +kernel
theorem dX1_readChannel_22 : decode cX1_readChannel 22 = .ok (.aload_n 0, 1) := by decide +kernel
theorem dX1_readChannel_23 : decode cX1_readChannel 23 = .ok (.iconst 0, 1) := by decide +kernel
theorem dX1_readChannel_24 : decode cX1_readChannel 24 = .ok (.aload_n 0, 1) := by decide +kernel
theorem dX1_readChannel_25 : decode cX1_readChannel 25 = .ok (.getfield 61, 3) := by decide +kernel
theorem dX1_readChannel_28 : decode cX1_readChannel 28 = .ok (.iconst 1, 1) := by decide +kernel
theorem dX1_readChannel_29 : decode cX1_readChannel 29 = .ok (.isub, 1) := by decide +kernel
theorem dX1_readChannel_30 : decode cX1_readChannel 30 = .ok (.invokevirtual 58, 3) := by decide +kernel
theorem dX1_readChannel_33 : decode cX1_readChannel 33 = .ok (.iastore, 1) := by decide +kernel
theorem dX1_readChannel_34 : decode cX1_readChannel 34 = .ok (.aload_n 0, 1) := by decide +kernel
theorem dX1_readChannel_35 : decode cX1_readChannel 35 = .ok (.getfield 27, 3) := by decide +kernel
theorem dX1_readChannel_38 : decode cX1_readChannel 38 = .ok (.iload_n 1, 1) := by decide +kernel
theorem dX1_readChannel_39 : decode cX1_readChannel 39 = .ok (.iaload, 1) := by decide +kernel
theorem dX1_readChannel_40 : decode cX1_readChannel 40 = .ok (.aload_n 0, 1) := by decide +kernel
theorem dX1_readChannel_41 : decode cX1_readChannel 41 = .ok (.getfield 24, 3) := by decide +kernel
theorem dX1_readChannel_44 : decode cX1_readChannel 44 = .ok (.iload_n 1, 1) := by decide +kernel
theorem dX1_readChannel_45 : decode cX1_readChannel 45 = .ok (.iaload, 1) := by decide +kernel
theorem dX1_readChannel_46 : decode cX1_readChannel 46 = .ok (.if_icmp .ne 7, 3) := by decide +kernel
theorem dX1_readChannel_49 : decode cX1_readChannel 49 = .ok (.aload_n 0, 1) := by decide +kernel
theorem dX1_readChannel_50 : decode cX1_readChannel 50 = .ok (.invokevirtual 82, 3) := by decide +kernel
theorem dX1_readChannel_53 : decode cX1_readChannel 53 = .ok (.aload_n 0, 1) := by decide +kernel
theorem dX1_readChannel_54 : decode cX1_readChannel 54 = .ok (.getfield 30, 3) := by decide +kernel
theorem dX1_readChannel_57 : decode cX1_readChannel 57 = .ok (.iload_n 1, 1) := by decide +kernel
theorem dX1_readChannel_58 : decode cX1_readChannel 58 = .ok (.aload_n 0, 1) := by decide +kernel
theorem dX1_readChannel_59 : decode cX1_readChannel 59 = .ok (.iconst 1, 1) := by decide +kernel
theorem dX1_readChannel_60 : decode cX1_readChannel 60 = .ok (.bipush 16, 2) := by decide +kernel
theorem dX1_readChannel_62 : decode cX1_readChannel 62 = .ok (.invokevirtual 58, 3) := by decide +kernel
theorem dX1_readChannel_65 : decode cX1_readChannel 65 = .ok (.iastore, 1) := by decide +kernel
theorem dX1_readChannel_66 : decode cX1_readChannel 66 = .ok (.return_, 1) := by decide +kernel
theorem cc_X1_readChannel : Cond.code yX1_readChannel cX1_readChannel 2 none ∈ rf_tb := rf_at 1029 (by decide +kernel) (by decide +kernel)
noncomputable def bc_X1_readChannel_53 (a : Nat) (x1 : Int32) (σ : cl_S) : Option (cl_S) := bd2 (fc_X1_nextWord a (1:Int32) (16:Int32) σ) (fun r_31 σ_30 => ix x1 16 (vl (cl_w σ_30 (a + 7) x1.toNatClampNeg r_31) (fun σ_36 => some σ_36)))
set_option maxHeartbeats 4000000 in
theorem wc_X1_readChannel_53 (C : cl_C D p s m args meth c cX1_readChannel 2 none RX1) {a : Nat} {x1 : Int32} {σ0 σ σ' : cl_S} {T : Nat → Nat × Nat} {H : Heap} {locs : List Loc} {ls : Array Slot} {cells slots : Nat} (h : bc_X1_readChannel_53 a x1 σ = some σ') (G : cl_G true D c0 ({ frames := 1, cells := σ0.2.2.2.2.2.1, slots := σ0.2.2.2.2.2.2, locals := 22 }) s σ0.2.2.2.1 T σ H locs cells slots) (ha : (T a).1 = 17) (hl : lv_has ls 2 [(0, .ref (c0 + a)), (1, .int x1)]) : W p l e ({ frames := 1, cells := σ0.2.2.2.2.2.1, slots := σ0.2.2.2.2.2.2, locals := 22 }) s m args below meth c H locs cells slots (MQ below (cl_Q true D c0 none cl_no σ0 σ') args s (σ0.2.2.2.2.2.1 - σ'.2.2.2.2.2.1) (σ0.2.2.2.2.2.2 - σ'.2.2.2.2.2.2) (cl_A c0 σ0.2.2.2.1 s.heap.size)) (F0 m 53 ls []) := by
  unfold bc_X1_readChannel_53 at h
  refine lv_aload_n C.1 C.2.1 dX1_readChannel_53 rfl (lv_at hl 0 rfl) ?_
  refine cg_1_30 C G ha dX1_readChannel_54 (fun t_29 => ?_)
  refine lv_iload_n C.1 C.2.1 dX1_readChannel_57 rfl (lv_at hl 1 rfl) ?_
  refine lv_aload_n C.1 C.2.1 dX1_readChannel_58 rfl (lv_at hl 0 rfl) ?_
  refine lv_iconst (v := (1:Int32)) C.1 C.2.1 dX1_readChannel_59 (by decide) ?_
  refine lv_bipush (v := (16:Int32)) C.1 C.2.1 dX1_readChannel_60 (by decide) ?_
  obtain ⟨r_31, σ_30, hq, h_32⟩ := bd2_some h
  refine cl_callV (ci := 1) (rest := [.int x1, .ref (c0 + (a + 7))]) C G rfl ha cw_RX1_58 [.int (1:Int32), .int (16:Int32)] _ (kc_X1_nextWord l D c0 (by rw [G.1]; exact ha) hq) (Nat.le_of_ble_eq_true rfl) (Nat.le_of_ble_eq_true rfl) rfl rfl hl.1 (Nat.le_of_ble_eq_true rfl) dX1_readChannel_62 (fun T_33 H locs cells slots t_34 hu G_35 => ?_)
  have ha := hu.kind ha (by decide)
  have t_29 := cl_uparr hu t_29 (by decide)
  refine W.eq (g2 := F0 m 65 ls [.int r_31, .int x1, .ref (c0 + (a + 7))]) rfl ?_
  obtain ⟨hi, h_37⟩ := ix_some h_32
  refine cl_iast C G_35 t_29 hi dX1_readChannel_65 (fun H locs G_38 => ?_)
  refine cl_nm G_38 h_37 (fun σ_36 G_39 h_40 => ?_)
  exact cl_vret ⟨rfl, rfl⟩ rfl C G_39 h_40 dX1_readChannel_66
noncomputable def bc_X1_readChannel_0 (a : Nat) (x1 : Int32) (σ : cl_S) : Option (cl_S) := bd2 (fc_X1_nextWord a (0:Int32) ((σ.1 a 0) - (1:Int32)) σ) (fun r_3 σ_2 => ix x1 16 (vl (cl_w σ_2 (a + 5) x1.toNatClampNeg r_3) (fun σ_8 => bd2 (fc_X1_nextWord a (0:Int32) ((σ_8.1 a 0) - (1:Int32)) σ_8) (fun r_15 σ_14 => ix x1 16 (vl (cl_w σ_14 (a + 6) x1.toNatClampNeg r_15) (fun σ_20 => ix x1 16 (ix x1 16 ((if (σ_20.1 (a + 6) x1.toNatClampNeg) = (σ_20.1 (a + 5) x1.toNatClampNeg) then bd1 (fc_X1_refuseLast a σ_20) (fun σ_41 => bc_X1_readChannel_53 a x1 σ_41) else bc_X1_readChannel_53 a x1 σ_20)))))))))
set_option maxHeartbeats 4000000 in
theorem wc_X1_readChannel_0 (C : cl_C D p s m args meth c cX1_readChannel 2 none RX1) {a : Nat} {x1 : Int32} {σ0 σ σ' : cl_S} {T : Nat → Nat × Nat} {H : Heap} {locs : List Loc} {ls : Array Slot} {cells slots : Nat} (h : bc_X1_readChannel_0 a x1 σ = some σ') (G : cl_G true D c0 ({ frames := 1, cells := σ0.2.2.2.2.2.1, slots := σ0.2.2.2.2.2.2, locals := 22 }) s σ0.2.2.2.1 T σ H locs cells slots) (ha : (T a).1 = 17) (hl : lv_has ls 2 [(0, .ref (c0 + a)), (1, .int x1)]) : W p l e ({ frames := 1, cells := σ0.2.2.2.2.2.1, slots := σ0.2.2.2.2.2.2, locals := 22 }) s m args below meth c H locs cells slots (MQ below (cl_Q true D c0 none cl_no σ0 σ') args s (σ0.2.2.2.2.2.1 - σ'.2.2.2.2.2.1) (σ0.2.2.2.2.2.2 - σ'.2.2.2.2.2.2) (cl_A c0 σ0.2.2.2.1 s.heap.size)) (F0 m 0 ls []) := by
  unfold bc_X1_readChannel_0 at h
  refine lv_aload_n C.1 C.2.1 dX1_readChannel_0 rfl (lv_at hl 0 rfl) ?_
  refine cg_1_24 C G ha dX1_readChannel_1 (fun t_1 => ?_)
  refine lv_iload_n C.1 C.2.1 dX1_readChannel_4 rfl (lv_at hl 1 rfl) ?_
  refine lv_aload_n C.1 C.2.1 dX1_readChannel_5 rfl (lv_at hl 0 rfl) ?_
  refine lv_iconst (v := (0:Int32)) C.1 C.2.1 dX1_readChannel_6 (by decide) ?_
  refine lv_aload_n C.1 C.2.1 dX1_readChannel_7 rfl (lv_at hl 0 rfl) ?_
  refine cg_1_61 C G ha dX1_readChannel_8 ?_
  refine lv_iconst (v := (1:Int32)) C.1 C.2.1 dX1_readChannel_11 (by decide) ?_
  refine lv_isub C.1 C.2.1 dX1_readChannel_12 ?_
  obtain ⟨r_3, σ_2, hq, h_4⟩ := bd2_some h
  refine cl_callV (ci := 1) (rest := [.int x1, .ref (c0 + (a + 5))]) C G rfl ha cw_RX1_58 [.int (0:Int32), .int ((σ.1 a 0) - (1:Int32))] _ (kc_X1_nextWord l D c0 (by rw [G.1]; exact ha) hq) (Nat.le_of_ble_eq_true rfl) (Nat.le_of_ble_eq_true rfl) rfl rfl hl.1 (Nat.le_of_ble_eq_true rfl) dX1_readChannel_13 (fun T_5 H locs cells slots t_6 hu G_7 => ?_)
  have ha := hu.kind ha (by decide)
  have t_1 := cl_uparr hu t_1 (by decide)
  refine W.eq (g2 := F0 m 16 ls [.int r_3, .int x1, .ref (c0 + (a + 5))]) rfl ?_
  obtain ⟨hi, h_9⟩ := ix_some h_4
  refine cl_iast C G_7 t_1 hi dX1_readChannel_16 (fun H locs G_10 => ?_)
  refine cl_nm G_10 h_9 (fun σ_8 G_11 h_12 => ?_)
  refine lv_aload_n C.1 C.2.1 dX1_readChannel_17 rfl (lv_at hl 0 rfl) ?_
  refine cg_1_27 C G_11 ha dX1_readChannel_18 (fun t_13 => ?_)
  refine lv_iload_n C.1 C.2.1 dX1_readChannel_21 rfl (lv_at hl 1 rfl) ?_
  refine lv_aload_n C.1 C.2.1 dX1_readChannel_22 rfl (lv_at hl 0 rfl) ?_
  refine lv_iconst (v := (0:Int32)) C.1 C.2.1 dX1_readChannel_23 (by decide) ?_
  refine lv_aload_n C.1 C.2.1 dX1_readChannel_24 rfl (lv_at hl 0 rfl) ?_
  refine cg_1_61 C G_11 ha dX1_readChannel_25 ?_
  refine lv_iconst (v := (1:Int32)) C.1 C.2.1 dX1_readChannel_28 (by decide) ?_
  refine lv_isub C.1 C.2.1 dX1_readChannel_29 ?_
  obtain ⟨r_15, σ_14, hq, h_16⟩ := bd2_some h_12
  refine cl_callV (ci := 1) (rest := [.int x1, .ref (c0 + (a + 6))]) C G_11 rfl ha cw_RX1_58 [.int (0:Int32), .int ((σ_8.1 a 0) - (1:Int32))] _ (kc_X1_nextWord l D c0 (by rw [G_11.1]; exact ha) hq) (Nat.le_of_ble_eq_true rfl) (Nat.le_of_ble_eq_true rfl) rfl rfl hl.1 (Nat.le_of_ble_eq_true rfl) dX1_readChannel_30 (fun T_17 H locs cells slots t_18 hu G_19 => ?_)
  have ha := hu.kind ha (by decide)
  have t_13 := cl_uparr hu t_13 (by decide)
  refine W.eq (g2 := F0 m 33 ls [.int r_15, .int x1, .ref (c0 + (a + 6))]) rfl ?_
  obtain ⟨hi, h_21⟩ := ix_some h_16
  refine cl_iast C G_19 t_13 hi dX1_readChannel_33 (fun H locs G_22 => ?_)
  refine cl_nm G_22 h_21 (fun σ_20 G_23 h_24 => ?_)
  refine lv_aload_n C.1 C.2.1 dX1_readChannel_34 rfl (lv_at hl 0 rfl) ?_
  refine cg_1_27 C G_23 ha dX1_readChannel_35 (fun t_25 => ?_)
  refine lv_iload_n C.1 C.2.1 dX1_readChannel_38 rfl (lv_at hl 1 rfl) ?_
  obtain ⟨hi, h_26⟩ := ix_some h_24
  refine cl_iald C G_23 t_25 hi dX1_readChannel_39 ?_
  refine lv_aload_n C.1 C.2.1 dX1_readChannel_40 rfl (lv_at hl 0 rfl) ?_
  refine cg_1_24 C G_23 ha dX1_readChannel_41 (fun t_27 => ?_)
  refine lv_iload_n C.1 C.2.1 dX1_readChannel_44 rfl (lv_at hl 1 rfl) ?_
  obtain ⟨hi, h_28⟩ := ix_some h_26
  refine cl_iald C G_23 t_27 hi dX1_readChannel_45 ?_
  refine lv_icmp_ne (tgt := 53) C.1 C.2.1 dX1_readChannel_46 (by decide) (fun hc => ?_) (fun hc => ?_)
  · rw [if_neg hc] at h_28
    exact wc_X1_readChannel_53 C h_28 G_23 ha (lv_sub hl [0, 1] rfl)
  · rw [if_pos hc] at h_28
    refine lv_aload_n C.1 C.2.1 dX1_readChannel_49 rfl (lv_at hl 0 rfl) ?_
    obtain ⟨σ_41, hq, h_42⟩ := bd1_some h_28
    refine cl_callV (ci := 1) (rest := []) C G_23 rfl ha cw_RX1_82 [] _ (kc_X1_refuseLast l D c0 (by rw [G_23.1]; exact ha) hq) (Nat.le_of_ble_eq_true rfl) (Nat.le_of_ble_eq_true rfl) rfl rfl hl.1 (Nat.le_of_ble_eq_true rfl) dX1_readChannel_50 (fun T_43 H locs cells slots t_44 hu G_45 => ?_)
    have ha := hu.kind ha (by decide)
    refine W.eq (g2 := F0 m 53 ls []) rfl ?_
    exact wc_X1_readChannel_53 C h_42 G_45 ha (lv_sub hl [0, 1] rfl)
noncomputable def fc_X1_readChannel (a : Nat) (x1 : Int32) (σ : cl_S) : Option (cl_S) := bc_X1_readChannel_0 a x1 σ
theorem kc_X1_readChannel (l : Launch) (D : cl_D) (c0 : Nat) {a : Nat} {x1 : Int32} {σ σ' : cl_S} (ha : (σ.2.2.2.1 a).1 = 17) (h : fc_X1_readChannel a x1 σ = some σ') : cl_Met true l D c0 yX1_readChannel cX1_readChannel 2 none 1 22 [.ref (c0 + a), .int x1] σ none cl_no σ' :=
  cl_of (by decide) (Nat.le_of_ble_eq_true rfl) (fun p e s m args below meth c ls C hn G hl => wc_X1_readChannel_0 C h G ha hl)
abbrev cX1_nextOwner : ByteArray := prog_3_method_7_code
def yX1_nextOwner : MethodName := ⟨RX1, "nextOwner", "()I"⟩
theorem dX1_nextOwner_0 : decode cX1_nextOwner 0 = .ok (.aload_n 0, 1) := by decide +kernel
theorem dX1_nextOwner_1 : decode cX1_nextOwner 1 = .ok (.getfield 52, 3) := by decide +kernel
theorem dX1_nextOwner_4 : decode cX1_nextOwner 4 = .ok (.aload_n 0, 1) := by decide +kernel
theorem dX1_nextOwner_5 : decode cX1_nextOwner 5 = .ok (.getfield 48, 3) := by decide +kernel
theorem dX1_nextOwner_8 : decode cX1_nextOwner 8 = .ok (.if_icmp .ge 22, 3) := by decide +kernel
theorem dX1_nextOwner_11 : decode cX1_nextOwner 11 = .ok (.aload_n 0, 1) := by decide +kernel
theorem dX1_nextOwner_12 : decode cX1_nextOwner 12 = .ok (.getfield 39, 3) := by decide +kernel
theorem dX1_nextOwner_15 : decode cX1_nextOwner 15 = .ok (.aload_n 0, 1) := by decide +kernel
theorem dX1_nextOwner_16 : decode cX1_nextOwner 16 = .ok (.getfield 52, 3) := by decide +kernel
theorem dX1_nextOwner_19 : decode cX1_nextOwner 19 = .ok (.iaload, 1) := by decide +kernel
theorem dX1_nextOwner_20 : decode cX1_nextOwner 20 = .ok (.sipush 255, 3) := by decide +kernel
theorem dX1_nextOwner_23 : decode cX1_nextOwner 23 = .ok (.if_icmp .ne 7, 3) := by decide +kernel
theorem dX1_nextOwner_26 : decode cX1_nextOwner 26 = .ok (.iconst 1, 1) := by decide +kernel
theorem dX1_nextOwner_27 : decode cX1_nextOwner 27 = .ok (.goto 4, 3) := by decide +kernel
theorem dX1_nextOwner_30 : decode cX1_nextOwner 30 = .ok (.iconst 0, 1) := by decide +kernel
theorem dX1_nextOwner_31 : decode cX1_nextOwner 31 = .ok (.istore_n 1, 1) := by decide +kernel
theorem dX1_nextOwner_32 : decode cX1_nextOwner 32 = .ok (.iload_n 1, 1) := by decide +kernel
theorem dX1_nextOwner_33 : decode cX1_nextOwner 33 = .ok (.ifCond .eq 16, 3) := by decide +kernel
theorem dX1_nextOwner_36 : decode cX1_nextOwner 36 = .ok (.aload_n 0, 1) := by decide +kernel
theorem dX1_nextOwner_37 : decode cX1_nextOwner 37 = .ok (.sipush 255, 3) := by decide +kernel
theorem dX1_nextOwner_40 : decode cX1_nextOwner 40 = .ok (.sipush 255, 3) := by decide +kernel
theorem dX1_nextOwner_43 : decode cX1_nextOwner 43 = .ok (.invokevirtual 58, 3) := by decide +kernel
theorem dX1_nextOwner_46 : decode cX1_nextOwner 46 = .ok (.goto 14, 3) := by decide +kernel
theorem dX1_nextOwner_49 : decode cX1_nextOwner 49 = .ok (.aload_n 0, 1) := by decide +kernel
theorem dX1_nextOwner_50 : decode cX1_nextOwner 50 = .ok (.iconst 0, 1) := by decide +kernel
theorem dX1_nextOwner_51 : decode cX1_nextOwner 51 = .ok (.aload_n 0, 1) := by decide +kernel
theorem dX1_nextOwner_52 : decode cX1_nextOwner 52 = .ok (.getfield 61, 3) := by decide +kernel
theorem dX1_nextOwner_55 : decode cX1_nextOwner 55 = .ok (.iconst 1, 1) := by decide +kernel
theorem dX1_nextOwner_56 : decode cX1_nextOwner 56 = .ok (.isub, 1) := by decide +kernel
theorem dX1_nextOwner_57 : decode cX1_nextOwner 57 = .ok (.invokevirtual 58, 3) := by decide +kernel
theorem dX1_nextOwner_60 : decode cX1_nextOwner 60 = .ok (.ireturn, 1) := by decide +kernel
theorem cc_X1_nextOwner : Cond.code yX1_nextOwner cX1_nextOwner 2 (some .int) ∈ rf_tb := rf_at 1033 (by decide +kernel) (by decide +kernel)
noncomputable def bc_X1_nextOwner_31 (a : Nat) (v0 : Int32) (σ : cl_S) : Option (Int32 × cl_S) := (if v0 = 0 then bd2 (fc_X1_nextWord a (0:Int32) ((σ.1 a 0) - (1:Int32)) σ) (fun r_3 σ_2 => some (r_3, σ_2)) else bd2 (fc_X1_nextWord a (255:Int32) (255:Int32) σ) (fun r_9 σ_8 => some (r_9, σ_8)))
set_option maxHeartbeats 4000000 in
theorem wc_X1_nextOwner_31 (C : cl_C D p s m args meth c cX1_nextOwner 2 (some .int) RX1) {r : Int32} {a : Nat} {v0 : Int32} {σ0 σ σ' : cl_S} {T : Nat → Nat × Nat} {H : Heap} {locs : List Loc} {ls : Array Slot} {cells slots : Nat} (h : bc_X1_nextOwner_31 a v0 σ = some (r, σ')) (G : cl_G true D c0 ({ frames := 1, cells := σ0.2.2.2.2.2.1, slots := σ0.2.2.2.2.2.2, locals := 22 }) s σ0.2.2.2.1 T σ H locs cells slots) (ha : (T a).1 = 17) (hl : lv_has ls 2 [(0, .ref (c0 + a))]) : W p l e ({ frames := 1, cells := σ0.2.2.2.2.2.1, slots := σ0.2.2.2.2.2.2, locals := 22 }) s m args below meth c H locs cells slots (MQ below (cl_Q true D c0 (some (.int r)) cl_no σ0 σ') args s (σ0.2.2.2.2.2.1 - σ'.2.2.2.2.2.1) (σ0.2.2.2.2.2.2 - σ'.2.2.2.2.2.2) (cl_A c0 σ0.2.2.2.1 s.heap.size)) (F0 m 31 ls [.int v0]) := by
  unfold bc_X1_nextOwner_31 at h
  refine lv_istore_n (lv' := [(1, .int v0), (0, .ref (c0 + a))]) C.1 C.2.1 dX1_nextOwner_31 rfl hl (by decide) rfl (fun ls hl_1 => ?_)
  refine lv_iload_n C.1 C.2.1 dX1_nextOwner_32 rfl (lv_at hl_1 0 rfl) ?_
  refine lv_if_eq (tgt := 49) C.1 C.2.1 dX1_nextOwner_33 (by decide) (fun hc => ?_) (fun hc => ?_)
  · rw [if_pos hc] at h
    refine lv_aload_n C.1 C.2.1 dX1_nextOwner_49 rfl (lv_at hl_1 1 rfl) ?_
    refine lv_iconst (v := (0:Int32)) C.1 C.2.1 dX1_nextOwner_50 (by decide) ?_
    refine lv_aload_n C.1 C.2.1 dX1_nextOwner_51 rfl (lv_at hl_1 1 rfl) ?_
    refine cg_1_61 C G ha dX1_nextOwner_52 ?_
    refine lv_iconst (v := (1:Int32)) C.1 C.2.1 dX1_nextOwner_55 (by decide) ?_
    refine lv_isub C.1 C.2.1 dX1_nextOwner_56 ?_
    obtain ⟨r_3, σ_2, hq, h_4⟩ := bd2_some h
    refine cl_callV (ci := 1) (rest := []) C G rfl ha cw_RX1_58 [.int (0:Int32), .int ((σ.1 a 0) - (1:Int32))] _ (kc_X1_nextWord l D c0 (by rw [G.1]; exact ha) hq) (Nat.le_of_ble_eq_true rfl) (Nat.le_of_ble_eq_true rfl) rfl rfl hl_1.1 (Nat.le_of_ble_eq_true rfl) dX1_nextOwner_57 (fun T_5 H locs cells slots t_6 hu G_7 => ?_)
    have ha := hu.kind ha (by decide)
    refine W.eq (g2 := F0 m 60 ls [.int r_3]) rfl ?_
    exact cl_iret ⟨rfl, rfl⟩ rfl C G_7 h_4 dX1_nextOwner_60
  · rw [if_neg hc] at h
    refine lv_aload_n C.1 C.2.1 dX1_nextOwner_36 rfl (lv_at hl_1 1 rfl) ?_
    refine lv_sipush (v := (255:Int32)) C.1 C.2.1 dX1_nextOwner_37 (by decide) ?_
    refine lv_sipush (v := (255:Int32)) C.1 C.2.1 dX1_nextOwner_40 (by decide) ?_
    obtain ⟨r_9, σ_8, hq, h_10⟩ := bd2_some h
    refine cl_callV (ci := 1) (rest := []) C G rfl ha cw_RX1_58 [.int (255:Int32), .int (255:Int32)] _ (kc_X1_nextWord l D c0 (by rw [G.1]; exact ha) hq) (Nat.le_of_ble_eq_true rfl) (Nat.le_of_ble_eq_true rfl) rfl rfl hl_1.1 (Nat.le_of_ble_eq_true rfl) dX1_nextOwner_43 (fun T_11 H locs cells slots t_12 hu G_13 => ?_)
    have ha := hu.kind ha (by decide)
    refine W.eq (g2 := F0 m 46 ls [.int r_9]) rfl ?_
    refine lv_goto (tgt := 60) C.1 C.2.1 dX1_nextOwner_46 (by decide) ?_
    exact cl_iret ⟨rfl, rfl⟩ rfl C G_13 h_10 dX1_nextOwner_60
noncomputable def bc_X1_nextOwner_30 (a : Nat) (σ : cl_S) : Option (Int32 × cl_S) := bc_X1_nextOwner_31 a (0:Int32) σ
set_option maxHeartbeats 4000000 in
theorem wc_X1_nextOwner_30 (C : cl_C D p s m args meth c cX1_nextOwner 2 (some .int) RX1) {r : Int32} {a : Nat} {σ0 σ σ' : cl_S} {T : Nat → Nat × Nat} {H : Heap} {locs : List Loc} {ls : Array Slot} {cells slots : Nat} (h : bc_X1_nextOwner_30 a σ = some (r, σ')) (G : cl_G true D c0 ({ frames := 1, cells := σ0.2.2.2.2.2.1, slots := σ0.2.2.2.2.2.2, locals := 22 }) s σ0.2.2.2.1 T σ H locs cells slots) (ha : (T a).1 = 17) (hl : lv_has ls 2 [(0, .ref (c0 + a))]) : W p l e ({ frames := 1, cells := σ0.2.2.2.2.2.1, slots := σ0.2.2.2.2.2.2, locals := 22 }) s m args below meth c H locs cells slots (MQ below (cl_Q true D c0 (some (.int r)) cl_no σ0 σ') args s (σ0.2.2.2.2.2.1 - σ'.2.2.2.2.2.1) (σ0.2.2.2.2.2.2 - σ'.2.2.2.2.2.2) (cl_A c0 σ0.2.2.2.1 s.heap.size)) (F0 m 30 ls []) := by
  unfold bc_X1_nextOwner_30 at h
  refine lv_iconst (v := (0:Int32)) C.1 C.2.1 dX1_nextOwner_30 (by decide) ?_
  exact wc_X1_nextOwner_31 C h G ha (lv_sub hl [0] rfl)
noncomputable def bc_X1_nextOwner_0 (a : Nat) (σ : cl_S) : Option (Int32 × cl_S) := (if (σ.1 a 13) ≤ (σ.1 a 14) then bc_X1_nextOwner_30 a σ else vl (σ.2.2.1 a 12) (fun r_15 => nn r_15 (fun a_18 => ix (σ.1 a 14) (σ.2.2.2.1 a_18).2 ((if (σ.1 a_18 (σ.1 a 14).toNatClampNeg) = (255:Int32) then bc_X1_nextOwner_31 a (1:Int32) σ else bc_X1_nextOwner_30 a σ)))))
set_option maxHeartbeats 4000000 in
theorem wc_X1_nextOwner_0 (C : cl_C D p s m args meth c cX1_nextOwner 2 (some .int) RX1) {r : Int32} {a : Nat} {σ0 σ σ' : cl_S} {T : Nat → Nat × Nat} {H : Heap} {locs : List Loc} {ls : Array Slot} {cells slots : Nat} (h : bc_X1_nextOwner_0 a σ = some (r, σ')) (G : cl_G true D c0 ({ frames := 1, cells := σ0.2.2.2.2.2.1, slots := σ0.2.2.2.2.2.2, locals := 22 }) s σ0.2.2.2.1 T σ H locs cells slots) (ha : (T a).1 = 17) (hl : lv_has ls 2 [(0, .ref (c0 + a))]) : W p l e ({ frames := 1, cells := σ0.2.2.2.2.2.1, slots := σ0.2.2.2.2.2.2, locals := 22 }) s m args below meth c H locs cells slots (MQ below (cl_Q true D c0 (some (.int r)) cl_no σ0 σ') args s (σ0.2.2.2.2.2.1 - σ'.2.2.2.2.2.1) (σ0.2.2.2.2.2.2 - σ'.2.2.2.2.2.2) (cl_A c0 σ0.2.2.2.1 s.heap.size)) (F0 m 0 ls []) := by
  unfold bc_X1_nextOwner_0 at h
  refine lv_aload_n C.1 C.2.1 dX1_nextOwner_0 rfl (lv_at hl 0 rfl) ?_
  refine cg_1_52 C G ha dX1_nextOwner_1 ?_
  refine lv_aload_n C.1 C.2.1 dX1_nextOwner_4 rfl (lv_at hl 0 rfl) ?_
  refine cg_1_48 C G ha dX1_nextOwner_5 ?_
  refine lv_icmp_ge (tgt := 30) C.1 C.2.1 dX1_nextOwner_8 (by decide) (fun hc => ?_) (fun hc => ?_)
  · rw [if_pos hc] at h
    exact wc_X1_nextOwner_30 C h G ha (lv_sub hl [0] rfl)
  · rw [if_neg hc] at h
    refine lv_aload_n C.1 C.2.1 dX1_nextOwner_11 rfl (lv_at hl 0 rfl) ?_
    refine cg_1_39 C G ha dX1_nextOwner_12 (fun t_14 => ?_)
    refine vt_r (K := 1) t_14 h (fun r_15 t_16 h_17 => ?_)
    refine lv_aload_n C.1 C.2.1 dX1_nextOwner_15 rfl (lv_at hl 0 rfl) ?_
    refine cg_1_52 C G ha dX1_nextOwner_16 ?_
    obtain ⟨a_18, rfl, h_20⟩ := nn_some h_17
    have t_19 := t_16 _ rfl
    have t_21 : T a_18 = (1, (σ.2.2.2.1 a_18).2) := by rw [G.1]; exact Prod.ext t_19 rfl
    obtain ⟨hi, h_22⟩ := ix_some h_20
    refine cl_iald C G t_21 hi dX1_nextOwner_19 ?_
    refine lv_sipush (v := (255:Int32)) C.1 C.2.1 dX1_nextOwner_20 (by decide) ?_
    refine lv_icmp_ne (tgt := 30) C.1 C.2.1 dX1_nextOwner_23 (by decide) (fun hc => ?_) (fun hc => ?_)
    · rw [if_neg hc] at h_22
      exact wc_X1_nextOwner_30 C h_22 G ha (lv_sub hl [0] rfl)
    · rw [if_pos hc] at h_22
      refine lv_iconst (v := (1:Int32)) C.1 C.2.1 dX1_nextOwner_26 (by decide) ?_
      refine lv_goto (tgt := 31) C.1 C.2.1 dX1_nextOwner_27 (by decide) ?_
      exact wc_X1_nextOwner_31 C h_22 G ha (lv_sub hl [0] rfl)
noncomputable def fc_X1_nextOwner (a : Nat) (σ : cl_S) : Option (Int32 × cl_S) := bc_X1_nextOwner_0 a σ
theorem kc_X1_nextOwner (l : Launch) (D : cl_D) (c0 : Nat) {r : Int32} {a : Nat} {σ σ' : cl_S} (ha : (σ.2.2.2.1 a).1 = 17) (h : fc_X1_nextOwner a σ = some (r, σ')) : cl_Met true l D c0 yX1_nextOwner cX1_nextOwner 2 (some .int) 1 22 [.ref (c0 + a)] σ (some (.int r)) cl_no σ' :=
  cl_of (by decide) (Nat.le_of_ble_eq_true rfl) (fun p e s m args below meth c ls C hn G hl => wc_X1_nextOwner_0 C h G ha hl)
abbrev cX1_read : ByteArray := prog_3_method_2_code
def yX1_read : MethodName := ⟨RX1, "read", "([II)I"⟩
theorem dX1_read_0 : decode cX1_read 0 = .ok (.aload_n 0, 1) := by decide +kernel
theorem dX1_read_1 : decode cX1_read 1 = .ok (.aload_n 1, 1) := by decide +kernel
theorem dX1_read_2 : decode cX1_read 2 = .ok (.putfield 39, 3) := by decide +kernel
theorem dX1_read_5 : decode cX1_read 5 = .ok (.aload_n 0, 1) := by decide +kernel
theorem dX1_read_6 : decode cX1_read 6 = .ok (.iload_n 2, 1) := by decide +kernel
theorem dX1_read_7 : decode cX1_read 7 = .ok (.aload_n 1, 1) := by decide +kernel
theorem dX1_read_8 : decode cX1_read 8 = .ok (.arraylength, 1) := by decide +kernel
theorem dX1_read_9 : decode cX1_read 9 = .ok (.invokestatic 42, 3) := by decide +kernel
theorem dX1_read_12 : decode cX1_read 12 = .ok (.putfield 48, 3) := by decide +kernel
theorem dX1_read_15 : decode cX1_read 15 = .ok (.aload_n 0, 1) := by decide +kernel
theorem dX1_read_16 : decode cX1_read 16 = .ok (.iconst 0, 1) := by decide +kernel
theorem dX1_read_17 : decode cX1_read 17 = .ok (.putfield 52, 3) := by decide +kernel
theorem dX1_read_20 : decode cX1_read 20 = .ok (.aload_n 0, 1) := by decide +kernel
theorem dX1_read_21 : decode cX1_read 21 = .ok (.iconst (-1), 1) := by decide +kernel
theorem dX1_read_22 : decode cX1_read 22 = .ok (.putfield 55, 3) := by decide +kernel
theorem dX1_read_25 : decode cX1_read 25 = .ok (.aload_n 0, 1) := by decide +kernel
theorem dX1_read_26 : decode cX1_read 26 = .ok (.aload_n 0, 1) := by decide +kernel
theorem dX1_read_27 : decode cX1_read 27 = .ok (.iconst 1, 1) := by decide +kernel
theorem dX1_read_28 : decode cX1_read 28 = .ok (.bipush 8, 2) := by decide +kernel
theorem dX1_read_30 : decode cX1_read 30 = .ok (.invokevirtual 58, 3) := by decide +kernel
theorem dX1_read_33 : decode cX1_read 33 = .ok (.putfield 61, 3) := by decide +kernel
theorem dX1_read_36 : decode cX1_read 36 = .ok (.iconst 0, 1) := by decide +kernel
theorem dX1_read_37 : decode cX1_read 37 = .ok (.istore_n 3, 1) := by decide +kernel
theorem dX1_read_38 : decode cX1_read 38 = .ok (.iconst 0, 1) := by decide +kernel
theorem dX1_read_39 : decode cX1_read 39 = .ok (.istore 4, 2) := by decide +kernel
theorem dX1_read_41 : decode cX1_read 41 = .ok (.iload 4, 2) := by decide +kernel
theorem dX1_read_43 : decode cX1_read 43 = .ok (.aload_n 0, 1) := by decide +kernel
theorem dX1_read_44 : decode cX1_read 44 = .ok (.getfield 61, 3) := by decide +kernel
theorem dX1_read_47 : decode cX1_read 47 = .ok (.if_icmp .ge 41, 3) := by decide +kernel
theorem dX1_read_50 : decode cX1_read 50 = .ok (.aload_n 0, 1) := by decide +kernel
theorem dX1_read_51 : decode cX1_read 51 = .ok (.getfield 55, 3) := by decide +kernel
theorem dX1_read_54 : decode cX1_read 54 = .ok (.ifCond .ge 34, 3) := by decide +kernel
theorem dX1_read_57 : decode cX1_read 57 = .ok (.aload_n 0, 1) := by decide +kernel
theorem dX1_read_58 : decode cX1_read 58 = .ok (.getfield 21, 3) := by decide +kernel
theorem dX1_read_61 : decode cX1_read 61 = .ok (.iload 4, 2) := by decide +kernel
theorem dX1_read_63 : decode cX1_read 63 = .ok (.iload_n 3, 1) := by decide +kernel
theorem dX1_read_64 : decode cX1_read 64 = .ok (.iastore, 1) := by decide +kernel
theorem dX1_read_65 : decode cX1_read 65 = .ok (.aload_n 0, 1) := by decide +kernel
theorem dX1_read_66 : decode cX1_read 66 = .ok (.iload 4, 2) := by decide +kernel
theorem dX1_read_68 : decode cX1_read 68 = .ok (.iload_n 3, 1) := by decide +kernel
theorem dX1_read_69 : decode cX1_read 69 = .ok (.invokevirtual 64, 3) := by decide +kernel
theorem dX1_read_72 : decode cX1_read 72 = .ok (.iload_n 3, 1) := by decide +kernel
theorem dX1_read_73 : decode cX1_read 73 = .ok (.aload_n 0, 1) := by decide +kernel
theorem dX1_read_74 : decode cX1_read 74 = .ok (.getfield 18, 3) := by decide +kernel
theorem dX1_read_77 : decode cX1_read 77 = .ok (.iload 4, 2) := by decide +kernel
theorem dX1_read_79 : decode cX1_read 79 = .ok (.iaload, 1) := by decide +kernel
theorem dX1_read_80 : decode cX1_read 80 = .ok (.iadd, 1) := by decide +kernel
theorem dX1_read_81 : decode cX1_read 81 = .ok (.istore_n 3, 1) := by decide +kernel
theorem dX1_read_82 : decode cX1_read 82 = .ok (.iinc 4 1, 3) := by decide +kernel
theorem dX1_read_85 : decode cX1_read 85 = .ok (.goto (-44), 3) := by decide +kernel
theorem dX1_read_88 : decode cX1_read 88 = .ok (.aload_n 0, 1) := by decide +kernel
theorem dX1_read_89 : decode cX1_read 89 = .ok (.aload_n 0, 1) := by decide +kernel
theorem dX1_read_90 : decode cX1_read 90 = .ok (.iconst 0, 1) := by decide +kernel
theorem dX1_read_91 : decode cX1_read 91 = .ok (.bipush 16, 2) := by decide +kernel
theorem dX1_read_93 : decode cX1_read 93 = .ok (.invokevirtual 58, 3) := by decide +kernel
theorem dX1_read_96 : decode cX1_read 96 = .ok (.putfield 68, 3) := by decide +kernel
theorem dX1_read_99 : decode cX1_read 99 = .ok (.iconst 0, 1) := by decide +kernel
theorem dX1_read_100 : decode cX1_read 100 = .ok (.istore 4, 2) := by decide +kernel
theorem dX1_read_102 : decode cX1_read 102 = .ok (.iload 4, 2) := by decide +kernel
theorem dX1_read_104 : decode cX1_read 104 = .ok (.aload_n 0, 1) := by decide +kernel
theorem dX1_read_105 : decode cX1_read 105 = .ok (.getfield 68, 3) := by decide +kernel
theorem dX1_read_108 : decode cX1_read 108 = .ok (.if_icmp .ge 22, 3) := by decide +kernel
theorem dX1_read_111 : decode cX1_read 111 = .ok (.aload_n 0, 1) := by decide +kernel
theorem dX1_read_112 : decode cX1_read 112 = .ok (.getfield 55, 3) := by decide +kernel
theorem dX1_read_115 : decode cX1_read 115 = .ok (.ifCond .ge 15, 3) := by decide +kernel
theorem dX1_read_118 : decode cX1_read 118 = .ok (.aload_n 0, 1) := by decide +kernel
theorem dX1_read_119 : decode cX1_read 119 = .ok (.iload 4, 2) := by decide +kernel
theorem dX1_read_121 : decode cX1_read 121 = .ok (.invokevirtual 71, 3) := by decide +kernel
theorem dX1_read_124 : decode cX1_read 124 = .ok (.iinc 4 1, 3) := by decide +kernel
theorem dX1_read_127 : decode cX1_read 127 = .ok (.goto (-25), 3) := by decide +kernel
theorem dX1_read_130 : decode cX1_read 130 = .ok (.aload_n 0, 1) := by decide +kernel
theorem dX1_read_131 : decode cX1_read 131 = .ok (.aload_n 0, 1) := by decide +kernel
theorem dX1_read_132 : decode cX1_read 132 = .ok (.iconst 1, 1) := by decide +kernel
theorem dX1_read_133 : decode cX1_read 133 = .ok (.bipush 32, 2) := by decide +kernel
theorem dX1_read_135 : decode cX1_read 135 = .ok (.invokevirtual 58, 3) := by decide +kernel
theorem dX1_read_138 : decode cX1_read 138 = .ok (.putfield 75, 3) := by decide +kernel
theorem dX1_read_141 : decode cX1_read 141 = .ok (.iconst 0, 1) := by decide +kernel
theorem dX1_read_142 : decode cX1_read 142 = .ok (.istore 4, 2) := by decide +kernel
theorem dX1_read_144 : decode cX1_read 144 = .ok (.iload 4, 2) := by decide +kernel
theorem dX1_read_146 : decode cX1_read 146 = .ok (.aload_n 0, 1) := by decide +kernel
theorem dX1_read_147 : decode cX1_read 147 = .ok (.getfield 75, 3) := by decide +kernel
theorem dX1_read_150 : decode cX1_read 150 = .ok (.if_icmp .ge 42, 3) := by decide +kernel
theorem dX1_read_153 : decode cX1_read 153 = .ok (.aload_n 0, 1) := by decide +kernel
theorem dX1_read_154 : decode cX1_read 154 = .ok (.getfield 55, 3) := by decide +kernel
theorem dX1_read_157 : decode cX1_read 157 = .ok (.ifCond .ge 35, 3) := by decide +kernel
theorem dX1_read_160 : decode cX1_read 160 = .ok (.aload_n 0, 1) := by decide +kernel
theorem dX1_read_161 : decode cX1_read 161 = .ok (.getfield 33, 3) := by decide +kernel
theorem dX1_read_164 : decode cX1_read 164 = .ok (.iload 4, 2) := by decide +kernel
theorem dX1_read_166 : decode cX1_read 166 = .ok (.aload_n 0, 1) := by decide +kernel
theorem dX1_read_167 : decode cX1_read 167 = .ok (.invokevirtual 78, 3) := by decide +kernel
theorem dX1_read_170 : decode cX1_read 170 = .ok (.iastore, 1) := by decide +kernel
theorem dX1_read_171 : decode cX1_read 171 = .ok (.aload_n 0, 1) := by decide +kernel
theorem dX1_read_172 : decode cX1_read 172 = .ok (.getfield 36, 3) := by decide +kernel
theorem dX1_read_175 : decode cX1_read 175 = .ok (.iload 4, 2) := by decide +kernel
theorem dX1_read_177 : decode cX1_read 177 = .ok (.aload_n 0, 1) := by decide +kernel
theorem dX1_read_178 : decode cX1_read 178 = .ok (.iconst 1, 1) := by decide +kernel
theorem dX1_read_179 : decode cX1_read 179 = .ok (.sipush 1000, 3) := by decide +kernel
theorem dX1_read_182 : decode cX1_read 182 = .ok (.invokevirtual 58, 3) := by decide +kernel
theorem dX1_read_185 : decode cX1_read 185 = .ok (.iastore, 1) := by decide +kernel
theorem dX1_read_186 : decode cX1_read 186 = .ok (.iinc 4 1, 3) := by decide +kernel
theorem dX1_read_189 : decode cX1_read 189 = .ok (.goto (-45), 3) := by decide +kernel
theorem dX1_read_192 : decode cX1_read 192 = .ok (.aload_n 0, 1) := by decide +kernel
theorem dX1_read_193 : decode cX1_read 193 = .ok (.getfield 55, 3) := by decide +kernel
theorem dX1_read_196 : decode cX1_read 196 = .ok (.ifCond .ge 22, 3) := by decide +kernel
theorem dX1_read_199 : decode cX1_read 199 = .ok (.aload_n 0, 1) := by decide +kernel
theorem dX1_read_200 : decode cX1_read 200 = .ok (.getfield 52, 3) := by decide +kernel
theorem dX1_read_203 : decode cX1_read 203 = .ok (.aload_n 0, 1) := by decide +kernel
theorem dX1_read_204 : decode cX1_read 204 = .ok (.getfield 48, 3) := by decide +kernel
theorem dX1_read_207 : decode cX1_read 207 = .ok (.if_icmp .ge 11, 3) := by decide +kernel
theorem dX1_read_210 : decode cX1_read 210 = .ok (.aload_n 0, 1) := by decide +kernel
theorem dX1_read_211 : decode cX1_read 211 = .ok (.aload_n 0, 1) := by decide +kernel
theorem dX1_read_212 : decode cX1_read 212 = .ok (.getfield 52, 3) := by decide +kernel
theorem dX1_read_215 : decode cX1_read 215 = .ok (.putfield 55, 3) := by decide +kernel
theorem dX1_read_218 : decode cX1_read 218 = .ok (.aload_n 0, 1) := by decide +kernel
theorem dX1_read_219 : decode cX1_read 219 = .ok (.getfield 55, 3) := by decide +kernel
theorem dX1_read_222 : decode cX1_read 222 = .ok (.ireturn, 1) := by decide +kernel
theorem cc_X1_read : Cond.code yX1_read cX1_read 5 (some .int) ∈ rf_tb := rf_at 1012 (by decide +kernel) (by decide +kernel)
theorem cw_RX1_64 : cl_wV RX1 RX1 yX1_readPartition cX1_readPartition 4 none 64 2 := ⟨⟨rf_at 1018 (by decide +kernel) (by decide +kernel), rf_at 1020 (by decide +kernel) (by decide +kernel), rf_sel (q := (yX1_readPartition, 16)) 30 (by decide +kernel) (by decide +kernel), cc_X1_readPartition, rf_at 14 (by decide +kernel) (by decide +kernel)⟩, ⟨by decide, by decide, by decide +kernel⟩⟩
theorem cw_RX1_71 : cl_wV RX1 RX1 yX1_readChannel cX1_readChannel 2 none 71 1 := ⟨⟨rf_at 1026 (by decide +kernel) (by decide +kernel), rf_at 1028 (by decide +kernel) (by decide +kernel), rf_sel (q := (yX1_readChannel, 16)) 32 (by decide +kernel) (by decide +kernel), cc_X1_readChannel, rf_at 14 (by decide +kernel) (by decide +kernel)⟩, ⟨by decide, by decide, by decide +kernel⟩⟩
theorem cw_RX1_78 : cl_wV RX1 RX1 yX1_nextOwner cX1_nextOwner 2 (some .int) 78 0 := ⟨⟨rf_at 1030 (by decide +kernel) (by decide +kernel), rf_at 1032 (by decide +kernel) (by decide +kernel), rf_sel (q := (yX1_nextOwner, 16)) 33 (by decide +kernel) (by decide +kernel), cc_X1_nextOwner, rf_at 14 (by decide +kernel) (by decide +kernel)⟩, ⟨by decide, by decide, by decide +kernel⟩⟩
noncomputable def lc_X1_read_41 (a : Nat) (x3 : Int32) (x4 : Int32) (σ : cl_S) : Option ((Int32 × Int32 × cl_S) ⊕ (Int32 × Int32 × cl_S)) := (if (σ.1 a 0) ≤ x4 then some (.inr (x3, x4, σ)) else (if 0 ≤ (σ.1 a 15) then some (.inr (x3, x4, σ)) else ix x4 8 (vl (cl_w σ (a + 4) x4.toNatClampNeg x3) (fun σ_34 => bd1 (fc_X1_readPartition a x4 x3 σ_34) (fun σ_39 => ix x4 8 (vl (x3 + (σ_39.1 (a + 3) x4.toNatClampNeg)) (fun x3_46 => vl (x4 + (1:Int32)) (fun x4_49 => some (.inl (x3_46, x4_49, σ_39))))))))))
noncomputable def lc_X1_read_102 (a : Nat) (x4 : Int32) (σ : cl_S) : Option ((Int32 × cl_S) ⊕ (Int32 × cl_S)) := (if (σ.1 a 5) ≤ x4 then some (.inr (x4, σ)) else (if 0 ≤ (σ.1 a 15) then some (.inr (x4, σ)) else bd1 (fc_X1_readChannel a x4 σ) (fun σ_63 => vl (x4 + (1:Int32)) (fun x4_68 => some (.inl (x4_68, σ_63))))))
noncomputable def lc_X1_read_144 (a : Nat) (x4 : Int32) (σ : cl_S) : Option ((Int32 × cl_S) ⊕ (Int32 × cl_S)) := (if (σ.1 a 9) ≤ x4 then some (.inr (x4, σ)) else (if 0 ≤ (σ.1 a 15) then some (.inr (x4, σ)) else bd2 (fc_X1_nextOwner a σ) (fun r_84 σ_83 => ix x4 32 (vl (cl_w σ_83 (a + 8) x4.toNatClampNeg r_84) (fun σ_89 => bd2 (fc_X1_nextWord a (1:Int32) (1000:Int32) σ_89) (fun r_96 σ_95 => ix x4 32 (vl (cl_w σ_95 (a + 9) x4.toNatClampNeg r_96) (fun σ_101 => vl (x4 + (1:Int32)) (fun x4_106 => some (.inl (x4_106, σ_101)))))))))))
noncomputable def bc_X1_read_192 (a : Nat) (σ : cl_S) : Option (Int32 × cl_S) := (if 0 ≤ (σ.1 a 15) then some ((σ.1 a 15), σ) else (if (σ.1 a 13) ≤ (σ.1 a 14) then some ((σ.1 a 15), σ) else vl (cl_w σ a 15 (σ.1 a 14)) (fun σ_109 => some ((σ_109.1 a 15), σ_109))))
set_option maxHeartbeats 4000000 in
theorem wc_X1_read_192 (C : cl_C D p s m args meth c cX1_read 5 (some .int) RX1) {r : Int32} {a : Nat} {σ0 σ σ' : cl_S} {T : Nat → Nat × Nat} {H : Heap} {locs : List Loc} {ls : Array Slot} {cells slots : Nat} (h : bc_X1_read_192 a σ = some (r, σ')) (G : cl_G true D c0 ({ frames := 2, cells := σ0.2.2.2.2.2.1, slots := σ0.2.2.2.2.2.2, locals := 45 }) s σ0.2.2.2.1 T σ H locs cells slots) (ha : (T a).1 = 17) (hl : lv_has ls 5 [(0, .ref (c0 + a))]) : W p l e ({ frames := 2, cells := σ0.2.2.2.2.2.1, slots := σ0.2.2.2.2.2.2, locals := 45 }) s m args below meth c H locs cells slots (MQ below (cl_Q true D c0 (some (.int r)) cl_no σ0 σ') args s (σ0.2.2.2.2.2.1 - σ'.2.2.2.2.2.1) (σ0.2.2.2.2.2.2 - σ'.2.2.2.2.2.2) (cl_A c0 σ0.2.2.2.1 s.heap.size)) (F0 m 192 ls []) := by
  unfold bc_X1_read_192 at h
  refine lv_aload_n C.1 C.2.1 dX1_read_192 rfl (lv_at hl 0 rfl) ?_
  refine cg_1_55 C G ha dX1_read_193 ?_
  refine lv_if_ge (tgt := 218) C.1 C.2.1 dX1_read_196 (by decide) (fun hc => ?_) (fun hc => ?_)
  · rw [if_pos hc] at h
    refine lv_aload_n C.1 C.2.1 dX1_read_218 rfl (lv_at hl 0 rfl) ?_
    refine cg_1_55 C G ha dX1_read_219 ?_
    exact cl_iret ⟨rfl, rfl⟩ rfl C G h dX1_read_222
  · rw [if_neg hc] at h
    refine lv_aload_n C.1 C.2.1 dX1_read_199 rfl (lv_at hl 0 rfl) ?_
    refine cg_1_52 C G ha dX1_read_200 ?_
    refine lv_aload_n C.1 C.2.1 dX1_read_203 rfl (lv_at hl 0 rfl) ?_
    refine cg_1_48 C G ha dX1_read_204 ?_
    refine lv_icmp_ge (tgt := 218) C.1 C.2.1 dX1_read_207 (by decide) (fun hc => ?_) (fun hc => ?_)
    · rw [if_pos hc] at h
      refine lv_aload_n C.1 C.2.1 dX1_read_218 rfl (lv_at hl 0 rfl) ?_
      refine cg_1_55 C G ha dX1_read_219 ?_
      exact cl_iret ⟨rfl, rfl⟩ rfl C G h dX1_read_222
    · rw [if_neg hc] at h
      refine lv_aload_n C.1 C.2.1 dX1_read_210 rfl (lv_at hl 0 rfl) ?_
      refine lv_aload_n C.1 C.2.1 dX1_read_211 rfl (lv_at hl 0 rfl) ?_
      refine cg_1_52 C G ha dX1_read_212 ?_
      refine cp_1_55 C G ha dX1_read_215 (fun H locs G_110 => ?_)
      refine cl_nm G_110 h (fun σ_109 G_111 h_112 => ?_)
      refine lv_aload_n C.1 C.2.1 dX1_read_218 rfl (lv_at hl 0 rfl) ?_
      refine cg_1_55 C G_111 ha dX1_read_219 ?_
      exact cl_iret ⟨rfl, rfl⟩ rfl C G_111 h_112 dX1_read_222
noncomputable def ec_X1_read_144 (a : Nat) (x4 : Int32) (σ : cl_S) : Option (Int32 × cl_S) := bc_X1_read_192 a σ
noncomputable def bc_X1_read_144 (a : Nat) (x4 : Int32) (σ : cl_S) : Option (Int32 × cl_S) := (lp (fun z : (Int32 × cl_S) => lc_X1_read_144 a z.1 z.2) (x4, σ)).bind (fun z => ec_X1_read_144 a z.1 z.2)
set_option maxHeartbeats 4000000 in
theorem wc_X1_read_144 (C : cl_C D p s m args meth c cX1_read 5 (some .int) RX1) {r : Int32} {a : Nat} {x4 : Int32} {σ0 σ σ' : cl_S} {T : Nat → Nat × Nat} {H : Heap} {locs : List Loc} {ls : Array Slot} {cells slots : Nat} (h : bc_X1_read_144 a x4 σ = some (r, σ')) (G : cl_G true D c0 ({ frames := 2, cells := σ0.2.2.2.2.2.1, slots := σ0.2.2.2.2.2.2, locals := 45 }) s σ0.2.2.2.1 T σ H locs cells slots) (ha : (T a).1 = 17) (hl : lv_has ls 5 [(0, .ref (c0 + a)), (4, .int x4)]) : W p l e ({ frames := 2, cells := σ0.2.2.2.2.2.1, slots := σ0.2.2.2.2.2.2, locals := 45 }) s m args below meth c H locs cells slots (MQ below (cl_Q true D c0 (some (.int r)) cl_no σ0 σ') args s (σ0.2.2.2.2.2.1 - σ'.2.2.2.2.2.1) (σ0.2.2.2.2.2.2 - σ'.2.2.2.2.2.2) (cl_A c0 σ0.2.2.2.1 s.heap.size)) (F0 m 144 ls []) := by
  unfold bc_X1_read_144 at h
  obtain ⟨y, hy, h⟩ := bd_some h
  have hE : (fun z : (Int32 × cl_S) => ∀ (T : Nat → Nat × Nat) (H : Heap) (locs : List Loc) (ls : Array Slot) (cells slots : Nat), cl_G true D c0 ({ frames := 2, cells := σ0.2.2.2.2.2.1, slots := σ0.2.2.2.2.2.2, locals := 45 }) s σ0.2.2.2.1 T z.2 H locs cells slots → (T a).1 = 17 → lv_has ls 5 [(0, .ref (c0 + a)), (4, .int (z.1))] → W p l e ({ frames := 2, cells := σ0.2.2.2.2.2.1, slots := σ0.2.2.2.2.2.2, locals := 45 }) s m args below meth c H locs cells slots (MQ below (cl_Q true D c0 (some (.int r)) cl_no σ0 σ') args s (σ0.2.2.2.2.2.1 - σ'.2.2.2.2.2.1) (σ0.2.2.2.2.2.2 - σ'.2.2.2.2.2.2) (cl_A c0 σ0.2.2.2.1 s.heap.size)) (F0 m 192 ls [])) y := by
    clear hy G ha hl
    intro T H locs ls cells slots G ha hl
    obtain ⟨x4, σ⟩ := y
    dsimp only at h G ha hl
    unfold ec_X1_read_144 at h
    exact wc_X1_read_192 C h G ha (lv_sub hl [0] rfl)
  refine lp_recE (fun z : (Int32 × cl_S) => ∀ (T : Nat → Nat × Nat) (H : Heap) (locs : List Loc) (ls : Array Slot) (cells slots : Nat), cl_G true D c0 ({ frames := 2, cells := σ0.2.2.2.2.2.1, slots := σ0.2.2.2.2.2.2, locals := 45 }) s σ0.2.2.2.1 T z.2 H locs cells slots → (T a).1 = 17 → lv_has ls 5 [(0, .ref (c0 + a)), (4, .int (z.1))] → W p l e ({ frames := 2, cells := σ0.2.2.2.2.2.1, slots := σ0.2.2.2.2.2.2, locals := 45 }) s m args below meth c H locs cells slots (MQ below (cl_Q true D c0 (some (.int r)) cl_no σ0 σ') args s (σ0.2.2.2.2.2.1 - σ'.2.2.2.2.2.1) (σ0.2.2.2.2.2.2 - σ'.2.2.2.2.2.2) (cl_A c0 σ0.2.2.2.1 s.heap.size)) (F0 m 144 ls [])) (fun z : (Int32 × cl_S) => ∀ (T : Nat → Nat × Nat) (H : Heap) (locs : List Loc) (ls : Array Slot) (cells slots : Nat), cl_G true D c0 ({ frames := 2, cells := σ0.2.2.2.2.2.1, slots := σ0.2.2.2.2.2.2, locals := 45 }) s σ0.2.2.2.1 T z.2 H locs cells slots → (T a).1 = 17 → lv_has ls 5 [(0, .ref (c0 + a)), (4, .int (z.1))] → W p l e ({ frames := 2, cells := σ0.2.2.2.2.2.1, slots := σ0.2.2.2.2.2.2, locals := 45 }) s m args below meth c H locs cells slots (MQ below (cl_Q true D c0 (some (.int r)) cl_no σ0 σ') args s (σ0.2.2.2.2.2.1 - σ'.2.2.2.2.2.1) (σ0.2.2.2.2.2.2 - σ'.2.2.2.2.2.2) (cl_A c0 σ0.2.2.2.1 s.heap.size)) (F0 m 192 ls [])) ?_ _ _ hy hE _ _ _ _ _ _ G ha hl
  clear hE hy G ha hl h
  intro z o h hP T H locs ls cells slots G ha hl
  obtain ⟨x4, σ⟩ := z
  dsimp only at h G ha hl
  unfold lc_X1_read_144 at h
  refine lv_iload C.1 C.2.1 dX1_read_144 (lv_at hl 1 rfl) ?_
  refine lv_aload_n C.1 C.2.1 dX1_read_146 rfl (lv_at hl 0 rfl) ?_
  refine cg_1_75 C G ha dX1_read_147 ?_
  refine lv_icmp_ge (tgt := 192) C.1 C.2.1 dX1_read_150 (by decide) (fun hc => ?_) (fun hc => ?_)
  · rw [if_pos hc] at h
    cases h
    exact hP _ _ _ _ _ _ G ha (lv_sub hl [0, 1] rfl)
  · rw [if_neg hc] at h
    refine lv_aload_n C.1 C.2.1 dX1_read_153 rfl (lv_at hl 0 rfl) ?_
    refine cg_1_55 C G ha dX1_read_154 ?_
    refine lv_if_ge (tgt := 192) C.1 C.2.1 dX1_read_157 (by decide) (fun hc => ?_) (fun hc => ?_)
    · rw [if_pos hc] at h
      cases h
      exact hP _ _ _ _ _ _ G ha (lv_sub hl [0, 1] rfl)
    · rw [if_neg hc] at h
      refine lv_aload_n C.1 C.2.1 dX1_read_160 rfl (lv_at hl 0 rfl) ?_
      refine cg_1_33 C G ha dX1_read_161 (fun t_82 => ?_)
      refine lv_iload C.1 C.2.1 dX1_read_164 (lv_at hl 1 rfl) ?_
      refine lv_aload_n C.1 C.2.1 dX1_read_166 rfl (lv_at hl 0 rfl) ?_
      obtain ⟨r_84, σ_83, hq, h_85⟩ := bd2_some h
      refine cl_callV (ci := 1) (rest := [.int x4, .ref (c0 + (a + 8))]) C G rfl ha cw_RX1_78 [] _ (kc_X1_nextOwner l D c0 (by rw [G.1]; exact ha) hq) (Nat.le_of_ble_eq_true rfl) (Nat.le_of_ble_eq_true rfl) rfl rfl hl.1 (Nat.le_of_ble_eq_true rfl) dX1_read_167 (fun T_86 H locs cells slots t_87 hu G_88 => ?_)
      have ha := hu.kind ha (by decide)
      have t_82 := cl_uparr hu t_82 (by decide)
      refine W.eq (g2 := F0 m 170 ls [.int r_84, .int x4, .ref (c0 + (a + 8))]) rfl ?_
      obtain ⟨hi, h_90⟩ := ix_some h_85
      refine cl_iast C G_88 t_82 hi dX1_read_170 (fun H locs G_91 => ?_)
      refine cl_nm G_91 h_90 (fun σ_89 G_92 h_93 => ?_)
      refine lv_aload_n C.1 C.2.1 dX1_read_171 rfl (lv_at hl 0 rfl) ?_
      refine cg_1_36 C G_92 ha dX1_read_172 (fun t_94 => ?_)
      refine lv_iload C.1 C.2.1 dX1_read_175 (lv_at hl 1 rfl) ?_
      refine lv_aload_n C.1 C.2.1 dX1_read_177 rfl (lv_at hl 0 rfl) ?_
      refine lv_iconst (v := (1:Int32)) C.1 C.2.1 dX1_read_178 (by decide) ?_
      refine lv_sipush (v := (1000:Int32)) C.1 C.2.1 dX1_read_179 (by decide) ?_
      obtain ⟨r_96, σ_95, hq, h_97⟩ := bd2_some h_93
      refine cl_callV (ci := 1) (rest := [.int x4, .ref (c0 + (a + 9))]) C G_92 rfl ha cw_RX1_58 [.int (1:Int32), .int (1000:Int32)] _ (kc_X1_nextWord l D c0 (by rw [G_92.1]; exact ha) hq) (Nat.le_of_ble_eq_true rfl) (Nat.le_of_ble_eq_true rfl) rfl rfl hl.1 (Nat.le_of_ble_eq_true rfl) dX1_read_182 (fun T_98 H locs cells slots t_99 hu G_100 => ?_)
      have ha := hu.kind ha (by decide)
      have t_94 := cl_uparr hu t_94 (by decide)
      refine W.eq (g2 := F0 m 185 ls [.int r_96, .int x4, .ref (c0 + (a + 9))]) rfl ?_
      obtain ⟨hi, h_102⟩ := ix_some h_97
      refine cl_iast C G_100 t_94 hi dX1_read_185 (fun H locs G_103 => ?_)
      refine cl_nm G_103 h_102 (fun σ_101 G_104 h_105 => ?_)
      refine vl_ex h_105 (fun x4_106 ey h_107 => ?_)
      refine lv_iinc (v := x4_106) (lv' := [(4, .int x4_106), (0, .ref (c0 + a))]) C.1 C.2.1 dX1_read_186 hl (k := 1) rfl (by rw [ey]; rfl) (by decide) rfl (fun ls hl_108 => ?_)
      refine lv_goto (tgt := 144) C.1 C.2.1 dX1_read_189 (by decide) ?_
      cases h_107
      exact hP _ _ _ _ _ _ G_104 ha (lv_sub hl_108 [1, 0] rfl)
noncomputable def bc_X1_read_130 (a : Nat) (σ : cl_S) : Option (Int32 × cl_S) := bd2 (fc_X1_nextWord a (1:Int32) (32:Int32) σ) (fun r_72 σ_71 => vl (cl_w σ_71 a 9 r_72) (fun σ_77 => bc_X1_read_144 a (0:Int32) σ_77))
set_option maxHeartbeats 4000000 in
theorem wc_X1_read_130 (C : cl_C D p s m args meth c cX1_read 5 (some .int) RX1) {r : Int32} {a : Nat} {σ0 σ σ' : cl_S} {T : Nat → Nat × Nat} {H : Heap} {locs : List Loc} {ls : Array Slot} {cells slots : Nat} (h : bc_X1_read_130 a σ = some (r, σ')) (G : cl_G true D c0 ({ frames := 2, cells := σ0.2.2.2.2.2.1, slots := σ0.2.2.2.2.2.2, locals := 45 }) s σ0.2.2.2.1 T σ H locs cells slots) (ha : (T a).1 = 17) (hl : lv_has ls 5 [(0, .ref (c0 + a))]) : W p l e ({ frames := 2, cells := σ0.2.2.2.2.2.1, slots := σ0.2.2.2.2.2.2, locals := 45 }) s m args below meth c H locs cells slots (MQ below (cl_Q true D c0 (some (.int r)) cl_no σ0 σ') args s (σ0.2.2.2.2.2.1 - σ'.2.2.2.2.2.1) (σ0.2.2.2.2.2.2 - σ'.2.2.2.2.2.2) (cl_A c0 σ0.2.2.2.1 s.heap.size)) (F0 m 130 ls []) := by
  unfold bc_X1_read_130 at h
  refine lv_aload_n C.1 C.2.1 dX1_read_130 rfl (lv_at hl 0 rfl) ?_
  refine lv_aload_n C.1 C.2.1 dX1_read_131 rfl (lv_at hl 0 rfl) ?_
  refine lv_iconst (v := (1:Int32)) C.1 C.2.1 dX1_read_132 (by decide) ?_
  refine lv_bipush (v := (32:Int32)) C.1 C.2.1 dX1_read_133 (by decide) ?_
  obtain ⟨r_72, σ_71, hq, h_73⟩ := bd2_some h
  refine cl_callV (ci := 1) (rest := [.ref (c0 + a)]) C G rfl ha cw_RX1_58 [.int (1:Int32), .int (32:Int32)] _ (kc_X1_nextWord l D c0 (by rw [G.1]; exact ha) hq) (Nat.le_of_ble_eq_true rfl) (Nat.le_of_ble_eq_true rfl) rfl rfl hl.1 (Nat.le_of_ble_eq_true rfl) dX1_read_135 (fun T_74 H locs cells slots t_75 hu G_76 => ?_)
  have ha := hu.kind ha (by decide)
  refine W.eq (g2 := F0 m 138 ls [.int r_72, .ref (c0 + a)]) rfl ?_
  refine cp_1_75 C G_76 ha dX1_read_138 (fun H locs G_78 => ?_)
  refine cl_nm G_78 h_73 (fun σ_77 G_79 h_80 => ?_)
  refine lv_iconst (v := (0:Int32)) C.1 C.2.1 dX1_read_141 (by decide) ?_
  refine lv_istore (lv' := [(4, .int (0:Int32)), (0, .ref (c0 + a))]) C.1 C.2.1 dX1_read_142 hl (by decide) rfl (fun ls hl_81 => ?_)
  exact wc_X1_read_144 C h_80 G_79 ha (lv_sub hl_81 [1, 0] rfl)
noncomputable def ec_X1_read_102 (a : Nat) (x4 : Int32) (σ : cl_S) : Option (Int32 × cl_S) := bc_X1_read_130 a σ
noncomputable def bc_X1_read_102 (a : Nat) (x4 : Int32) (σ : cl_S) : Option (Int32 × cl_S) := (lp (fun z : (Int32 × cl_S) => lc_X1_read_102 a z.1 z.2) (x4, σ)).bind (fun z => ec_X1_read_102 a z.1 z.2)
set_option maxHeartbeats 4000000 in
theorem wc_X1_read_102 (C : cl_C D p s m args meth c cX1_read 5 (some .int) RX1) {r : Int32} {a : Nat} {x4 : Int32} {σ0 σ σ' : cl_S} {T : Nat → Nat × Nat} {H : Heap} {locs : List Loc} {ls : Array Slot} {cells slots : Nat} (h : bc_X1_read_102 a x4 σ = some (r, σ')) (G : cl_G true D c0 ({ frames := 2, cells := σ0.2.2.2.2.2.1, slots := σ0.2.2.2.2.2.2, locals := 45 }) s σ0.2.2.2.1 T σ H locs cells slots) (ha : (T a).1 = 17) (hl : lv_has ls 5 [(0, .ref (c0 + a)), (4, .int x4)]) : W p l e ({ frames := 2, cells := σ0.2.2.2.2.2.1, slots := σ0.2.2.2.2.2.2, locals := 45 }) s m args below meth c H locs cells slots (MQ below (cl_Q true D c0 (some (.int r)) cl_no σ0 σ') args s (σ0.2.2.2.2.2.1 - σ'.2.2.2.2.2.1) (σ0.2.2.2.2.2.2 - σ'.2.2.2.2.2.2) (cl_A c0 σ0.2.2.2.1 s.heap.size)) (F0 m 102 ls []) := by
  unfold bc_X1_read_102 at h
  obtain ⟨y, hy, h⟩ := bd_some h
  have hE : (fun z : (Int32 × cl_S) => ∀ (T : Nat → Nat × Nat) (H : Heap) (locs : List Loc) (ls : Array Slot) (cells slots : Nat), cl_G true D c0 ({ frames := 2, cells := σ0.2.2.2.2.2.1, slots := σ0.2.2.2.2.2.2, locals := 45 }) s σ0.2.2.2.1 T z.2 H locs cells slots → (T a).1 = 17 → lv_has ls 5 [(0, .ref (c0 + a)), (4, .int (z.1))] → W p l e ({ frames := 2, cells := σ0.2.2.2.2.2.1, slots := σ0.2.2.2.2.2.2, locals := 45 }) s m args below meth c H locs cells slots (MQ below (cl_Q true D c0 (some (.int r)) cl_no σ0 σ') args s (σ0.2.2.2.2.2.1 - σ'.2.2.2.2.2.1) (σ0.2.2.2.2.2.2 - σ'.2.2.2.2.2.2) (cl_A c0 σ0.2.2.2.1 s.heap.size)) (F0 m 130 ls [])) y := by
    clear hy G ha hl
    intro T H locs ls cells slots G ha hl
    obtain ⟨x4, σ⟩ := y
    dsimp only at h G ha hl
    unfold ec_X1_read_102 at h
    exact wc_X1_read_130 C h G ha (lv_sub hl [0] rfl)
  refine lp_recE (fun z : (Int32 × cl_S) => ∀ (T : Nat → Nat × Nat) (H : Heap) (locs : List Loc) (ls : Array Slot) (cells slots : Nat), cl_G true D c0 ({ frames := 2, cells := σ0.2.2.2.2.2.1, slots := σ0.2.2.2.2.2.2, locals := 45 }) s σ0.2.2.2.1 T z.2 H locs cells slots → (T a).1 = 17 → lv_has ls 5 [(0, .ref (c0 + a)), (4, .int (z.1))] → W p l e ({ frames := 2, cells := σ0.2.2.2.2.2.1, slots := σ0.2.2.2.2.2.2, locals := 45 }) s m args below meth c H locs cells slots (MQ below (cl_Q true D c0 (some (.int r)) cl_no σ0 σ') args s (σ0.2.2.2.2.2.1 - σ'.2.2.2.2.2.1) (σ0.2.2.2.2.2.2 - σ'.2.2.2.2.2.2) (cl_A c0 σ0.2.2.2.1 s.heap.size)) (F0 m 102 ls [])) (fun z : (Int32 × cl_S) => ∀ (T : Nat → Nat × Nat) (H : Heap) (locs : List Loc) (ls : Array Slot) (cells slots : Nat), cl_G true D c0 ({ frames := 2, cells := σ0.2.2.2.2.2.1, slots := σ0.2.2.2.2.2.2, locals := 45 }) s σ0.2.2.2.1 T z.2 H locs cells slots → (T a).1 = 17 → lv_has ls 5 [(0, .ref (c0 + a)), (4, .int (z.1))] → W p l e ({ frames := 2, cells := σ0.2.2.2.2.2.1, slots := σ0.2.2.2.2.2.2, locals := 45 }) s m args below meth c H locs cells slots (MQ below (cl_Q true D c0 (some (.int r)) cl_no σ0 σ') args s (σ0.2.2.2.2.2.1 - σ'.2.2.2.2.2.1) (σ0.2.2.2.2.2.2 - σ'.2.2.2.2.2.2) (cl_A c0 σ0.2.2.2.1 s.heap.size)) (F0 m 130 ls [])) ?_ _ _ hy hE _ _ _ _ _ _ G ha hl
  clear hE hy G ha hl h
  intro z o h hP T H locs ls cells slots G ha hl
  obtain ⟨x4, σ⟩ := z
  dsimp only at h G ha hl
  unfold lc_X1_read_102 at h
  refine lv_iload C.1 C.2.1 dX1_read_102 (lv_at hl 1 rfl) ?_
  refine lv_aload_n C.1 C.2.1 dX1_read_104 rfl (lv_at hl 0 rfl) ?_
  refine cg_1_68 C G ha dX1_read_105 ?_
  refine lv_icmp_ge (tgt := 130) C.1 C.2.1 dX1_read_108 (by decide) (fun hc => ?_) (fun hc => ?_)
  · rw [if_pos hc] at h
    cases h
    exact hP _ _ _ _ _ _ G ha (lv_sub hl [0, 1] rfl)
  · rw [if_neg hc] at h
    refine lv_aload_n C.1 C.2.1 dX1_read_111 rfl (lv_at hl 0 rfl) ?_
    refine cg_1_55 C G ha dX1_read_112 ?_
    refine lv_if_ge (tgt := 130) C.1 C.2.1 dX1_read_115 (by decide) (fun hc => ?_) (fun hc => ?_)
    · rw [if_pos hc] at h
      cases h
      exact hP _ _ _ _ _ _ G ha (lv_sub hl [0, 1] rfl)
    · rw [if_neg hc] at h
      refine lv_aload_n C.1 C.2.1 dX1_read_118 rfl (lv_at hl 0 rfl) ?_
      refine lv_iload C.1 C.2.1 dX1_read_119 (lv_at hl 1 rfl) ?_
      obtain ⟨σ_63, hq, h_64⟩ := bd1_some h
      refine cl_callV (ci := 1) (rest := []) C G rfl ha cw_RX1_71 [.int x4] _ (kc_X1_readChannel l D c0 (by rw [G.1]; exact ha) hq) (Nat.le_of_ble_eq_true rfl) (Nat.le_of_ble_eq_true rfl) rfl rfl hl.1 (Nat.le_of_ble_eq_true rfl) dX1_read_121 (fun T_65 H locs cells slots t_66 hu G_67 => ?_)
      have ha := hu.kind ha (by decide)
      refine W.eq (g2 := F0 m 124 ls []) rfl ?_
      refine vl_ex h_64 (fun x4_68 ey h_69 => ?_)
      refine lv_iinc (v := x4_68) (lv' := [(4, .int x4_68), (0, .ref (c0 + a))]) C.1 C.2.1 dX1_read_124 hl (k := 1) rfl (by rw [ey]; rfl) (by decide) rfl (fun ls hl_70 => ?_)
      refine lv_goto (tgt := 102) C.1 C.2.1 dX1_read_127 (by decide) ?_
      cases h_69
      exact hP _ _ _ _ _ _ G_67 ha (lv_sub hl_70 [1, 0] rfl)
noncomputable def bc_X1_read_88 (a : Nat) (σ : cl_S) : Option (Int32 × cl_S) := bd2 (fc_X1_nextWord a (0:Int32) (16:Int32) σ) (fun r_53 σ_52 => vl (cl_w σ_52 a 5 r_53) (fun σ_58 => bc_X1_read_102 a (0:Int32) σ_58))
set_option maxHeartbeats 4000000 in
theorem wc_X1_read_88 (C : cl_C D p s m args meth c cX1_read 5 (some .int) RX1) {r : Int32} {a : Nat} {σ0 σ σ' : cl_S} {T : Nat → Nat × Nat} {H : Heap} {locs : List Loc} {ls : Array Slot} {cells slots : Nat} (h : bc_X1_read_88 a σ = some (r, σ')) (G : cl_G true D c0 ({ frames := 2, cells := σ0.2.2.2.2.2.1, slots := σ0.2.2.2.2.2.2, locals := 45 }) s σ0.2.2.2.1 T σ H locs cells slots) (ha : (T a).1 = 17) (hl : lv_has ls 5 [(0, .ref (c0 + a))]) : W p l e ({ frames := 2, cells := σ0.2.2.2.2.2.1, slots := σ0.2.2.2.2.2.2, locals := 45 }) s m args below meth c H locs cells slots (MQ below (cl_Q true D c0 (some (.int r)) cl_no σ0 σ') args s (σ0.2.2.2.2.2.1 - σ'.2.2.2.2.2.1) (σ0.2.2.2.2.2.2 - σ'.2.2.2.2.2.2) (cl_A c0 σ0.2.2.2.1 s.heap.size)) (F0 m 88 ls []) := by
  unfold bc_X1_read_88 at h
  refine lv_aload_n C.1 C.2.1 dX1_read_88 rfl (lv_at hl 0 rfl) ?_
  refine lv_aload_n C.1 C.2.1 dX1_read_89 rfl (lv_at hl 0 rfl) ?_
  refine lv_iconst (v := (0:Int32)) C.1 C.2.1 dX1_read_90 (by decide) ?_
  refine lv_bipush (v := (16:Int32)) C.1 C.2.1 dX1_read_91 (by decide) ?_
  obtain ⟨r_53, σ_52, hq, h_54⟩ := bd2_some h
  refine cl_callV (ci := 1) (rest := [.ref (c0 + a)]) C G rfl ha cw_RX1_58 [.int (0:Int32), .int (16:Int32)] _ (kc_X1_nextWord l D c0 (by rw [G.1]; exact ha) hq) (Nat.le_of_ble_eq_true rfl) (Nat.le_of_ble_eq_true rfl) rfl rfl hl.1 (Nat.le_of_ble_eq_true rfl) dX1_read_93 (fun T_55 H locs cells slots t_56 hu G_57 => ?_)
  have ha := hu.kind ha (by decide)
  refine W.eq (g2 := F0 m 96 ls [.int r_53, .ref (c0 + a)]) rfl ?_
  refine cp_1_68 C G_57 ha dX1_read_96 (fun H locs G_59 => ?_)
  refine cl_nm G_59 h_54 (fun σ_58 G_60 h_61 => ?_)
  refine lv_iconst (v := (0:Int32)) C.1 C.2.1 dX1_read_99 (by decide) ?_
  refine lv_istore (lv' := [(4, .int (0:Int32)), (0, .ref (c0 + a))]) C.1 C.2.1 dX1_read_100 hl (by decide) rfl (fun ls hl_62 => ?_)
  exact wc_X1_read_102 C h_61 G_60 ha (lv_sub hl_62 [1, 0] rfl)
noncomputable def ec_X1_read_41 (a : Nat) (x3 : Int32) (x4 : Int32) (σ : cl_S) : Option (Int32 × cl_S) := bc_X1_read_88 a σ
noncomputable def bc_X1_read_41 (a : Nat) (x3 : Int32) (x4 : Int32) (σ : cl_S) : Option (Int32 × cl_S) := (lp (fun z : (Int32 × Int32 × cl_S) => lc_X1_read_41 a z.1 z.2.1 z.2.2) (x3, x4, σ)).bind (fun z => ec_X1_read_41 a z.1 z.2.1 z.2.2)
set_option maxHeartbeats 4000000 in
theorem wc_X1_read_41 (C : cl_C D p s m args meth c cX1_read 5 (some .int) RX1) {r : Int32} {a : Nat} {x3 : Int32} {x4 : Int32} {σ0 σ σ' : cl_S} {T : Nat → Nat × Nat} {H : Heap} {locs : List Loc} {ls : Array Slot} {cells slots : Nat} (h : bc_X1_read_41 a x3 x4 σ = some (r, σ')) (G : cl_G true D c0 ({ frames := 2, cells := σ0.2.2.2.2.2.1, slots := σ0.2.2.2.2.2.2, locals := 45 }) s σ0.2.2.2.1 T σ H locs cells slots) (ha : (T a).1 = 17) (hl : lv_has ls 5 [(0, .ref (c0 + a)), (3, .int x3), (4, .int x4)]) : W p l e ({ frames := 2, cells := σ0.2.2.2.2.2.1, slots := σ0.2.2.2.2.2.2, locals := 45 }) s m args below meth c H locs cells slots (MQ below (cl_Q true D c0 (some (.int r)) cl_no σ0 σ') args s (σ0.2.2.2.2.2.1 - σ'.2.2.2.2.2.1) (σ0.2.2.2.2.2.2 - σ'.2.2.2.2.2.2) (cl_A c0 σ0.2.2.2.1 s.heap.size)) (F0 m 41 ls []) := by
  unfold bc_X1_read_41 at h
  obtain ⟨y, hy, h⟩ := bd_some h
  have hE : (fun z : (Int32 × Int32 × cl_S) => ∀ (T : Nat → Nat × Nat) (H : Heap) (locs : List Loc) (ls : Array Slot) (cells slots : Nat), cl_G true D c0 ({ frames := 2, cells := σ0.2.2.2.2.2.1, slots := σ0.2.2.2.2.2.2, locals := 45 }) s σ0.2.2.2.1 T z.2.2 H locs cells slots → (T a).1 = 17 → lv_has ls 5 [(0, .ref (c0 + a)), (3, .int (z.1)), (4, .int (z.2.1))] → W p l e ({ frames := 2, cells := σ0.2.2.2.2.2.1, slots := σ0.2.2.2.2.2.2, locals := 45 }) s m args below meth c H locs cells slots (MQ below (cl_Q true D c0 (some (.int r)) cl_no σ0 σ') args s (σ0.2.2.2.2.2.1 - σ'.2.2.2.2.2.1) (σ0.2.2.2.2.2.2 - σ'.2.2.2.2.2.2) (cl_A c0 σ0.2.2.2.1 s.heap.size)) (F0 m 88 ls [])) y := by
    clear hy G ha hl
    intro T H locs ls cells slots G ha hl
    obtain ⟨x3, x4, σ⟩ := y
    dsimp only at h G ha hl
    unfold ec_X1_read_41 at h
    exact wc_X1_read_88 C h G ha (lv_sub hl [0] rfl)
  refine lp_recE (fun z : (Int32 × Int32 × cl_S) => ∀ (T : Nat → Nat × Nat) (H : Heap) (locs : List Loc) (ls : Array Slot) (cells slots : Nat), cl_G true D c0 ({ frames := 2, cells := σ0.2.2.2.2.2.1, slots := σ0.2.2.2.2.2.2, locals := 45 }) s σ0.2.2.2.1 T z.2.2 H locs cells slots → (T a).1 = 17 → lv_has ls 5 [(0, .ref (c0 + a)), (3, .int (z.1)), (4, .int (z.2.1))] → W p l e ({ frames := 2, cells := σ0.2.2.2.2.2.1, slots := σ0.2.2.2.2.2.2, locals := 45 }) s m args below meth c H locs cells slots (MQ below (cl_Q true D c0 (some (.int r)) cl_no σ0 σ') args s (σ0.2.2.2.2.2.1 - σ'.2.2.2.2.2.1) (σ0.2.2.2.2.2.2 - σ'.2.2.2.2.2.2) (cl_A c0 σ0.2.2.2.1 s.heap.size)) (F0 m 41 ls [])) (fun z : (Int32 × Int32 × cl_S) => ∀ (T : Nat → Nat × Nat) (H : Heap) (locs : List Loc) (ls : Array Slot) (cells slots : Nat), cl_G true D c0 ({ frames := 2, cells := σ0.2.2.2.2.2.1, slots := σ0.2.2.2.2.2.2, locals := 45 }) s σ0.2.2.2.1 T z.2.2 H locs cells slots → (T a).1 = 17 → lv_has ls 5 [(0, .ref (c0 + a)), (3, .int (z.1)), (4, .int (z.2.1))] → W p l e ({ frames := 2, cells := σ0.2.2.2.2.2.1, slots := σ0.2.2.2.2.2.2, locals := 45 }) s m args below meth c H locs cells slots (MQ below (cl_Q true D c0 (some (.int r)) cl_no σ0 σ') args s (σ0.2.2.2.2.2.1 - σ'.2.2.2.2.2.1) (σ0.2.2.2.2.2.2 - σ'.2.2.2.2.2.2) (cl_A c0 σ0.2.2.2.1 s.heap.size)) (F0 m 88 ls [])) ?_ _ _ hy hE _ _ _ _ _ _ G ha hl
  clear hE hy G ha hl h
  intro z o h hP T H locs ls cells slots G ha hl
  obtain ⟨x3, x4, σ⟩ := z
  dsimp only at h G ha hl
  unfold lc_X1_read_41 at h
  refine lv_iload C.1 C.2.1 dX1_read_41 (lv_at hl 2 rfl) ?_
  refine lv_aload_n C.1 C.2.1 dX1_read_43 rfl (lv_at hl 0 rfl) ?_
  refine cg_1_61 C G ha dX1_read_44 ?_
  refine lv_icmp_ge (tgt := 88) C.1 C.2.1 dX1_read_47 (by decide) (fun hc => ?_) (fun hc => ?_)
  · rw [if_pos hc] at h
    cases h
    exact hP _ _ _ _ _ _ G ha (lv_sub hl [0, 1, 2] rfl)
  · rw [if_neg hc] at h
    refine lv_aload_n C.1 C.2.1 dX1_read_50 rfl (lv_at hl 0 rfl) ?_
    refine cg_1_55 C G ha dX1_read_51 ?_
    refine lv_if_ge (tgt := 88) C.1 C.2.1 dX1_read_54 (by decide) (fun hc => ?_) (fun hc => ?_)
    · rw [if_pos hc] at h
      cases h
      exact hP _ _ _ _ _ _ G ha (lv_sub hl [0, 1, 2] rfl)
    · rw [if_neg hc] at h
      refine lv_aload_n C.1 C.2.1 dX1_read_57 rfl (lv_at hl 0 rfl) ?_
      refine cg_1_21 C G ha dX1_read_58 (fun t_33 => ?_)
      refine lv_iload C.1 C.2.1 dX1_read_61 (lv_at hl 2 rfl) ?_
      refine lv_iload_n C.1 C.2.1 dX1_read_63 rfl (lv_at hl 1 rfl) ?_
      obtain ⟨hi, h_35⟩ := ix_some h
      refine cl_iast C G t_33 hi dX1_read_64 (fun H locs G_36 => ?_)
      refine cl_nm G_36 h_35 (fun σ_34 G_37 h_38 => ?_)
      refine lv_aload_n C.1 C.2.1 dX1_read_65 rfl (lv_at hl 0 rfl) ?_
      refine lv_iload C.1 C.2.1 dX1_read_66 (lv_at hl 2 rfl) ?_
      refine lv_iload_n C.1 C.2.1 dX1_read_68 rfl (lv_at hl 1 rfl) ?_
      obtain ⟨σ_39, hq, h_40⟩ := bd1_some h_38
      refine cl_callV (ci := 1) (rest := []) C G_37 rfl ha cw_RX1_64 [.int x4, .int x3] _ (kc_X1_readPartition l D c0 (by rw [G_37.1]; exact ha) hq) (Nat.le_of_ble_eq_true rfl) (Nat.le_of_ble_eq_true rfl) rfl rfl hl.1 (Nat.le_of_ble_eq_true rfl) dX1_read_69 (fun T_41 H locs cells slots t_42 hu G_43 => ?_)
      have ha := hu.kind ha (by decide)
      refine W.eq (g2 := F0 m 72 ls []) rfl ?_
      refine lv_iload_n C.1 C.2.1 dX1_read_72 rfl (lv_at hl 1 rfl) ?_
      refine lv_aload_n C.1 C.2.1 dX1_read_73 rfl (lv_at hl 0 rfl) ?_
      refine cg_1_18 C G_43 ha dX1_read_74 (fun t_44 => ?_)
      refine lv_iload C.1 C.2.1 dX1_read_77 (lv_at hl 2 rfl) ?_
      obtain ⟨hi, h_45⟩ := ix_some h_40
      refine cl_iald C G_43 t_44 hi dX1_read_79 ?_
      refine lv_iadd C.1 C.2.1 dX1_read_80 ?_
      refine vt_i h_45 (fun x3_46 h_47 => ?_)
      refine lv_istore_n (lv' := [(3, .int x3_46), (0, .ref (c0 + a)), (4, .int x4)]) C.1 C.2.1 dX1_read_81 rfl hl (by decide) rfl (fun ls hl_48 => ?_)
      refine vl_ex h_47 (fun x4_49 ey h_50 => ?_)
      refine lv_iinc (v := x4_49) (lv' := [(4, .int x4_49), (3, .int x3_46), (0, .ref (c0 + a))]) C.1 C.2.1 dX1_read_82 hl_48 (k := 2) rfl (by rw [ey]; rfl) (by decide) rfl (fun ls hl_51 => ?_)
      refine lv_goto (tgt := 41) C.1 C.2.1 dX1_read_85 (by decide) ?_
      cases h_50
      exact hP _ _ _ _ _ _ G_43 ha (lv_sub hl_51 [2, 1, 0] rfl)
noncomputable def bc_X1_read_0 (a : Nat) (x1 : (Option Nat)) (x2 : Int32) (σ : cl_S) : Option (Int32 × cl_S) := vl (cl_wr σ a 12 x1) (fun σ_1 => nn x1 (fun a_5 => vl (cl_w σ_1 a 13 (if (nI ((σ_1.2.2.2.1 a_5).2)) < x2 then (nI ((σ_1.2.2.2.1 a_5).2)) else x2)) (fun σ_9 => vl (cl_w σ_9 a 14 (0:Int32)) (fun σ_13 => vl (cl_w σ_13 a 15 (-1:Int32)) (fun σ_17 => bd2 (fc_X1_nextWord a (1:Int32) (8:Int32) σ_17) (fun r_22 σ_21 => vl (cl_w σ_21 a 0 r_22) (fun σ_27 => bc_X1_read_41 a (0:Int32) (0:Int32) σ_27)))))))
set_option maxHeartbeats 4000000 in
theorem wc_X1_read_0 (C : cl_C D p s m args meth c cX1_read 5 (some .int) RX1) {r : Int32} {a : Nat} {x1 : (Option Nat)} {x2 : Int32} {σ0 σ σ' : cl_S} {T : Nat → Nat × Nat} {H : Heap} {locs : List Loc} {ls : Array Slot} {cells slots : Nat} (h : bc_X1_read_0 a x1 x2 σ = some (r, σ')) (G : cl_G true D c0 ({ frames := 2, cells := σ0.2.2.2.2.2.1, slots := σ0.2.2.2.2.2.2, locals := 45 }) s σ0.2.2.2.1 T σ H locs cells slots) (ha : (T a).1 = 17) (f1 : cl_RT T x1 1) (hl : lv_has ls 5 [(0, .ref (c0 + a)), (1, cl_rf c0 x1), (2, .int x2)]) : W p l e ({ frames := 2, cells := σ0.2.2.2.2.2.1, slots := σ0.2.2.2.2.2.2, locals := 45 }) s m args below meth c H locs cells slots (MQ below (cl_Q true D c0 (some (.int r)) cl_no σ0 σ') args s (σ0.2.2.2.2.2.1 - σ'.2.2.2.2.2.1) (σ0.2.2.2.2.2.2 - σ'.2.2.2.2.2.2) (cl_A c0 σ0.2.2.2.1 s.heap.size)) (F0 m 0 ls []) := by
  unfold bc_X1_read_0 at h
  refine lv_aload_n C.1 C.2.1 dX1_read_0 rfl (lv_at hl 0 rfl) ?_
  refine cl_aload_n C.1 C.2.1 dX1_read_1 rfl (lv_at hl 1 rfl) ?_
  refine cp_1_39 (x := x1) C G ha f1 dX1_read_2 (fun H locs G_2 => ?_)
  refine cl_nm G_2 h (fun σ_1 G_3 h_4 => ?_)
  refine lv_aload_n C.1 C.2.1 dX1_read_5 rfl (lv_at hl 0 rfl) ?_
  refine lv_iload_n C.1 C.2.1 dX1_read_6 rfl (lv_at hl 2 rfl) ?_
  refine cl_aload_n C.1 C.2.1 dX1_read_7 rfl (lv_at hl 1 rfl) ?_
  obtain ⟨a_5, rfl, h_7⟩ := nn_some h_4
  have t_6 := f1 _ rfl
  have t_8 : T a_5 = (1, (σ_1.2.2.2.1 a_5).2) := by rw [G_3.1]; exact Prod.ext t_6 rfl
  refine cl_alen C G_3 t_8 dX1_read_8 ?_
  refine va_mmin C.1 C.2.1 (C.2.2.1.trans hl.1.symm) C.2.2.2.1 (C.2.2.2.2.1 _ mw_RX1_42) (C.2.2.2.2.1 _ mw_min_s) (C.2.2.2.2.1 _ mw_Math_i) (C.2.2.2.2.1 _ mw_min_c) (Nat.le_of_ble_eq_true rfl) (Nat.le_of_ble_eq_true rfl) (cl_le1 G_3) (cl_le2 G_3) dX1_read_9 ?_
  refine cp_1_48 C G_3 ha dX1_read_12 (fun H locs G_10 => ?_)
  refine cl_nm G_10 h_7 (fun σ_9 G_11 h_12 => ?_)
  refine lv_aload_n C.1 C.2.1 dX1_read_15 rfl (lv_at hl 0 rfl) ?_
  refine lv_iconst (v := (0:Int32)) C.1 C.2.1 dX1_read_16 (by decide) ?_
  refine cp_1_52 C G_11 ha dX1_read_17 (fun H locs G_14 => ?_)
  refine cl_nm G_14 h_12 (fun σ_13 G_15 h_16 => ?_)
  refine lv_aload_n C.1 C.2.1 dX1_read_20 rfl (lv_at hl 0 rfl) ?_
  refine lv_iconst (v := (-1:Int32)) C.1 C.2.1 dX1_read_21 (by decide) ?_
  refine cp_1_55 C G_15 ha dX1_read_22 (fun H locs G_18 => ?_)
  refine cl_nm G_18 h_16 (fun σ_17 G_19 h_20 => ?_)
  refine lv_aload_n C.1 C.2.1 dX1_read_25 rfl (lv_at hl 0 rfl) ?_
  refine lv_aload_n C.1 C.2.1 dX1_read_26 rfl (lv_at hl 0 rfl) ?_
  refine lv_iconst (v := (1:Int32)) C.1 C.2.1 dX1_read_27 (by decide) ?_
  refine lv_bipush (v := (8:Int32)) C.1 C.2.1 dX1_read_28 (by decide) ?_
  obtain ⟨r_22, σ_21, hq, h_23⟩ := bd2_some h_20
  refine cl_callV (ci := 1) (rest := [.ref (c0 + a)]) C G_19 rfl ha cw_RX1_58 [.int (1:Int32), .int (8:Int32)] _ (kc_X1_nextWord l D c0 (by rw [G_19.1]; exact ha) hq) (Nat.le_of_ble_eq_true rfl) (Nat.le_of_ble_eq_true rfl) rfl rfl hl.1 (Nat.le_of_ble_eq_true rfl) dX1_read_30 (fun T_24 H locs cells slots t_25 hu G_26 => ?_)
  have ha := hu.kind ha (by decide)
  have t_6 := hu.kind t_6 (by decide)
  refine W.eq (g2 := F0 m 33 ls [.int r_22, .ref (c0 + a)]) rfl ?_
  refine cp_1_61 C G_26 ha dX1_read_33 (fun H locs G_28 => ?_)
  refine cl_nm G_28 h_23 (fun σ_27 G_29 h_30 => ?_)
  refine lv_iconst (v := (0:Int32)) C.1 C.2.1 dX1_read_36 (by decide) ?_
  refine lv_istore_n (lv' := [(3, .int (0:Int32)), (0, .ref (c0 + a)), (1, .ref (c0 + a_5)), (2, .int x2)]) C.1 C.2.1 dX1_read_37 rfl hl (by decide) rfl (fun ls hl_31 => ?_)
  refine lv_iconst (v := (0:Int32)) C.1 C.2.1 dX1_read_38 (by decide) ?_
  refine lv_istore (lv' := [(4, .int (0:Int32)), (3, .int (0:Int32)), (0, .ref (c0 + a)), (1, .ref (c0 + a_5)), (2, .int x2)]) C.1 C.2.1 dX1_read_39 hl_31 (by decide) rfl (fun ls hl_32 => ?_)
  exact wc_X1_read_41 C h_30 G_29 ha (lv_sub hl_32 [2, 1, 0] rfl)
noncomputable def fc_X1_read (a : Nat) (x1 : (Option Nat)) (x2 : Int32) (σ : cl_S) : Option (Int32 × cl_S) := bc_X1_read_0 a x1 x2 σ
theorem kc_X1_read (l : Launch) (D : cl_D) (c0 : Nat) {r : Int32} {a : Nat} {x1 : (Option Nat)} {x2 : Int32} {σ σ' : cl_S} (ha : (σ.2.2.2.1 a).1 = 17) (h : fc_X1_read a x1 x2 σ = some (r, σ')) (f1 : cl_RT σ.2.2.2.1 x1 1) : cl_Met true l D c0 yX1_read cX1_read 5 (some .int) 2 45 [.ref (c0 + a), cl_rf c0 x1, .int x2] σ (some (.int r)) cl_no σ' :=
  by cases x1 <;> exact cl_of (by decide) (Nat.le_of_ble_eq_true rfl) (fun p e s m args below meth c ls C hn G hl => wc_X1_read_0 C h G ha f1 hl)
abbrev cX1_flowingTo : ByteArray := prog_3_method_8_code
def yX1_flowingTo : MethodName := ⟨RX1, "flowingTo", "(I)I"⟩
theorem dX1_flowingTo_0 : decode cX1_flowingTo 0 = .ok (.iconst 1, 1) := by decide +kernel
theorem dX1_flowingTo_1 : decode cX1_flowingTo 1 = .ok (.iload_n 1, 1) := by decide +kernel
theorem dX1_flowingTo_2 : decode cX1_flowingTo 2 = .ok (.ishl, 1) := by decide +kernel
theorem dX1_flowingTo_3 : decode cX1_flowingTo 3 = .ok (.istore_n 2, 1) := by decide +kernel
theorem dX1_flowingTo_4 : decode cX1_flowingTo 4 = .ok (.iconst 0, 1) := by decide +kernel
theorem dX1_flowingTo_5 : decode cX1_flowingTo 5 = .ok (.istore_n 3, 1) := by decide +kernel
theorem dX1_flowingTo_6 : decode cX1_flowingTo 6 = .ok (.iload_n 3, 1) := by decide +kernel
theorem dX1_flowingTo_7 : decode cX1_flowingTo 7 = .ok (.aload_n 0, 1) := by decide +kernel
theorem dX1_flowingTo_8 : decode cX1_flowingTo 8 = .ok (.getfield 61, 3) := by decide +kernel
theorem dX1_flowingTo_11 : decode cX1_flowingTo 11 = .ok (.if_icmp .ge 54, 3) := by decide +kernel
theorem dX1_flowingTo_14 : decode cX1_flowingTo 14 = .ok (.iconst 0, 1) := by decide +kernel
theorem dX1_flowingTo_15 : decode cX1_flowingTo 15 = .ok (.istore 4, 2) := by decide +kernel
theorem dX1_flowingTo_17 : decode cX1_flowingTo 17 = .ok (.iload 4, 2) := by decide +kernel
theorem dX1_flowingTo_19 : decode cX1_flowingTo 19 = .ok (.aload_n 0, 1) := by decide +kernel
theorem dX1_flowingTo_20 : decode cX1_flowingTo 20 = .ok (.getfield 68, 3) := by decide +kernel
theorem dX1_flowingTo_23 : decode cX1_flowingTo 23 = .ok (.if_icmp .ge 36, 3) := by decide +kernel
theorem dX1_flowingTo_26 : decode cX1_flowingTo 26 = .ok (.iload_n 2, 1) := by decide +kernel
theorem dX1_flowingTo_27 : decode cX1_flowingTo 27 = .ok (.aload_n 0, 1) := by decide +kernel
theorem dX1_flowingTo_28 : decode cX1_flowingTo 28 = .ok (.getfield 27, 3) := by decide +kernel
theorem dX1_flowingTo_31 : decode cX1_flowingTo 31 = .ok (.iload 4, 2) := by decide +kernel
theorem dX1_flowingTo_33 : decode cX1_flowingTo 33 = .ok (.iaload, 1) := by decide +kernel
theorem dX1_flowingTo_34 : decode cX1_flowingTo 34 = .ok (.ishr, 1) := by decide +kernel
theorem dX1_flowingTo_35 : decode cX1_flowingTo 35 = .ok (.iconst 1, 1) := by decide +kernel
theorem dX1_flowingTo_36 : decode cX1_flowingTo 36 = .ok (.iand, 1) := by decide +kernel
theorem dX1_flowingTo_37 : decode cX1_flowingTo 37 = .ok (.iconst 1, 1) := by decide +kernel
theorem dX1_flowingTo_38 : decode cX1_flowingTo 38 = .ok (.if_icmp .ne 15, 3) := by decide +kernel
theorem dX1_flowingTo_41 : decode cX1_flowingTo 41 = .ok (.iload_n 2, 1) := by decide +kernel
theorem dX1_flowingTo_42 : decode cX1_flowingTo 42 = .ok (.iconst 1, 1) := by decide +kernel
theorem dX1_flowingTo_43 : decode cX1_flowingTo 43 = .ok (.aload_n 0, 1) := by decide +kernel
theorem dX1_flowingTo_44 : decode cX1_flowingTo 44 = .ok (.getfield 24, 3) := by decide +kernel
theorem dX1_flowingTo_47 : decode cX1_flowingTo 47 = .ok (.iload 4, 2) := by decide +kernel
theorem dX1_flowingTo_49 : decode cX1_flowingTo 49 = .ok (.iaload, 1) := by decide +kernel
theorem dX1_flowingTo_50 : decode cX1_flowingTo 50 = .ok (.ishl, 1) := by decide +kernel
theorem dX1_flowingTo_51 : decode cX1_flowingTo 51 = .ok (.ior, 1) := by decide +kernel
theorem dX1_flowingTo_52 : decode cX1_flowingTo 52 = .ok (.istore_n 2, 1) := by decide +kernel
theorem dX1_flowingTo_53 : decode cX1_flowingTo 53 = .ok (.iinc 4 1, 3) := by decide +kernel
theorem dX1_flowingTo_56 : decode cX1_flowingTo 56 = .ok (.goto (-39), 3) := by decide +kernel
theorem dX1_flowingTo_59 : decode cX1_flowingTo 59 = .ok (.iinc 3 1, 3) := by decide +kernel
theorem dX1_flowingTo_62 : decode cX1_flowingTo 62 = .ok (.goto (-56), 3) := by decide +kernel
theorem dX1_flowingTo_65 : decode cX1_flowingTo 65 = .ok (.iload_n 2, 1) := by decide +kernel
theorem dX1_flowingTo_66 : decode cX1_flowingTo 66 = .ok (.ireturn, 1) := by decide +kernel
theorem cc_X1_flowingTo : Cond.code yX1_flowingTo cX1_flowingTo 5 (some .int) ∈ rf_tb := rf_at 1470 (by decide +kernel) (by decide +kernel)
noncomputable def bc_X1_flowingTo_53i17 (a : Nat) (x2 : Int32) (x3 : Int32) (x4 : Int32) (σ : cl_S) : Option ((Int32 × Int32 × cl_S) ⊕ (Int32 × Int32 × cl_S)) := vl (x4 + (1:Int32)) (fun x4_8 => some (.inl (x2, x4_8, σ)))
set_option maxHeartbeats 4000000 in
theorem wc_X1_flowingTo_53i17 (C : cl_C D p s m args meth c cX1_flowingTo 5 (some .int) RX1) {r : Int32} {a : Nat} {x2 : Int32} {x3 : Int32} {x4 : Int32} {σ0 σ σ' : cl_S} {T : Nat → Nat × Nat} {H : Heap} {locs : List Loc} {ls : Array Slot} {cells slots : Nat} {o : (Int32 × Int32 × cl_S) ⊕ (Int32 × Int32 × cl_S)} (h : bc_X1_flowingTo_53i17 a x2 x3 x4 σ = some o) (hP : Sum.elim (fun z : (Int32 × Int32 × cl_S) => ∀ (T : Nat → Nat × Nat) (H : Heap) (locs : List Loc) (ls : Array Slot) (cells slots : Nat), cl_G true D c0 ({ frames := 0, cells := σ0.2.2.2.2.2.1, slots := σ0.2.2.2.2.2.2, locals := 0 }) s σ0.2.2.2.1 T z.2.2 H locs cells slots → (T a).1 = 17 → lv_has ls 5 [(0, .ref (c0 + a)), (2, .int (z.1)), (3, .int x3), (4, .int (z.2.1))] → W p l e ({ frames := 0, cells := σ0.2.2.2.2.2.1, slots := σ0.2.2.2.2.2.2, locals := 0 }) s m args below meth c H locs cells slots (MQ below (cl_Q true D c0 (some (.int r)) cl_no σ0 σ') args s (σ0.2.2.2.2.2.1 - σ'.2.2.2.2.2.1) (σ0.2.2.2.2.2.2 - σ'.2.2.2.2.2.2) (cl_A c0 σ0.2.2.2.1 s.heap.size)) (F0 m 17 ls [])) (fun z : (Int32 × Int32 × cl_S) => ∀ (T : Nat → Nat × Nat) (H : Heap) (locs : List Loc) (ls : Array Slot) (cells slots : Nat), cl_G true D c0 ({ frames := 0, cells := σ0.2.2.2.2.2.1, slots := σ0.2.2.2.2.2.2, locals := 0 }) s σ0.2.2.2.1 T z.2.2 H locs cells slots → (T a).1 = 17 → lv_has ls 5 [(0, .ref (c0 + a)), (2, .int (z.1)), (3, .int x3), (4, .int (z.2.1))] → W p l e ({ frames := 0, cells := σ0.2.2.2.2.2.1, slots := σ0.2.2.2.2.2.2, locals := 0 }) s m args below meth c H locs cells slots (MQ below (cl_Q true D c0 (some (.int r)) cl_no σ0 σ') args s (σ0.2.2.2.2.2.1 - σ'.2.2.2.2.2.1) (σ0.2.2.2.2.2.2 - σ'.2.2.2.2.2.2) (cl_A c0 σ0.2.2.2.1 s.heap.size)) (F0 m 59 ls [])) o) (G : cl_G true D c0 ({ frames := 0, cells := σ0.2.2.2.2.2.1, slots := σ0.2.2.2.2.2.2, locals := 0 }) s σ0.2.2.2.1 T σ H locs cells slots) (ha : (T a).1 = 17) (hl : lv_has ls 5 [(0, .ref (c0 + a)), (2, .int x2), (3, .int x3), (4, .int x4)]) : W p l e ({ frames := 0, cells := σ0.2.2.2.2.2.1, slots := σ0.2.2.2.2.2.2, locals := 0 }) s m args below meth c H locs cells slots (MQ below (cl_Q true D c0 (some (.int r)) cl_no σ0 σ') args s (σ0.2.2.2.2.2.1 - σ'.2.2.2.2.2.1) (σ0.2.2.2.2.2.2 - σ'.2.2.2.2.2.2) (cl_A c0 σ0.2.2.2.1 s.heap.size)) (F0 m 53 ls []) := by
  unfold bc_X1_flowingTo_53i17 at h
  refine vl_ex h (fun x4_8 ey h_9 => ?_)
  refine lv_iinc (v := x4_8) (lv' := [(4, .int x4_8), (0, .ref (c0 + a)), (2, .int x2), (3, .int x3)]) C.1 C.2.1 dX1_flowingTo_53 hl (k := 3) rfl (by rw [ey]; rfl) (by decide) rfl (fun ls hl_10 => ?_)
  refine lv_goto (tgt := 17) C.1 C.2.1 dX1_flowingTo_56 (by decide) ?_
  cases h_9
  exact hP _ _ _ _ _ _ G ha (lv_sub hl_10 [1, 2, 3, 0] rfl)
noncomputable def lc_X1_flowingTo_17i6 (a : Nat) (x3 : Int32) (x2 : Int32) (x4 : Int32) (σ : cl_S) : Option ((Int32 × Int32 × cl_S) ⊕ (Int32 × Int32 × cl_S)) := (if (σ.1 a 5) ≤ x4 then some (.inr (x2, x4, σ)) else ix x4 16 ((if ((x2 >>> ((σ.1 (a + 6) x4.toNatClampNeg) &&& 31)) &&& (1:Int32)) = (1:Int32) then ix x4 16 (vl (x2 ||| ((1:Int32) <<< ((σ.1 (a + 5) x4.toNatClampNeg) &&& 31))) (fun x2_13 => bc_X1_flowingTo_53i17 a x2_13 x3 x4 σ)) else bc_X1_flowingTo_53i17 a x2 x3 x4 σ)))
noncomputable def ec_X1_flowingTo_17i6 (a : Nat) (x3 : Int32) (x2 : Int32) (x4 : Int32) (σ : cl_S) : Option ((Int32 × Int32 × cl_S) ⊕ (Int32 × Int32 × cl_S)) := vl (x3 + (1:Int32)) (fun x3_16 => some (.inl (x2, x3_16, σ)))
noncomputable def bc_X1_flowingTo_17i6 (a : Nat) (x2 : Int32) (x3 : Int32) (x4 : Int32) (σ : cl_S) : Option ((Int32 × Int32 × cl_S) ⊕ (Int32 × Int32 × cl_S)) := (lp (fun z : (Int32 × Int32 × cl_S) => lc_X1_flowingTo_17i6 a x3 z.1 z.2.1 z.2.2) (x2, x4, σ)).bind (fun z => ec_X1_flowingTo_17i6 a x3 z.1 z.2.1 z.2.2)
set_option maxHeartbeats 4000000 in
theorem wc_X1_flowingTo_17i6 (C : cl_C D p s m args meth c cX1_flowingTo 5 (some .int) RX1) {r : Int32} {a : Nat} {x2 : Int32} {x3 : Int32} {x4 : Int32} {σ0 σ σ' : cl_S} {T : Nat → Nat × Nat} {H : Heap} {locs : List Loc} {ls : Array Slot} {cells slots : Nat} {o : (Int32 × Int32 × cl_S) ⊕ (Int32 × Int32 × cl_S)} (h : bc_X1_flowingTo_17i6 a x2 x3 x4 σ = some o) (hP : Sum.elim (fun z : (Int32 × Int32 × cl_S) => ∀ (T : Nat → Nat × Nat) (H : Heap) (locs : List Loc) (ls : Array Slot) (cells slots : Nat), cl_G true D c0 ({ frames := 0, cells := σ0.2.2.2.2.2.1, slots := σ0.2.2.2.2.2.2, locals := 0 }) s σ0.2.2.2.1 T z.2.2 H locs cells slots → (T a).1 = 17 → lv_has ls 5 [(0, .ref (c0 + a)), (2, .int (z.1)), (3, .int (z.2.1))] → W p l e ({ frames := 0, cells := σ0.2.2.2.2.2.1, slots := σ0.2.2.2.2.2.2, locals := 0 }) s m args below meth c H locs cells slots (MQ below (cl_Q true D c0 (some (.int r)) cl_no σ0 σ') args s (σ0.2.2.2.2.2.1 - σ'.2.2.2.2.2.1) (σ0.2.2.2.2.2.2 - σ'.2.2.2.2.2.2) (cl_A c0 σ0.2.2.2.1 s.heap.size)) (F0 m 6 ls [])) (fun z : (Int32 × Int32 × cl_S) => ∀ (T : Nat → Nat × Nat) (H : Heap) (locs : List Loc) (ls : Array Slot) (cells slots : Nat), cl_G true D c0 ({ frames := 0, cells := σ0.2.2.2.2.2.1, slots := σ0.2.2.2.2.2.2, locals := 0 }) s σ0.2.2.2.1 T z.2.2 H locs cells slots → (T a).1 = 17 → lv_has ls 5 [(0, .ref (c0 + a)), (2, .int (z.1)), (3, .int (z.2.1))] → W p l e ({ frames := 0, cells := σ0.2.2.2.2.2.1, slots := σ0.2.2.2.2.2.2, locals := 0 }) s m args below meth c H locs cells slots (MQ below (cl_Q true D c0 (some (.int r)) cl_no σ0 σ') args s (σ0.2.2.2.2.2.1 - σ'.2.2.2.2.2.1) (σ0.2.2.2.2.2.2 - σ'.2.2.2.2.2.2) (cl_A c0 σ0.2.2.2.1 s.heap.size)) (F0 m 65 ls [])) o) (G : cl_G true D c0 ({ frames := 0, cells := σ0.2.2.2.2.2.1, slots := σ0.2.2.2.2.2.2, locals := 0 }) s σ0.2.2.2.1 T σ H locs cells slots) (ha : (T a).1 = 17) (hl : lv_has ls 5 [(0, .ref (c0 + a)), (2, .int x2), (3, .int x3), (4, .int x4)]) : W p l e ({ frames := 0, cells := σ0.2.2.2.2.2.1, slots := σ0.2.2.2.2.2.2, locals := 0 }) s m args below meth c H locs cells slots (MQ below (cl_Q true D c0 (some (.int r)) cl_no σ0 σ') args s (σ0.2.2.2.2.2.1 - σ'.2.2.2.2.2.1) (σ0.2.2.2.2.2.2 - σ'.2.2.2.2.2.2) (cl_A c0 σ0.2.2.2.1 s.heap.size)) (F0 m 17 ls []) := by
  unfold bc_X1_flowingTo_17i6 at h
  obtain ⟨y, hy, h⟩ := bd_some h
  have hE : (fun z : (Int32 × Int32 × cl_S) => ∀ (T : Nat → Nat × Nat) (H : Heap) (locs : List Loc) (ls : Array Slot) (cells slots : Nat), cl_G true D c0 ({ frames := 0, cells := σ0.2.2.2.2.2.1, slots := σ0.2.2.2.2.2.2, locals := 0 }) s σ0.2.2.2.1 T z.2.2 H locs cells slots → (T a).1 = 17 → lv_has ls 5 [(0, .ref (c0 + a)), (2, .int (z.1)), (3, .int x3), (4, .int (z.2.1))] → W p l e ({ frames := 0, cells := σ0.2.2.2.2.2.1, slots := σ0.2.2.2.2.2.2, locals := 0 }) s m args below meth c H locs cells slots (MQ below (cl_Q true D c0 (some (.int r)) cl_no σ0 σ') args s (σ0.2.2.2.2.2.1 - σ'.2.2.2.2.2.1) (σ0.2.2.2.2.2.2 - σ'.2.2.2.2.2.2) (cl_A c0 σ0.2.2.2.1 s.heap.size)) (F0 m 59 ls [])) y := by
    clear hy G ha hl
    intro T H locs ls cells slots G ha hl
    obtain ⟨x2, x4, σ⟩ := y
    dsimp only at h G ha hl
    unfold ec_X1_flowingTo_17i6 at h
    refine vl_ex h (fun x3_16 ey h_17 => ?_)
    refine lv_iinc (v := x3_16) (lv' := [(3, .int x3_16), (0, .ref (c0 + a)), (2, .int x2), (4, .int x4)]) C.1 C.2.1 dX1_flowingTo_59 hl (k := 2) rfl (by rw [ey]; rfl) (by decide) rfl (fun ls hl_18 => ?_)
    refine lv_goto (tgt := 6) C.1 C.2.1 dX1_flowingTo_62 (by decide) ?_
    cases h_17
    exact hP _ _ _ _ _ _ G ha (lv_sub hl_18 [1, 2, 0] rfl)
  refine lp_recE (fun z : (Int32 × Int32 × cl_S) => ∀ (T : Nat → Nat × Nat) (H : Heap) (locs : List Loc) (ls : Array Slot) (cells slots : Nat), cl_G true D c0 ({ frames := 0, cells := σ0.2.2.2.2.2.1, slots := σ0.2.2.2.2.2.2, locals := 0 }) s σ0.2.2.2.1 T z.2.2 H locs cells slots → (T a).1 = 17 → lv_has ls 5 [(0, .ref (c0 + a)), (2, .int (z.1)), (3, .int x3), (4, .int (z.2.1))] → W p l e ({ frames := 0, cells := σ0.2.2.2.2.2.1, slots := σ0.2.2.2.2.2.2, locals := 0 }) s m args below meth c H locs cells slots (MQ below (cl_Q true D c0 (some (.int r)) cl_no σ0 σ') args s (σ0.2.2.2.2.2.1 - σ'.2.2.2.2.2.1) (σ0.2.2.2.2.2.2 - σ'.2.2.2.2.2.2) (cl_A c0 σ0.2.2.2.1 s.heap.size)) (F0 m 17 ls [])) (fun z : (Int32 × Int32 × cl_S) => ∀ (T : Nat → Nat × Nat) (H : Heap) (locs : List Loc) (ls : Array Slot) (cells slots : Nat), cl_G true D c0 ({ frames := 0, cells := σ0.2.2.2.2.2.1, slots := σ0.2.2.2.2.2.2, locals := 0 }) s σ0.2.2.2.1 T z.2.2 H locs cells slots → (T a).1 = 17 → lv_has ls 5 [(0, .ref (c0 + a)), (2, .int (z.1)), (3, .int x3), (4, .int (z.2.1))] → W p l e ({ frames := 0, cells := σ0.2.2.2.2.2.1, slots := σ0.2.2.2.2.2.2, locals := 0 }) s m args below meth c H locs cells slots (MQ below (cl_Q true D c0 (some (.int r)) cl_no σ0 σ') args s (σ0.2.2.2.2.2.1 - σ'.2.2.2.2.2.1) (σ0.2.2.2.2.2.2 - σ'.2.2.2.2.2.2) (cl_A c0 σ0.2.2.2.1 s.heap.size)) (F0 m 59 ls [])) ?_ _ _ hy hE _ _ _ _ _ _ G ha hl
  clear hE hy G ha hl h hP
  intro z o h hP T H locs ls cells slots G ha hl
  obtain ⟨x2, x4, σ⟩ := z
  dsimp only at h G ha hl
  unfold lc_X1_flowingTo_17i6 at h
  refine lv_iload C.1 C.2.1 dX1_flowingTo_17 (lv_at hl 3 rfl) ?_
  refine lv_aload_n C.1 C.2.1 dX1_flowingTo_19 rfl (lv_at hl 0 rfl) ?_
  refine cg_1_68 C G ha dX1_flowingTo_20 ?_
  refine lv_icmp_ge (tgt := 59) C.1 C.2.1 dX1_flowingTo_23 (by decide) (fun hc => ?_) (fun hc => ?_)
  · rw [if_pos hc] at h
    cases h
    exact hP _ _ _ _ _ _ G ha (lv_sub hl [0, 1, 2, 3] rfl)
  · rw [if_neg hc] at h
    refine lv_iload_n C.1 C.2.1 dX1_flowingTo_26 rfl (lv_at hl 1 rfl) ?_
    refine lv_aload_n C.1 C.2.1 dX1_flowingTo_27 rfl (lv_at hl 0 rfl) ?_
    refine cg_1_27 C G ha dX1_flowingTo_28 (fun t_6 => ?_)
    refine lv_iload C.1 C.2.1 dX1_flowingTo_31 (lv_at hl 3 rfl) ?_
    obtain ⟨hi, h_7⟩ := ix_some h
    refine cl_iald C G t_6 hi dX1_flowingTo_33 ?_
    refine lv_ishr C.1 C.2.1 dX1_flowingTo_34 ?_
    refine lv_iconst (v := (1:Int32)) C.1 C.2.1 dX1_flowingTo_35 (by decide) ?_
    refine lv_iand C.1 C.2.1 dX1_flowingTo_36 ?_
    refine lv_iconst (v := (1:Int32)) C.1 C.2.1 dX1_flowingTo_37 (by decide) ?_
    refine lv_icmp_ne (tgt := 53) C.1 C.2.1 dX1_flowingTo_38 (by decide) (fun hc => ?_) (fun hc => ?_)
    · rw [if_neg hc] at h_7
      exact wc_X1_flowingTo_53i17 C h_7 hP G ha (lv_sub hl [0, 1, 2, 3] rfl)
    · rw [if_pos hc] at h_7
      refine lv_iload_n C.1 C.2.1 dX1_flowingTo_41 rfl (lv_at hl 1 rfl) ?_
      refine lv_iconst (v := (1:Int32)) C.1 C.2.1 dX1_flowingTo_42 (by decide) ?_
      refine lv_aload_n C.1 C.2.1 dX1_flowingTo_43 rfl (lv_at hl 0 rfl) ?_
      refine cg_1_24 C G ha dX1_flowingTo_44 (fun t_11 => ?_)
      refine lv_iload C.1 C.2.1 dX1_flowingTo_47 (lv_at hl 3 rfl) ?_
      obtain ⟨hi, h_12⟩ := ix_some h_7
      refine cl_iald C G t_11 hi dX1_flowingTo_49 ?_
      refine lv_ishl C.1 C.2.1 dX1_flowingTo_50 ?_
      refine lv_ior C.1 C.2.1 dX1_flowingTo_51 ?_
      refine vt_i h_12 (fun x2_13 h_14 => ?_)
      refine lv_istore_n (lv' := [(2, .int x2_13), (0, .ref (c0 + a)), (3, .int x3), (4, .int x4)]) C.1 C.2.1 dX1_flowingTo_52 rfl hl (by decide) rfl (fun ls hl_15 => ?_)
      exact wc_X1_flowingTo_53i17 C h_14 hP G ha (lv_sub hl_15 [1, 0, 2, 3] rfl)
noncomputable def lc_X1_flowingTo_6 (a : Nat) (x2 : Int32) (x3 : Int32) (σ : cl_S) : Option ((Int32 × Int32 × cl_S) ⊕ (Int32 × Int32 × cl_S)) := (if (σ.1 a 0) ≤ x3 then some (.inr (x2, x3, σ)) else bc_X1_flowingTo_17i6 a x2 x3 (0:Int32) σ)
noncomputable def ec_X1_flowingTo_6 (a : Nat) (x2 : Int32) (x3 : Int32) (σ : cl_S) : Option (Int32 × cl_S) := some (x2, σ)
noncomputable def bc_X1_flowingTo_6 (a : Nat) (x2 : Int32) (x3 : Int32) (σ : cl_S) : Option (Int32 × cl_S) := (lp (fun z : (Int32 × Int32 × cl_S) => lc_X1_flowingTo_6 a z.1 z.2.1 z.2.2) (x2, x3, σ)).bind (fun z => ec_X1_flowingTo_6 a z.1 z.2.1 z.2.2)
set_option maxHeartbeats 4000000 in
theorem wc_X1_flowingTo_6 (C : cl_C D p s m args meth c cX1_flowingTo 5 (some .int) RX1) {r : Int32} {a : Nat} {x2 : Int32} {x3 : Int32} {σ0 σ σ' : cl_S} {T : Nat → Nat × Nat} {H : Heap} {locs : List Loc} {ls : Array Slot} {cells slots : Nat} (h : bc_X1_flowingTo_6 a x2 x3 σ = some (r, σ')) (G : cl_G true D c0 ({ frames := 0, cells := σ0.2.2.2.2.2.1, slots := σ0.2.2.2.2.2.2, locals := 0 }) s σ0.2.2.2.1 T σ H locs cells slots) (ha : (T a).1 = 17) (hl : lv_has ls 5 [(0, .ref (c0 + a)), (2, .int x2), (3, .int x3)]) : W p l e ({ frames := 0, cells := σ0.2.2.2.2.2.1, slots := σ0.2.2.2.2.2.2, locals := 0 }) s m args below meth c H locs cells slots (MQ below (cl_Q true D c0 (some (.int r)) cl_no σ0 σ') args s (σ0.2.2.2.2.2.1 - σ'.2.2.2.2.2.1) (σ0.2.2.2.2.2.2 - σ'.2.2.2.2.2.2) (cl_A c0 σ0.2.2.2.1 s.heap.size)) (F0 m 6 ls []) := by
  unfold bc_X1_flowingTo_6 at h
  obtain ⟨y, hy, h⟩ := bd_some h
  have hE : (fun z : (Int32 × Int32 × cl_S) => ∀ (T : Nat → Nat × Nat) (H : Heap) (locs : List Loc) (ls : Array Slot) (cells slots : Nat), cl_G true D c0 ({ frames := 0, cells := σ0.2.2.2.2.2.1, slots := σ0.2.2.2.2.2.2, locals := 0 }) s σ0.2.2.2.1 T z.2.2 H locs cells slots → (T a).1 = 17 → lv_has ls 5 [(0, .ref (c0 + a)), (2, .int (z.1)), (3, .int (z.2.1))] → W p l e ({ frames := 0, cells := σ0.2.2.2.2.2.1, slots := σ0.2.2.2.2.2.2, locals := 0 }) s m args below meth c H locs cells slots (MQ below (cl_Q true D c0 (some (.int r)) cl_no σ0 σ') args s (σ0.2.2.2.2.2.1 - σ'.2.2.2.2.2.1) (σ0.2.2.2.2.2.2 - σ'.2.2.2.2.2.2) (cl_A c0 σ0.2.2.2.1 s.heap.size)) (F0 m 65 ls [])) y := by
    clear hy G ha hl
    intro T H locs ls cells slots G ha hl
    obtain ⟨x2, x3, σ⟩ := y
    dsimp only at h G ha hl
    unfold ec_X1_flowingTo_6 at h
    refine lv_iload_n C.1 C.2.1 dX1_flowingTo_65 rfl (lv_at hl 1 rfl) ?_
    exact cl_iret ⟨rfl, rfl⟩ rfl C G h dX1_flowingTo_66
  refine lp_recE (fun z : (Int32 × Int32 × cl_S) => ∀ (T : Nat → Nat × Nat) (H : Heap) (locs : List Loc) (ls : Array Slot) (cells slots : Nat), cl_G true D c0 ({ frames := 0, cells := σ0.2.2.2.2.2.1, slots := σ0.2.2.2.2.2.2, locals := 0 }) s σ0.2.2.2.1 T z.2.2 H locs cells slots → (T a).1 = 17 → lv_has ls 5 [(0, .ref (c0 + a)), (2, .int (z.1)), (3, .int (z.2.1))] → W p l e ({ frames := 0, cells := σ0.2.2.2.2.2.1, slots := σ0.2.2.2.2.2.2, locals := 0 }) s m args below meth c H locs cells slots (MQ below (cl_Q true D c0 (some (.int r)) cl_no σ0 σ') args s (σ0.2.2.2.2.2.1 - σ'.2.2.2.2.2.1) (σ0.2.2.2.2.2.2 - σ'.2.2.2.2.2.2) (cl_A c0 σ0.2.2.2.1 s.heap.size)) (F0 m 6 ls [])) (fun z : (Int32 × Int32 × cl_S) => ∀ (T : Nat → Nat × Nat) (H : Heap) (locs : List Loc) (ls : Array Slot) (cells slots : Nat), cl_G true D c0 ({ frames := 0, cells := σ0.2.2.2.2.2.1, slots := σ0.2.2.2.2.2.2, locals := 0 }) s σ0.2.2.2.1 T z.2.2 H locs cells slots → (T a).1 = 17 → lv_has ls 5 [(0, .ref (c0 + a)), (2, .int (z.1)), (3, .int (z.2.1))] → W p l e ({ frames := 0, cells := σ0.2.2.2.2.2.1, slots := σ0.2.2.2.2.2.2, locals := 0 }) s m args below meth c H locs cells slots (MQ below (cl_Q true D c0 (some (.int r)) cl_no σ0 σ') args s (σ0.2.2.2.2.2.1 - σ'.2.2.2.2.2.1) (σ0.2.2.2.2.2.2 - σ'.2.2.2.2.2.2) (cl_A c0 σ0.2.2.2.1 s.heap.size)) (F0 m 65 ls [])) ?_ _ _ hy hE _ _ _ _ _ _ G ha hl
  clear hE hy G ha hl h
  intro z o h hP T H locs ls cells slots G ha hl
  obtain ⟨x2, x3, σ⟩ := z
  dsimp only at h G ha hl
  unfold lc_X1_flowingTo_6 at h
  refine lv_iload_n C.1 C.2.1 dX1_flowingTo_6 rfl (lv_at hl 2 rfl) ?_
  refine lv_aload_n C.1 C.2.1 dX1_flowingTo_7 rfl (lv_at hl 0 rfl) ?_
  refine cg_1_61 C G ha dX1_flowingTo_8 ?_
  refine lv_icmp_ge (tgt := 65) C.1 C.2.1 dX1_flowingTo_11 (by decide) (fun hc => ?_) (fun hc => ?_)
  · rw [if_pos hc] at h
    cases h
    exact hP _ _ _ _ _ _ G ha (lv_sub hl [0, 1, 2] rfl)
  · rw [if_neg hc] at h
    refine lv_iconst (v := (0:Int32)) C.1 C.2.1 dX1_flowingTo_14 (by decide) ?_
    refine lv_istore (lv' := [(4, .int (0:Int32)), (0, .ref (c0 + a)), (2, .int x2), (3, .int x3)]) C.1 C.2.1 dX1_flowingTo_15 hl (by decide) rfl (fun ls hl_5 => ?_)
    exact wc_X1_flowingTo_17i6 C h hP G ha (lv_sub hl_5 [1, 2, 3, 0] rfl)
noncomputable def bc_X1_flowingTo_0 (a : Nat) (x1 : Int32) (σ : cl_S) : Option (Int32 × cl_S) := vl ((1:Int32) <<< (x1 &&& 31)) (fun x2_1 => bc_X1_flowingTo_6 a x2_1 (0:Int32) σ)
set_option maxHeartbeats 4000000 in
theorem wc_X1_flowingTo_0 (C : cl_C D p s m args meth c cX1_flowingTo 5 (some .int) RX1) {r : Int32} {a : Nat} {x1 : Int32} {σ0 σ σ' : cl_S} {T : Nat → Nat × Nat} {H : Heap} {locs : List Loc} {ls : Array Slot} {cells slots : Nat} (h : bc_X1_flowingTo_0 a x1 σ = some (r, σ')) (G : cl_G true D c0 ({ frames := 0, cells := σ0.2.2.2.2.2.1, slots := σ0.2.2.2.2.2.2, locals := 0 }) s σ0.2.2.2.1 T σ H locs cells slots) (ha : (T a).1 = 17) (hl : lv_has ls 5 [(0, .ref (c0 + a)), (1, .int x1)]) : W p l e ({ frames := 0, cells := σ0.2.2.2.2.2.1, slots := σ0.2.2.2.2.2.2, locals := 0 }) s m args below meth c H locs cells slots (MQ below (cl_Q true D c0 (some (.int r)) cl_no σ0 σ') args s (σ0.2.2.2.2.2.1 - σ'.2.2.2.2.2.1) (σ0.2.2.2.2.2.2 - σ'.2.2.2.2.2.2) (cl_A c0 σ0.2.2.2.1 s.heap.size)) (F0 m 0 ls []) := by
  unfold bc_X1_flowingTo_0 at h
  refine lv_iconst (v := (1:Int32)) C.1 C.2.1 dX1_flowingTo_0 (by decide) ?_
  refine lv_iload_n C.1 C.2.1 dX1_flowingTo_1 rfl (lv_at hl 1 rfl) ?_
  refine lv_ishl C.1 C.2.1 dX1_flowingTo_2 ?_
  refine vt_i h (fun x2_1 h_2 => ?_)
  refine lv_istore_n (lv' := [(2, .int x2_1), (0, .ref (c0 + a)), (1, .int x1)]) C.1 C.2.1 dX1_flowingTo_3 rfl hl (by decide) rfl (fun ls hl_3 => ?_)
  refine lv_iconst (v := (0:Int32)) C.1 C.2.1 dX1_flowingTo_4 (by decide) ?_
  refine lv_istore_n (lv' := [(3, .int (0:Int32)), (2, .int x2_1), (0, .ref (c0 + a)), (1, .int x1)]) C.1 C.2.1 dX1_flowingTo_5 rfl hl_3 (by decide) rfl (fun ls hl_4 => ?_)
  exact wc_X1_flowingTo_6 C h_2 G ha (lv_sub hl_4 [2, 1, 0] rfl)
noncomputable def fc_X1_flowingTo (a : Nat) (x1 : Int32) (σ : cl_S) : Option (Int32 × cl_S) := bc_X1_flowingTo_0 a x1 σ
theorem kc_X1_flowingTo (l : Launch) (D : cl_D) (c0 : Nat) {r : Int32} {a : Nat} {x1 : Int32} {σ σ' : cl_S} (ha : (σ.2.2.2.1 a).1 = 17) (h : fc_X1_flowingTo a x1 σ = some (r, σ')) : cl_Met true l D c0 yX1_flowingTo cX1_flowingTo 5 (some .int) 0 0 [.ref (c0 + a), .int x1] σ (some (.int r)) cl_no σ' :=
  cl_of (by decide) (Nat.le_of_ble_eq_true rfl) (fun p e s m args below meth c ls C hn G hl => wc_X1_flowingTo_0 C h G ha hl)
abbrev cX2_init : ByteArray := prog_4_method_1_code
def yX2_init : MethodName := ⟨RX2, "<init>", "()V"⟩
theorem dX2_init_0 : decode cX2_init 0 = .ok (.aload_n 0, 1) := by decide +kernel
theorem dX2_init_1 : decode cX2_init 1 = .ok (.invokespecial 3, 3) := by decide +kernel
theorem dX2_init_4 : decode cX2_init 4 = .ok (.aload_n 0, 1) := by decide +kernel
theorem dX2_init_5 : decode cX2_init 5 = .ok (.sipush 2048, 3) := by decide +kernel
theorem dX2_init_8 : decode cX2_init 8 = .ok (.newarray .int, 2) := by decide +kernel
theorem dX2_init_10 : decode cX2_init 10 = .ok (.putfield 9, 3) := by decide +kernel
theorem dX2_init_13 : decode cX2_init 13 = .ok (.aload_n 0, 1) := by decide +kernel
theorem dX2_init_14 : decode cX2_init 14 = .ok (.bipush 16, 2) := by decide +kernel
theorem dX2_init_16 : decode cX2_init 16 = .ok (.newarray .int, 2) := by decide +kernel
theorem dX2_init_18 : decode cX2_init 18 = .ok (.putfield 15, 3) := by decide +kernel
theorem dX2_init_21 : decode cX2_init 21 = .ok (.return_, 1) := by decide +kernel
theorem cc_X2_init : Cond.code yX2_init cX2_init 1 none ∈ rf_tb := rf_at 498 (by decide +kernel) (by decide +kernel)
theorem oi_RX2_3 : Cond.methodLink RX2 3 Lib.objectInit ∈ rf_tb := rf_at 499 (by decide +kernel) (by decide +kernel)
noncomputable def bc_X2_init_0 (a : Nat) (σ : cl_S) : Option (cl_S) := nag (2048:Int32) (al σ (2048:Int32).toNatClampNeg (vl σ.2.2.2.2.1 (fun a_1 => vl (cl_nw σ 1 (2048:Int32).toNatClampNeg (2048:Int32).toNatClampNeg) (fun σ_2 => vl (cl_wr σ_2 a 0 (some a_1)) (fun σ_11 => nag (16:Int32) (al σ_11 (16:Int32).toNatClampNeg (vl σ_11.2.2.2.2.1 (fun a_15 => vl (cl_nw σ_11 1 (16:Int32).toNatClampNeg (16:Int32).toNatClampNeg) (fun σ_16 => vl (cl_wr σ_16 a 1 (some a_15)) (fun σ_25 => some σ_25))))))))))
set_option maxHeartbeats 4000000 in
theorem wc_X2_init_0 (C : cl_C D p s m args meth c cX2_init 1 none RX2) (hn9 : meth.name = "<init>") {a : Nat} {σ0 σ σ' : cl_S} {T : Nat → Nat × Nat} {H : Heap} {locs : List Loc} {ls : Array Slot} {cells slots : Nat} (h : bc_X2_init_0 a σ = some σ') (G : cl_G true D c0 ({ frames := 1, cells := σ0.2.2.2.2.2.1, slots := σ0.2.2.2.2.2.2, locals := 20 }) s σ0.2.2.2.1 T σ H locs cells slots) (ha : (T a).1 = 118) (hl : lv_has ls 1 [(0, .ref (c0 + a))]) : W p l e ({ frames := 1, cells := σ0.2.2.2.2.2.1, slots := σ0.2.2.2.2.2.2, locals := 20 }) s m args below meth c H locs cells slots (MQ below (cl_Q true D c0 none cl_no σ0 σ') args s (σ0.2.2.2.2.2.1 - σ'.2.2.2.2.2.1) (σ0.2.2.2.2.2.2 - σ'.2.2.2.2.2.2) (cl_A c0 σ0.2.2.2.1 s.heap.size)) (F0 m 0 ls []) := by
  unfold bc_X2_init_0 at h
  refine lv_aload_n C.1 C.2.1 dX2_init_0 rfl (lv_at hl 0 rfl) ?_
  refine W.objInit (rest := []) C.1 C.2.1 C.2.2.2.1 (C.2.2.2.2.1 _ oi_RX2_3) (C.2.2.2.2.1 _ oi_i) (C.2.2.2.2.1 _ oi_c) rfl (by rw [C.2.2.1]; exact hl.1) rfl dX2_init_1 (Nat.le_of_ble_eq_true rfl) (Nat.le_of_ble_eq_true rfl) ?_
  refine W.eq (g2 := F0 m 4 ls []) rfl ?_
  refine lv_aload_n C.1 C.2.1 dX2_init_4 rfl (lv_at hl 0 rfl) ?_
  refine lv_sipush (v := (2048:Int32)) C.1 C.2.1 dX2_init_5 (by decide) ?_
  obtain ⟨hng, h_5⟩ := nag_some h
  obtain ⟨hal, h_6⟩ := al_some h_5
  refine cl_newa (t := 1) C G (by decide) (by decide) .int rfl aw_1 hng.1 rfl (cl_bytes hng.2 (by decide) (by decide)) hal dX2_init_8 (fun T_4 H cells slots t_3 hu G_7 => ?_)
  have ha := hu.kind ha (by decide)
  refine cl_nmB h_6 t_3 (fun a_1 t_3 h_8 => ?_)
  refine cl_nm G_7 h_8 (fun σ_2 G_9 h_10 => ?_)
  refine rp_2_9 (x := (some a_1)) C hn9 G_9 ha (cl_RTs (by rw [t_3])) dX2_init_10 (fun H locs G_12 => ?_)
  refine cl_nm G_12 h_10 (fun σ_11 G_13 h_14 => ?_)
  refine lv_aload_n C.1 C.2.1 dX2_init_13 rfl (lv_at hl 0 rfl) ?_
  refine lv_bipush (v := (16:Int32)) C.1 C.2.1 dX2_init_14 (by decide) ?_
  obtain ⟨hng, h_19⟩ := nag_some h_14
  obtain ⟨hal, h_20⟩ := al_some h_19
  refine cl_newa (t := 1) C G_13 (by decide) (by decide) .int rfl aw_1 hng.1 rfl (cl_bytes hng.2 (by decide) (by decide)) hal dX2_init_16 (fun T_18 H cells slots t_17 hu G_21 => ?_)
  have ha := hu.kind ha (by decide)
  refine cl_nmB h_20 t_17 (fun a_15 t_17 h_22 => ?_)
  refine cl_nm G_21 h_22 (fun σ_16 G_23 h_24 => ?_)
  refine rp_2_15 (x := (some a_15)) C hn9 G_23 ha (cl_RTs (by rw [t_17])) dX2_init_18 (fun H locs G_26 => ?_)
  refine cl_nm G_26 h_24 (fun σ_25 G_27 h_28 => ?_)
  exact cl_vret ⟨rfl, rfl⟩ rfl C G_27 h_28 dX2_init_21
noncomputable def fc_X2_init (a : Nat) (σ : cl_S) : Option (cl_S) := bc_X2_init_0 a σ
theorem kc_X2_init (l : Launch) (D : cl_D) (c0 : Nat) {a : Nat} {σ σ' : cl_S} (ha : (σ.2.2.2.1 a).1 = 118) (h : fc_X2_init a σ = some σ') : cl_Met true l D c0 yX2_init cX2_init 1 none 1 20 [.ref (c0 + a)] σ none cl_no σ' :=
  cl_of (by decide) (Nat.le_of_ble_eq_true rfl) (fun p e s m args below meth c ls C hn G hl => wc_X2_init_0 C hn h G ha hl)
abbrev cJ7_fill_53178 : ByteArray := prog_21_method_103_code
def yJ7_fill_53178 : MethodName := ⟨RJ7, "fill", "([II)V"⟩
theorem dJ7_fill_53178_0 : decode cJ7_fill_53178 0 = .ok (.iconst 0, 1) := by decide +kernel
theorem dJ7_fill_53178_1 : decode cJ7_fill_53178 1 = .ok (.istore_n 2, 1) := by decide +kernel
theorem dJ7_fill_53178_2 : decode cJ7_fill_53178 2 = .ok (.aload_n 0, 1) := by decide +kernel
theorem dJ7_fill_53178_3 : decode cJ7_fill_53178 3 = .ok (.arraylength, 1) := by decide +kernel
theorem dJ7_fill_53178_4 : decode cJ7_fill_53178 4 = .ok (.istore_n 3, 1) := by decide +kernel
theorem dJ7_fill_53178_5 : decode cJ7_fill_53178 5 = .ok (.iload_n 2, 1) := by decide +kernel
theorem dJ7_fill_53178_6 : decode cJ7_fill_53178 6 = .ok (.iload_n 3, 1) := by decide +kernel
theorem dJ7_fill_53178_7 : decode cJ7_fill_53178 7 = .ok (.if_icmp .ge 13, 3) := by decide +kernel
theorem dJ7_fill_53178_10 : decode cJ7_fill_53178 10 = .ok (.aload_n 0, 1) := by decide +kernel
theorem dJ7_fill_53178_11 : decode cJ7_fill_53178 11 = .ok (.iload_n 2, 1) := by decide +kernel
theorem dJ7_fill_53178_12 : decode cJ7_fill_53178 12 = .ok (.iload_n 1, 1) := by decide +kernel
theorem dJ7_fill_53178_13 : decode cJ7_fill_53178 13 = .ok (.iastore, 1) := by decide +kernel
theorem dJ7_fill_53178_14 : decode cJ7_fill_53178 14 = .ok (.iinc 2 1, 3) := by decide +kernel
theorem dJ7_fill_53178_17 : decode cJ7_fill_53178 17 = .ok (.goto (-12), 3) := by decide +kernel
theorem dJ7_fill_53178_20 : decode cJ7_fill_53178 20 = .ok (.return_, 1) := by decide +kernel
theorem cc_J7_fill_53178 : Cond.code yJ7_fill_53178 cJ7_fill_53178 4 none ∈ rf_tb := rf_at 977 (by decide +kernel) (by decide +kernel)
noncomputable def lc_J7_fill_53178_5 (x0 : (Option Nat)) (x1 : Int32) (x3 : Int32) (x2 : Int32) (σ : cl_S) : Option ((Int32 × cl_S) ⊕ (Int32 × cl_S)) := (if x3 ≤ x2 then some (.inr (x2, σ)) else nn x0 (fun a_9 => ix x2 (σ.2.2.2.1 a_9).2 (vl (cl_w σ a_9 x2.toNatClampNeg x1) (fun σ_13 => vl (x2 + (1:Int32)) (fun x2_18 => some (.inl (x2_18, σ_13)))))))
noncomputable def ec_J7_fill_53178_5 (x0 : (Option Nat)) (x1 : Int32) (x3 : Int32) (x2 : Int32) (σ : cl_S) : Option (cl_S) := some σ
noncomputable def bc_J7_fill_53178_5 (x0 : (Option Nat)) (x1 : Int32) (x2 : Int32) (x3 : Int32) (σ : cl_S) : Option (cl_S) := (lp (fun z : (Int32 × cl_S) => lc_J7_fill_53178_5 x0 x1 x3 z.1 z.2) (x2, σ)).bind (fun z => ec_J7_fill_53178_5 x0 x1 x3 z.1 z.2)
set_option maxHeartbeats 4000000 in
theorem wc_J7_fill_53178_5 (C : cl_C D p s m args meth c cJ7_fill_53178 4 none RJ7) {x0 : (Option Nat)} {x1 : Int32} {x2 : Int32} {x3 : Int32} {σ0 σ σ' : cl_S} {T : Nat → Nat × Nat} {H : Heap} {locs : List Loc} {ls : Array Slot} {cells slots : Nat} (h : bc_J7_fill_53178_5 x0 x1 x2 x3 σ = some σ') (G : cl_G true D c0 ({ frames := 0, cells := σ0.2.2.2.2.2.1, slots := σ0.2.2.2.2.2.2, locals := 0 }) s σ0.2.2.2.1 T σ H locs cells slots) (f0 : cl_RT T x0 1) (hl : lv_has ls 4 [(0, cl_rf c0 x0), (1, .int x1), (2, .int x2), (3, .int x3)]) : W p l e ({ frames := 0, cells := σ0.2.2.2.2.2.1, slots := σ0.2.2.2.2.2.2, locals := 0 }) s m args below meth c H locs cells slots (MQ below (cl_Q true D c0 none cl_no σ0 σ') args s (σ0.2.2.2.2.2.1 - σ'.2.2.2.2.2.1) (σ0.2.2.2.2.2.2 - σ'.2.2.2.2.2.2) (cl_A c0 σ0.2.2.2.1 s.heap.size)) (F0 m 5 ls []) := by
  unfold bc_J7_fill_53178_5 at h
  obtain ⟨y, hy, h⟩ := bd_some h
  have hE : (fun z : (Int32 × cl_S) => ∀ (T : Nat → Nat × Nat) (H : Heap) (locs : List Loc) (ls : Array Slot) (cells slots : Nat), cl_G true D c0 ({ frames := 0, cells := σ0.2.2.2.2.2.1, slots := σ0.2.2.2.2.2.2, locals := 0 }) s σ0.2.2.2.1 T z.2 H locs cells slots → cl_RT T x0 1 → lv_has ls 4 [(0, cl_rf c0 x0), (1, .int x1), (2, .int (z.1)), (3, .int x3)] → W p l e ({ frames := 0, cells := σ0.2.2.2.2.2.1, slots := σ0.2.2.2.2.2.2, locals := 0 }) s m args below meth c H locs cells slots (MQ below (cl_Q true D c0 none cl_no σ0 σ') args s (σ0.2.2.2.2.2.1 - σ'.2.2.2.2.2.1) (σ0.2.2.2.2.2.2 - σ'.2.2.2.2.2.2) (cl_A c0 σ0.2.2.2.1 s.heap.size)) (F0 m 20 ls [])) y := by
    clear hy G f0 hl
    intro T H locs ls cells slots G f0 hl
    obtain ⟨x2, σ⟩ := y
    dsimp only at h G f0 hl
    unfold ec_J7_fill_53178_5 at h
    exact cl_vret ⟨rfl, rfl⟩ rfl C G h dJ7_fill_53178_20
  refine lp_recE (fun z : (Int32 × cl_S) => ∀ (T : Nat → Nat × Nat) (H : Heap) (locs : List Loc) (ls : Array Slot) (cells slots : Nat), cl_G true D c0 ({ frames := 0, cells := σ0.2.2.2.2.2.1, slots := σ0.2.2.2.2.2.2, locals := 0 }) s σ0.2.2.2.1 T z.2 H locs cells slots → cl_RT T x0 1 → lv_has ls 4 [(0, cl_rf c0 x0), (1, .int x1), (2, .int (z.1)), (3, .int x3)] → W p l e ({ frames := 0, cells := σ0.2.2.2.2.2.1, slots := σ0.2.2.2.2.2.2, locals := 0 }) s m args below meth c H locs cells slots (MQ below (cl_Q true D c0 none cl_no σ0 σ') args s (σ0.2.2.2.2.2.1 - σ'.2.2.2.2.2.1) (σ0.2.2.2.2.2.2 - σ'.2.2.2.2.2.2) (cl_A c0 σ0.2.2.2.1 s.heap.size)) (F0 m 5 ls [])) (fun z : (Int32 × cl_S) => ∀ (T : Nat → Nat × Nat) (H : Heap) (locs : List Loc) (ls : Array Slot) (cells slots : Nat), cl_G true D c0 ({ frames := 0, cells := σ0.2.2.2.2.2.1, slots := σ0.2.2.2.2.2.2, locals := 0 }) s σ0.2.2.2.1 T z.2 H locs cells slots → cl_RT T x0 1 → lv_has ls 4 [(0, cl_rf c0 x0), (1, .int x1), (2, .int (z.1)), (3, .int x3)] → W p l e ({ frames := 0, cells := σ0.2.2.2.2.2.1, slots := σ0.2.2.2.2.2.2, locals := 0 }) s m args below meth c H locs cells slots (MQ below (cl_Q true D c0 none cl_no σ0 σ') args s (σ0.2.2.2.2.2.1 - σ'.2.2.2.2.2.1) (σ0.2.2.2.2.2.2 - σ'.2.2.2.2.2.2) (cl_A c0 σ0.2.2.2.1 s.heap.size)) (F0 m 20 ls [])) ?_ _ _ hy hE _ _ _ _ _ _ G f0 hl
  clear hE hy G f0 hl h
  intro z o h hP T H locs ls cells slots G f0 hl
  obtain ⟨x2, σ⟩ := z
  dsimp only at h G f0 hl
  unfold lc_J7_fill_53178_5 at h
  refine lv_iload_n C.1 C.2.1 dJ7_fill_53178_5 rfl (lv_at hl 2 rfl) ?_
  refine lv_iload_n C.1 C.2.1 dJ7_fill_53178_6 rfl (lv_at hl 3 rfl) ?_
  refine lv_icmp_ge (tgt := 20) C.1 C.2.1 dJ7_fill_53178_7 (by decide) (fun hc => ?_) (fun hc => ?_)
  · rw [if_pos hc] at h
    cases h
    exact hP _ _ _ _ _ _ G f0 (lv_sub hl [0, 1, 2, 3] rfl)
  · rw [if_neg hc] at h
    refine cl_aload_n C.1 C.2.1 dJ7_fill_53178_10 rfl (lv_at hl 0 rfl) ?_
    refine lv_iload_n C.1 C.2.1 dJ7_fill_53178_11 rfl (lv_at hl 2 rfl) ?_
    refine lv_iload_n C.1 C.2.1 dJ7_fill_53178_12 rfl (lv_at hl 1 rfl) ?_
    obtain ⟨a_9, rfl, h_11⟩ := nn_some h
    have t_10 := f0 _ rfl
    have t_12 : T a_9 = (1, (σ.2.2.2.1 a_9).2) := by rw [G.1]; exact Prod.ext t_10 rfl
    obtain ⟨hi, h_14⟩ := ix_some h_11
    refine cl_iast C G t_12 hi dJ7_fill_53178_13 (fun H locs G_15 => ?_)
    refine cl_nm G_15 h_14 (fun σ_13 G_16 h_17 => ?_)
    refine vl_ex h_17 (fun x2_18 ey h_19 => ?_)
    refine lv_iinc (v := x2_18) (lv' := [(2, .int x2_18), (0, .ref (c0 + a_9)), (1, .int x1), (3, .int x3)]) C.1 C.2.1 dJ7_fill_53178_14 hl (k := 2) rfl (by rw [ey]; rfl) (by decide) rfl (fun ls hl_20 => ?_)
    refine lv_goto (tgt := 5) C.1 C.2.1 dJ7_fill_53178_17 (by decide) ?_
    cases h_19
    exact hP _ _ _ _ _ _ G_16 (cl_RTs (by rw [t_10])) (lv_sub hl_20 [1, 2, 0, 3] rfl)
noncomputable def bc_J7_fill_53178_0 (x0 : (Option Nat)) (x1 : Int32) (σ : cl_S) : Option (cl_S) := nn x0 (fun a_2 => vl (nI ((σ.2.2.2.1 a_2).2)) (fun x3_6 => bc_J7_fill_53178_5 (some a_2) x1 (0:Int32) x3_6 σ))
set_option maxHeartbeats 4000000 in
theorem wc_J7_fill_53178_0 (C : cl_C D p s m args meth c cJ7_fill_53178 4 none RJ7) {x0 : (Option Nat)} {x1 : Int32} {σ0 σ σ' : cl_S} {T : Nat → Nat × Nat} {H : Heap} {locs : List Loc} {ls : Array Slot} {cells slots : Nat} (h : bc_J7_fill_53178_0 x0 x1 σ = some σ') (G : cl_G true D c0 ({ frames := 0, cells := σ0.2.2.2.2.2.1, slots := σ0.2.2.2.2.2.2, locals := 0 }) s σ0.2.2.2.1 T σ H locs cells slots) (f0 : cl_RT T x0 1) (hl : lv_has ls 4 [(0, cl_rf c0 x0), (1, .int x1)]) : W p l e ({ frames := 0, cells := σ0.2.2.2.2.2.1, slots := σ0.2.2.2.2.2.2, locals := 0 }) s m args below meth c H locs cells slots (MQ below (cl_Q true D c0 none cl_no σ0 σ') args s (σ0.2.2.2.2.2.1 - σ'.2.2.2.2.2.1) (σ0.2.2.2.2.2.2 - σ'.2.2.2.2.2.2) (cl_A c0 σ0.2.2.2.1 s.heap.size)) (F0 m 0 ls []) := by
  unfold bc_J7_fill_53178_0 at h
  refine lv_iconst (v := (0:Int32)) C.1 C.2.1 dJ7_fill_53178_0 (by decide) ?_
  refine lv_istore_n (lv' := [(2, .int (0:Int32)), (0, cl_rf c0 x0), (1, .int x1)]) C.1 C.2.1 dJ7_fill_53178_1 rfl hl (by decide) (by first | rfl | (cases x0 <;> rfl)) (fun ls hl_1 => ?_)
  refine cl_aload_n C.1 C.2.1 dJ7_fill_53178_2 rfl (lv_at hl_1 1 rfl) ?_
  obtain ⟨a_2, rfl, h_4⟩ := nn_some h
  have t_3 := f0 _ rfl
  have t_5 : T a_2 = (1, (σ.2.2.2.1 a_2).2) := by rw [G.1]; exact Prod.ext t_3 rfl
  refine cl_alen C G t_5 dJ7_fill_53178_3 ?_
  refine vt_i h_4 (fun x3_6 h_7 => ?_)
  refine lv_istore_n (lv' := [(3, .int x3_6), (2, .int (0:Int32)), (0, .ref (c0 + a_2)), (1, .int x1)]) C.1 C.2.1 dJ7_fill_53178_4 rfl hl_1 (by decide) rfl (fun ls hl_8 => ?_)
  exact wc_J7_fill_53178_5 C h_7 G (cl_RTs (by rw [t_3])) (lv_sub hl_8 [2, 3, 1, 0] rfl)
noncomputable def fc_J7_fill_53178 (x0 : (Option Nat)) (x1 : Int32) (σ : cl_S) : Option (cl_S) := bc_J7_fill_53178_0 x0 x1 σ
theorem kc_J7_fill_53178 (l : Launch) (D : cl_D) (c0 : Nat) {x0 : (Option Nat)} {x1 : Int32} {σ σ' : cl_S} (h : fc_J7_fill_53178 x0 x1 σ = some σ') (f0 : cl_RT σ.2.2.2.1 x0 1) : cl_Met true l D c0 yJ7_fill_53178 cJ7_fill_53178 4 none 0 0 [cl_rf c0 x0, .int x1] σ none cl_no σ' :=
  by cases x0 <;> exact cl_of (by decide) (Nat.le_of_ble_eq_true rfl) (fun p e s m args below meth c ls C hn G hl => wc_J7_fill_53178_0 C h G f0 hl)
abbrev cX2_reset : ByteArray := prog_4_method_2_code
def yX2_reset : MethodName := ⟨RX2, "reset", "(I)V"⟩
theorem dX2_reset_0 : decode cX2_reset 0 = .ok (.aload_n 0, 1) := by decide +kernel
theorem dX2_reset_1 : decode cX2_reset 1 = .ok (.iload_n 1, 1) := by decide +kernel
theorem dX2_reset_2 : decode cX2_reset 2 = .ok (.putfield 18, 3) := by decide +kernel
theorem dX2_reset_5 : decode cX2_reset 5 = .ok (.aload_n 0, 1) := by decide +kernel
theorem dX2_reset_6 : decode cX2_reset 6 = .ok (.getfield 9, 3) := by decide +kernel
theorem dX2_reset_9 : decode cX2_reset 9 = .ok (.iconst 0, 1) := by decide +kernel
theorem dX2_reset_10 : decode cX2_reset 10 = .ok (.invokestatic 22, 3) := by decide +kernel
theorem dX2_reset_13 : decode cX2_reset 13 = .ok (.aload_n 0, 1) := by decide +kernel
theorem dX2_reset_14 : decode cX2_reset 14 = .ok (.getfield 15, 3) := by decide +kernel
theorem dX2_reset_17 : decode cX2_reset 17 = .ok (.iconst 0, 1) := by decide +kernel
theorem dX2_reset_18 : decode cX2_reset 18 = .ok (.invokestatic 22, 3) := by decide +kernel
theorem dX2_reset_21 : decode cX2_reset 21 = .ok (.aload_n 0, 1) := by decide +kernel
theorem dX2_reset_22 : decode cX2_reset 22 = .ok (.iconst 0, 1) := by decide +kernel
theorem dX2_reset_23 : decode cX2_reset 23 = .ok (.putfield 28, 3) := by decide +kernel
theorem dX2_reset_26 : decode cX2_reset 26 = .ok (.aload_n 0, 1) := by decide +kernel
theorem dX2_reset_27 : decode cX2_reset 27 = .ok (.iconst 0, 1) := by decide +kernel
theorem dX2_reset_28 : decode cX2_reset 28 = .ok (.putfield 31, 3) := by decide +kernel
theorem dX2_reset_31 : decode cX2_reset 31 = .ok (.aload_n 0, 1) := by decide +kernel
theorem dX2_reset_32 : decode cX2_reset 32 = .ok (.iconst 0, 1) := by decide +kernel
theorem dX2_reset_33 : decode cX2_reset 33 = .ok (.putfield 34, 3) := by decide +kernel
theorem dX2_reset_36 : decode cX2_reset 36 = .ok (.aload_n 0, 1) := by decide +kernel
theorem dX2_reset_37 : decode cX2_reset 37 = .ok (.iconst 0, 1) := by decide +kernel
theorem dX2_reset_38 : decode cX2_reset 38 = .ok (.putfield 37, 3) := by decide +kernel
theorem dX2_reset_41 : decode cX2_reset 41 = .ok (.aload_n 0, 1) := by decide +kernel
theorem dX2_reset_42 : decode cX2_reset 42 = .ok (.iconst 0, 1) := by decide +kernel
theorem dX2_reset_43 : decode cX2_reset 43 = .ok (.putfield 40, 3) := by decide +kernel
theorem dX2_reset_46 : decode cX2_reset 46 = .ok (.aload_n 0, 1) := by decide +kernel
theorem dX2_reset_47 : decode cX2_reset 47 = .ok (.iconst 0, 1) := by decide +kernel
theorem dX2_reset_48 : decode cX2_reset 48 = .ok (.putfield 44, 3) := by decide +kernel
theorem dX2_reset_51 : decode cX2_reset 51 = .ok (.return_, 1) := by decide +kernel
theorem cc_X2_reset : Cond.code yX2_reset cX2_reset 2 none ∈ rf_tb := rf_at 1053 (by decide +kernel) (by decide +kernel)
theorem cw_RX2_22 : cl_wS RX2 yJ7_fill_53178 cJ7_fill_53178 4 none 22 2 := ⟨⟨rf_at 1054 (by decide +kernel) (by decide +kernel), rf_at 976 (by decide +kernel) (by decide +kernel), cc_J7_fill_53178, rf_at 18 (by decide +kernel) (by decide +kernel)⟩, ⟨by decide, by decide, by decide +kernel⟩⟩
noncomputable def bc_X2_reset_0 (a : Nat) (x1 : Int32) (σ : cl_S) : Option (cl_S) := vl (cl_w σ a 2 x1) (fun σ_1 => bd1 (fc_J7_fill_53178 (some (a + 1)) (0:Int32) σ_1) (fun σ_6 => bd1 (fc_J7_fill_53178 (some (a + 2)) (0:Int32) σ_6) (fun σ_12 => vl (cl_w σ_12 a 3 (0:Int32)) (fun σ_17 => vl (cl_w σ_17 a 4 (0:Int32)) (fun σ_21 => vl (cl_w σ_21 a 5 (0:Int32)) (fun σ_25 => vl (cl_w σ_25 a 6 (0:Int32)) (fun σ_29 => vl (cl_w σ_29 a 7 (0:Int32)) (fun σ_33 => vl (cl_w σ_33 a 8 (0:Int32)) (fun σ_37 => some σ_37)))))))))
set_option maxHeartbeats 4000000 in
theorem wc_X2_reset_0 (C : cl_C D p s m args meth c cX2_reset 2 none RX2) {a : Nat} {x1 : Int32} {σ0 σ σ' : cl_S} {T : Nat → Nat × Nat} {H : Heap} {locs : List Loc} {ls : Array Slot} {cells slots : Nat} (h : bc_X2_reset_0 a x1 σ = some σ') (G : cl_G true D c0 ({ frames := 1, cells := σ0.2.2.2.2.2.1, slots := σ0.2.2.2.2.2.2, locals := 23 }) s σ0.2.2.2.1 T σ H locs cells slots) (ha : (T a).1 = 18) (hl : lv_has ls 2 [(0, .ref (c0 + a)), (1, .int x1)]) : W p l e ({ frames := 1, cells := σ0.2.2.2.2.2.1, slots := σ0.2.2.2.2.2.2, locals := 23 }) s m args below meth c H locs cells slots (MQ below (cl_Q true D c0 none cl_no σ0 σ') args s (σ0.2.2.2.2.2.1 - σ'.2.2.2.2.2.1) (σ0.2.2.2.2.2.2 - σ'.2.2.2.2.2.2) (cl_A c0 σ0.2.2.2.1 s.heap.size)) (F0 m 0 ls []) := by
  unfold bc_X2_reset_0 at h
  refine lv_aload_n C.1 C.2.1 dX2_reset_0 rfl (lv_at hl 0 rfl) ?_
  refine lv_iload_n C.1 C.2.1 dX2_reset_1 rfl (lv_at hl 1 rfl) ?_
  refine cp_2_18 C G ha dX2_reset_2 (fun H locs G_2 => ?_)
  refine cl_nm G_2 h (fun σ_1 G_3 h_4 => ?_)
  refine lv_aload_n C.1 C.2.1 dX2_reset_5 rfl (lv_at hl 0 rfl) ?_
  refine cg_2_9 C G_3 ha dX2_reset_6 (fun t_5 => ?_)
  refine lv_iconst (v := (0:Int32)) C.1 C.2.1 dX2_reset_9 (by decide) ?_
  obtain ⟨σ_6, hq, h_7⟩ := bd1_some h_4
  refine cl_callS (rest := []) C G_3 cw_RX2_22 [.ref (c0 + (a + 1)), .int (0:Int32)] _ (kc_J7_fill_53178 l D c0 hq (by rw [G_3.1]; exact (cl_RTs (by rw [t_5])))) (Nat.le_of_ble_eq_true rfl) (Nat.le_of_ble_eq_true rfl) rfl rfl hl.1 (Nat.le_of_ble_eq_true rfl) dX2_reset_10 (fun T_8 H locs cells slots t_9 hu G_10 => ?_)
  have ha := hu.kind ha (by decide)
  refine W.eq (g2 := F0 m 13 ls []) rfl ?_
  refine lv_aload_n C.1 C.2.1 dX2_reset_13 rfl (lv_at hl 0 rfl) ?_
  refine cg_2_15 C G_10 ha dX2_reset_14 (fun t_11 => ?_)
  refine lv_iconst (v := (0:Int32)) C.1 C.2.1 dX2_reset_17 (by decide) ?_
  obtain ⟨σ_12, hq, h_13⟩ := bd1_some h_7
  refine cl_callS (rest := []) C G_10 cw_RX2_22 [.ref (c0 + (a + 2)), .int (0:Int32)] _ (kc_J7_fill_53178 l D c0 hq (by rw [G_10.1]; exact (cl_RTs (by rw [t_11])))) (Nat.le_of_ble_eq_true rfl) (Nat.le_of_ble_eq_true rfl) rfl rfl hl.1 (Nat.le_of_ble_eq_true rfl) dX2_reset_18 (fun T_14 H locs cells slots t_15 hu G_16 => ?_)
  have ha := hu.kind ha (by decide)
  refine W.eq (g2 := F0 m 21 ls []) rfl ?_
  refine lv_aload_n C.1 C.2.1 dX2_reset_21 rfl (lv_at hl 0 rfl) ?_
  refine lv_iconst (v := (0:Int32)) C.1 C.2.1 dX2_reset_22 (by decide) ?_
  refine cp_2_28 C G_16 ha dX2_reset_23 (fun H locs G_18 => ?_)
  refine cl_nm G_18 h_13 (fun σ_17 G_19 h_20 => ?_)
  refine lv_aload_n C.1 C.2.1 dX2_reset_26 rfl (lv_at hl 0 rfl) ?_
  refine lv_iconst (v := (0:Int32)) C.1 C.2.1 dX2_reset_27 (by decide) ?_
  refine cp_2_31 C G_19 ha dX2_reset_28 (fun H locs G_22 => ?_)
  refine cl_nm G_22 h_20 (fun σ_21 G_23 h_24 => ?_)
  refine lv_aload_n C.1 C.2.1 dX2_reset_31 rfl (lv_at hl 0 rfl) ?_
  refine lv_iconst (v := (0:Int32)) C.1 C.2.1 dX2_reset_32 (by decide) ?_
  refine cp_2_34 C G_23 ha dX2_reset_33 (fun H locs G_26 => ?_)
  refine cl_nm G_26 h_24 (fun σ_25 G_27 h_28 => ?_)
  refine lv_aload_n C.1 C.2.1 dX2_reset_36 rfl (lv_at hl 0 rfl) ?_
  refine lv_iconst (v := (0:Int32)) C.1 C.2.1 dX2_reset_37 (by decide) ?_
  refine cp_2_37 C G_27 ha dX2_reset_38 (fun H locs G_30 => ?_)
  refine cl_nm G_30 h_28 (fun σ_29 G_31 h_32 => ?_)
  refine lv_aload_n C.1 C.2.1 dX2_reset_41 rfl (lv_at hl 0 rfl) ?_
  refine lv_iconst (v := (0:Int32)) C.1 C.2.1 dX2_reset_42 (by decide) ?_
  refine cp_2_40 C G_31 ha rfl rfl dX2_reset_43 (fun H locs G_34 => ?_)
  refine cl_nm G_34 h_32 (fun σ_33 G_35 h_36 => ?_)
  refine lv_aload_n C.1 C.2.1 dX2_reset_46 rfl (lv_at hl 0 rfl) ?_
  refine lv_iconst (v := (0:Int32)) C.1 C.2.1 dX2_reset_47 (by decide) ?_
  refine cp_2_44 C G_35 ha rfl rfl dX2_reset_48 (fun H locs G_38 => ?_)
  refine cl_nm G_38 h_36 (fun σ_37 G_39 h_40 => ?_)
  exact cl_vret ⟨rfl, rfl⟩ rfl C G_39 h_40 dX2_reset_51
noncomputable def fc_X2_reset (a : Nat) (x1 : Int32) (σ : cl_S) : Option (cl_S) := bc_X2_reset_0 a x1 σ
theorem kc_X2_reset (l : Launch) (D : cl_D) (c0 : Nat) {a : Nat} {x1 : Int32} {σ σ' : cl_S} (ha : (σ.2.2.2.1 a).1 = 18) (h : fc_X2_reset a x1 σ = some σ') : cl_Met true l D c0 yX2_reset cX2_reset 2 none 1 23 [.ref (c0 + a), .int x1] σ none cl_no σ' :=
  cl_of (by decide) (Nat.le_of_ble_eq_true rfl) (fun p e s m args below meth c ls C hn G hl => wc_X2_reset_0 C h G ha hl)
abbrev cX2_load : ByteArray := prog_4_method_3_code
def yX2_load : MethodName := ⟨RX2, "load", "([I)V"⟩
theorem dX2_load_0 : decode cX2_load 0 = .ok (.aload_n 1, 1) := by decide +kernel
theorem dX2_load_1 : decode cX2_load 1 = .ok (.iconst 0, 1) := by decide +kernel
theorem dX2_load_2 : decode cX2_load 2 = .ok (.aload_n 0, 1) := by decide +kernel
theorem dX2_load_3 : decode cX2_load 3 = .ok (.getfield 9, 3) := by decide +kernel
theorem dX2_load_6 : decode cX2_load 6 = .ok (.iconst 0, 1) := by decide +kernel
theorem dX2_load_7 : decode cX2_load 7 = .ok (.aload_n 1, 1) := by decide +kernel
theorem dX2_load_8 : decode cX2_load 8 = .ok (.arraylength, 1) := by decide +kernel
theorem dX2_load_9 : decode cX2_load 9 = .ok (.sipush 2048, 3) := by decide +kernel
theorem dX2_load_12 : decode cX2_load 12 = .ok (.invokestatic 47, 3) := by decide +kernel
theorem dX2_load_15 : decode cX2_load 15 = .ok (.invokestatic 53, 3) := by decide +kernel
theorem dX2_load_18 : decode cX2_load 18 = .ok (.return_, 1) := by decide +kernel
theorem cc_X2_load : Cond.code yX2_load cX2_load 2 none ∈ rf_tb := rf_at 1088 (by decide +kernel) (by decide +kernel)
theorem mw_RX2_53 : Cond.methodLink RX2 53 arraycopyName ∈ rf_tb := rf_at 1090 (by decide +kernel) (by decide +kernel)
theorem mw_RX2_47 : Cond.methodLink RX2 47 Lib.Math.min.name ∈ rf_tb := rf_at 1089 (by decide +kernel) (by decide +kernel)
noncomputable def bc_X2_load_0 (a : Nat) (x1 : (Option Nat)) (σ : cl_S) : Option (cl_S) := nn x1 (fun a_2 => cpg (0:Int32) (0:Int32) (if (2048:Int32) < (nI ((σ.2.2.2.1 a_2).2)) then (2048:Int32) else (nI ((σ.2.2.2.1 a_2).2))) (σ.2.2.2.1 a_2).2 2048 (vl (cl_cp σ a_2 (a + 1) (0:Int32) (0:Int32) (if (2048:Int32) < (nI ((σ.2.2.2.1 a_2).2)) then (2048:Int32) else (nI ((σ.2.2.2.1 a_2).2)))) (fun σ_7 => some σ_7)))
set_option maxHeartbeats 4000000 in
theorem wc_X2_load_0 (C : cl_C D p s m args meth c cX2_load 2 none RX2) {a : Nat} {x1 : (Option Nat)} {σ0 σ σ' : cl_S} {T : Nat → Nat × Nat} {H : Heap} {locs : List Loc} {ls : Array Slot} {cells slots : Nat} (h : bc_X2_load_0 a x1 σ = some σ') (G : cl_G true D c0 ({ frames := 1, cells := σ0.2.2.2.2.2.1, slots := σ0.2.2.2.2.2.2, locals := 48 }) s σ0.2.2.2.1 T σ H locs cells slots) (ha : (T a).1 = 18) (f1 : cl_RT T x1 1) (hl : lv_has ls 2 [(0, .ref (c0 + a)), (1, cl_rf c0 x1)]) : W p l e ({ frames := 1, cells := σ0.2.2.2.2.2.1, slots := σ0.2.2.2.2.2.2, locals := 48 }) s m args below meth c H locs cells slots (MQ below (cl_Q true D c0 none cl_no σ0 σ') args s (σ0.2.2.2.2.2.1 - σ'.2.2.2.2.2.1) (σ0.2.2.2.2.2.2 - σ'.2.2.2.2.2.2) (cl_A c0 σ0.2.2.2.1 s.heap.size)) (F0 m 0 ls []) := by
  unfold bc_X2_load_0 at h
  refine cl_aload_n C.1 C.2.1 dX2_load_0 rfl (lv_at hl 1 rfl) ?_
  refine lv_iconst (v := (0:Int32)) C.1 C.2.1 dX2_load_1 (by decide) ?_
  refine lv_aload_n C.1 C.2.1 dX2_load_2 rfl (lv_at hl 0 rfl) ?_
  refine cg_2_9 C G ha dX2_load_3 (fun t_1 => ?_)
  refine lv_iconst (v := (0:Int32)) C.1 C.2.1 dX2_load_6 (by decide) ?_
  refine cl_aload_n C.1 C.2.1 dX2_load_7 rfl (lv_at hl 1 rfl) ?_
  obtain ⟨a_2, rfl, h_4⟩ := nn_some h
  have t_3 := f1 _ rfl
  have t_5 : T a_2 = (1, (σ.2.2.2.1 a_2).2) := by rw [G.1]; exact Prod.ext t_3 rfl
  refine cl_alen C G t_5 dX2_load_8 ?_
  refine lv_sipush (v := (2048:Int32)) C.1 C.2.1 dX2_load_9 (by decide) ?_
  refine va_mmin C.1 C.2.1 (C.2.2.1.trans hl.1.symm) C.2.2.2.1 (C.2.2.2.2.1 _ mw_RX2_47) (C.2.2.2.2.1 _ mw_min_s) (C.2.2.2.2.1 _ mw_Math_i) (C.2.2.2.2.1 _ mw_min_c) (Nat.le_of_ble_eq_true rfl) (Nat.le_of_ble_eq_true rfl) (cl_le1 G) (cl_le2 G) dX2_load_12 ?_
  have t_6 : T a_2 = (1, (σ.2.2.2.1 a_2).2) := by rw [G.1]; exact Prod.ext t_3 rfl
  obtain ⟨hcp, h_8⟩ := cpg_some h_4
  refine cl_copy C G t_6 t_1 hcp (C.2.2.2.2.1 _ mw_RX2_53) (Nat.le_of_ble_eq_true rfl) (show 0 + 18 ≤ 48 from by decide) hl.1 dX2_load_15 (fun H locs G_9 => ?_)
  refine cl_nm G_9 h_8 (fun σ_7 G_10 h_11 => ?_)
  exact cl_vret ⟨rfl, rfl⟩ rfl C G_10 h_11 dX2_load_18
noncomputable def fc_X2_load (a : Nat) (x1 : (Option Nat)) (σ : cl_S) : Option (cl_S) := bc_X2_load_0 a x1 σ
theorem kc_X2_load (l : Launch) (D : cl_D) (c0 : Nat) {a : Nat} {x1 : (Option Nat)} {σ σ' : cl_S} (ha : (σ.2.2.2.1 a).1 = 18) (h : fc_X2_load a x1 σ = some σ') (f1 : cl_RT σ.2.2.2.1 x1 1) : cl_Met true l D c0 yX2_load cX2_load 2 none 1 48 [.ref (c0 + a), cl_rf c0 x1] σ none cl_no σ' :=
  by cases x1 <;> exact cl_of (by decide) (Nat.le_of_ble_eq_true rfl) (fun p e s m args below meth c ls C hn G hl => wc_X2_load_0 C h G ha f1 hl)
abbrev cX2_isMemoryOp : ByteArray := prog_4_method_4_code
def yX2_isMemoryOp : MethodName := ⟨RX2, "isMemoryOp", "(I)Z"⟩
theorem dX2_isMemoryOp_0 : decode cX2_isMemoryOp 0 = .ok (.iload_n 0, 1) := by decide +kernel
theorem dX2_isMemoryOp_1 : decode cX2_isMemoryOp 1 = .ok (.bipush 22, 2) := by decide +kernel
theorem dX2_isMemoryOp_3 : decode cX2_isMemoryOp 3 = .ok (.if_icmp .lt 13, 3) := by decide +kernel
theorem dX2_isMemoryOp_6 : decode cX2_isMemoryOp 6 = .ok (.iload_n 0, 1) := by decide +kernel
theorem dX2_isMemoryOp_7 : decode cX2_isMemoryOp 7 = .ok (.bipush 29, 2) := by decide +kernel
theorem dX2_isMemoryOp_9 : decode cX2_isMemoryOp 9 = .ok (.if_icmp .gt 7, 3) := by decide +kernel
theorem dX2_isMemoryOp_12 : decode cX2_isMemoryOp 12 = .ok (.iconst 1, 1) := by decide +kernel
theorem dX2_isMemoryOp_13 : decode cX2_isMemoryOp 13 = .ok (.goto 4, 3) := by decide +kernel
theorem dX2_isMemoryOp_16 : decode cX2_isMemoryOp 16 = .ok (.iconst 0, 1) := by decide +kernel
theorem dX2_isMemoryOp_17 : decode cX2_isMemoryOp 17 = .ok (.ireturn, 1) := by decide +kernel
theorem cc_X2_isMemoryOp : Cond.code yX2_isMemoryOp cX2_isMemoryOp 1 (some .boolean) ∈ rf_tb := rf_at 998 (by decide +kernel) (by decide +kernel)
noncomputable def bc_X2_isMemoryOp_0 (x0 : Int32) (σ : cl_S) : Option (Int32 × cl_S) := (if x0 < (22:Int32) then some ((0:Int32), σ) else (if (29:Int32) < x0 then some ((0:Int32), σ) else some ((1:Int32), σ)))
set_option maxHeartbeats 4000000 in
theorem wc_X2_isMemoryOp_0 (C : cl_C D p s m args meth c cX2_isMemoryOp 1 (some .boolean) RX2) {r : Int32} {x0 : Int32} {σ0 σ σ' : cl_S} {T : Nat → Nat × Nat} {H : Heap} {locs : List Loc} {ls : Array Slot} {cells slots : Nat} (h : bc_X2_isMemoryOp_0 x0 σ = some (r, σ')) (G : cl_G true D c0 ({ frames := 0, cells := σ0.2.2.2.2.2.1, slots := σ0.2.2.2.2.2.2, locals := 0 }) s σ0.2.2.2.1 T σ H locs cells slots) (hl : lv_has ls 1 [(0, .int x0)]) : W p l e ({ frames := 0, cells := σ0.2.2.2.2.2.1, slots := σ0.2.2.2.2.2.2, locals := 0 }) s m args below meth c H locs cells slots (MQ below (cl_Q true D c0 (some (.int r)) cl_no σ0 σ') args s (σ0.2.2.2.2.2.1 - σ'.2.2.2.2.2.1) (σ0.2.2.2.2.2.2 - σ'.2.2.2.2.2.2) (cl_A c0 σ0.2.2.2.1 s.heap.size)) (F0 m 0 ls []) := by
  unfold bc_X2_isMemoryOp_0 at h
  refine lv_iload_n C.1 C.2.1 dX2_isMemoryOp_0 rfl (lv_at hl 0 rfl) ?_
  refine lv_bipush (v := (22:Int32)) C.1 C.2.1 dX2_isMemoryOp_1 (by decide) ?_
  refine lv_icmp_lt (tgt := 16) C.1 C.2.1 dX2_isMemoryOp_3 (by decide) (fun hc => ?_) (fun hc => ?_)
  · rw [if_pos hc] at h
    refine lv_iconst (v := (0:Int32)) C.1 C.2.1 dX2_isMemoryOp_16 (by decide) ?_
    exact cl_zret ⟨rfl, rfl⟩ rfl C G h rfl dX2_isMemoryOp_17
  · rw [if_neg hc] at h
    refine lv_iload_n C.1 C.2.1 dX2_isMemoryOp_6 rfl (lv_at hl 0 rfl) ?_
    refine lv_bipush (v := (29:Int32)) C.1 C.2.1 dX2_isMemoryOp_7 (by decide) ?_
    refine lv_icmp_gt (tgt := 16) C.1 C.2.1 dX2_isMemoryOp_9 (by decide) (fun hc => ?_) (fun hc => ?_)
    · rw [if_pos hc] at h
      refine lv_iconst (v := (0:Int32)) C.1 C.2.1 dX2_isMemoryOp_16 (by decide) ?_
      exact cl_zret ⟨rfl, rfl⟩ rfl C G h rfl dX2_isMemoryOp_17
    · rw [if_neg hc] at h
      refine lv_iconst (v := (1:Int32)) C.1 C.2.1 dX2_isMemoryOp_12 (by decide) ?_
      refine lv_goto (tgt := 17) C.1 C.2.1 dX2_isMemoryOp_13 (by decide) ?_
      exact cl_zret ⟨rfl, rfl⟩ rfl C G h rfl dX2_isMemoryOp_17
noncomputable def fc_X2_isMemoryOp (x0 : Int32) (σ : cl_S) : Option (Int32 × cl_S) := bc_X2_isMemoryOp_0 x0 σ
theorem kc_X2_isMemoryOp (l : Launch) (D : cl_D) (c0 : Nat) {r : Int32} {x0 : Int32} {σ σ' : cl_S} (h : fc_X2_isMemoryOp x0 σ = some (r, σ')) : cl_Met true l D c0 yX2_isMemoryOp cX2_isMemoryOp 1 (some .boolean) 0 0 [.int x0] σ (some (.int r)) cl_no σ' :=
  cl_of (by decide) (Nat.le_of_ble_eq_true rfl) (fun p e s m args below meth c ls C hn G hl => wc_X2_isMemoryOp_0 C h G  hl)
abbrev cX2_isStore : ByteArray := prog_4_method_5_code
def yX2_isStore : MethodName := ⟨RX2, "isStore", "(I)Z"⟩
theorem dX2_isStore_0 : decode cX2_isStore 0 = .ok (.iload_n 0, 1) := by decide +kernel
theorem dX2_isStore_1 : decode cX2_isStore 1 = .ok (.bipush 27, 2) := by decide +kernel
theorem dX2_isStore_3 : decode cX2_isStore 3 = .ok (.if_icmp .lt 13, 3) := by decide +kernel
theorem dX2_isStore_6 : decode cX2_isStore 6 = .ok (.iload_n 0, 1) := by decide +kernel
theorem dX2_isStore_7 : decode cX2_isStore 7 = .ok (.bipush 29, 2) := by decide +kernel
theorem dX2_isStore_9 : decode cX2_isStore 9 = .ok (.if_icmp .gt 7, 3) := by decide +kernel
theorem dX2_isStore_12 : decode cX2_isStore 12 = .ok (.iconst 1, 1) := by decide +kernel
theorem dX2_isStore_13 : decode cX2_isStore 13 = .ok (.goto 4, 3) := by decide +kernel
theorem dX2_isStore_16 : decode cX2_isStore 16 = .ok (.iconst 0, 1) := by decide +kernel
theorem dX2_isStore_17 : decode cX2_isStore 17 = .ok (.ireturn, 1) := by decide +kernel
theorem cc_X2_isStore : Cond.code yX2_isStore cX2_isStore 1 (some .boolean) ∈ rf_tb := rf_at 1004 (by decide +kernel) (by decide +kernel)
noncomputable def bc_X2_isStore_0 (x0 : Int32) (σ : cl_S) : Option (Int32 × cl_S) := (if x0 < (27:Int32) then some ((0:Int32), σ) else (if (29:Int32) < x0 then some ((0:Int32), σ) else some ((1:Int32), σ)))
set_option maxHeartbeats 4000000 in
theorem wc_X2_isStore_0 (C : cl_C D p s m args meth c cX2_isStore 1 (some .boolean) RX2) {r : Int32} {x0 : Int32} {σ0 σ σ' : cl_S} {T : Nat → Nat × Nat} {H : Heap} {locs : List Loc} {ls : Array Slot} {cells slots : Nat} (h : bc_X2_isStore_0 x0 σ = some (r, σ')) (G : cl_G true D c0 ({ frames := 0, cells := σ0.2.2.2.2.2.1, slots := σ0.2.2.2.2.2.2, locals := 0 }) s σ0.2.2.2.1 T σ H locs cells slots) (hl : lv_has ls 1 [(0, .int x0)]) : W p l e ({ frames := 0, cells := σ0.2.2.2.2.2.1, slots := σ0.2.2.2.2.2.2, locals := 0 }) s m args below meth c H locs cells slots (MQ below (cl_Q true D c0 (some (.int r)) cl_no σ0 σ') args s (σ0.2.2.2.2.2.1 - σ'.2.2.2.2.2.1) (σ0.2.2.2.2.2.2 - σ'.2.2.2.2.2.2) (cl_A c0 σ0.2.2.2.1 s.heap.size)) (F0 m 0 ls []) := by
  unfold bc_X2_isStore_0 at h
  refine lv_iload_n C.1 C.2.1 dX2_isStore_0 rfl (lv_at hl 0 rfl) ?_
  refine lv_bipush (v := (27:Int32)) C.1 C.2.1 dX2_isStore_1 (by decide) ?_
  refine lv_icmp_lt (tgt := 16) C.1 C.2.1 dX2_isStore_3 (by decide) (fun hc => ?_) (fun hc => ?_)
  · rw [if_pos hc] at h
    refine lv_iconst (v := (0:Int32)) C.1 C.2.1 dX2_isStore_16 (by decide) ?_
    exact cl_zret ⟨rfl, rfl⟩ rfl C G h rfl dX2_isStore_17
  · rw [if_neg hc] at h
    refine lv_iload_n C.1 C.2.1 dX2_isStore_6 rfl (lv_at hl 0 rfl) ?_
    refine lv_bipush (v := (29:Int32)) C.1 C.2.1 dX2_isStore_7 (by decide) ?_
    refine lv_icmp_gt (tgt := 16) C.1 C.2.1 dX2_isStore_9 (by decide) (fun hc => ?_) (fun hc => ?_)
    · rw [if_pos hc] at h
      refine lv_iconst (v := (0:Int32)) C.1 C.2.1 dX2_isStore_16 (by decide) ?_
      exact cl_zret ⟨rfl, rfl⟩ rfl C G h rfl dX2_isStore_17
    · rw [if_neg hc] at h
      refine lv_iconst (v := (1:Int32)) C.1 C.2.1 dX2_isStore_12 (by decide) ?_
      refine lv_goto (tgt := 17) C.1 C.2.1 dX2_isStore_13 (by decide) ?_
      exact cl_zret ⟨rfl, rfl⟩ rfl C G h rfl dX2_isStore_17
noncomputable def fc_X2_isStore (x0 : Int32) (σ : cl_S) : Option (Int32 × cl_S) := bc_X2_isStore_0 x0 σ
theorem kc_X2_isStore (l : Launch) (D : cl_D) (c0 : Nat) {r : Int32} {x0 : Int32} {σ σ' : cl_S} (h : fc_X2_isStore x0 σ = some (r, σ')) : cl_Met true l D c0 yX2_isStore cX2_isStore 1 (some .boolean) 0 0 [.int x0] σ (some (.int r)) cl_no σ' :=
  cl_of (by decide) (Nat.le_of_ble_eq_true rfl) (fun p e s m args below meth c ls C hn G hl => wc_X2_isStore_0 C h G  hl)
abbrev cX2_width : ByteArray := prog_4_method_6_code
def yX2_width : MethodName := ⟨RX2, "width", "(I)I"⟩
theorem dX2_width_0 : decode cX2_width 0 = .ok (.iload_n 0, 1) := by decide +kernel
theorem dX2_width_1 : decode cX2_width 1 = .ok (.bipush 22, 2) := by decide +kernel
theorem dX2_width_3 : decode cX2_width 3 = .ok (.if_icmp .eq 9, 3) := by decide +kernel
theorem dX2_width_6 : decode cX2_width 6 = .ok (.iload_n 0, 1) := by decide +kernel
theorem dX2_width_7 : decode cX2_width 7 = .ok (.bipush 27, 2) := by decide +kernel
theorem dX2_width_9 : decode cX2_width 9 = .ok (.if_icmp .ne 5, 3) := by decide +kernel
theorem dX2_width_12 : decode cX2_width 12 = .ok (.iconst 4, 1) := by decide +kernel
theorem dX2_width_13 : decode cX2_width 13 = .ok (.ireturn, 1) := by decide +kernel
theorem dX2_width_14 : decode cX2_width 14 = .ok (.iload_n 0, 1) := by decide +kernel
theorem dX2_width_15 : decode cX2_width 15 = .ok (.bipush 23, 2) := by decide +kernel
theorem dX2_width_17 : decode cX2_width 17 = .ok (.if_icmp .eq 15, 3) := by decide +kernel
theorem dX2_width_20 : decode cX2_width 20 = .ok (.iload_n 0, 1) := by decide +kernel
theorem dX2_width_21 : decode cX2_width 21 = .ok (.bipush 24, 2) := by decide +kernel
theorem dX2_width_23 : decode cX2_width 23 = .ok (.if_icmp .eq 9, 3) := by decide +kernel
theorem dX2_width_26 : decode cX2_width 26 = .ok (.iload_n 0, 1) := by decide +kernel
theorem dX2_width_27 : decode cX2_width 27 = .ok (.bipush 28, 2) := by decide +kernel
theorem dX2_width_29 : decode cX2_width 29 = .ok (.if_icmp .ne 7, 3) := by decide +kernel
theorem dX2_width_32 : decode cX2_width 32 = .ok (.iconst 2, 1) := by decide +kernel
theorem dX2_width_33 : decode cX2_width 33 = .ok (.goto 4, 3) := by decide +kernel
theorem dX2_width_36 : decode cX2_width 36 = .ok (.iconst 1, 1) := by decide +kernel
theorem dX2_width_37 : decode cX2_width 37 = .ok (.ireturn, 1) := by decide +kernel
theorem cc_X2_width : Cond.code yX2_width cX2_width 1 (some .int) ∈ rf_tb := rf_at 1001 (by decide +kernel) (by decide +kernel)
noncomputable def bc_X2_width_0 (x0 : Int32) (σ : cl_S) : Option (Int32 × cl_S) := (if x0 = (22:Int32) then some ((4:Int32), σ) else (if x0 = (27:Int32) then some ((4:Int32), σ) else (if x0 = (23:Int32) then some ((2:Int32), σ) else (if x0 = (24:Int32) then some ((2:Int32), σ) else (if x0 = (28:Int32) then some ((2:Int32), σ) else some ((1:Int32), σ))))))
set_option maxHeartbeats 4000000 in
theorem wc_X2_width_0 (C : cl_C D p s m args meth c cX2_width 1 (some .int) RX2) {r : Int32} {x0 : Int32} {σ0 σ σ' : cl_S} {T : Nat → Nat × Nat} {H : Heap} {locs : List Loc} {ls : Array Slot} {cells slots : Nat} (h : bc_X2_width_0 x0 σ = some (r, σ')) (G : cl_G true D c0 ({ frames := 0, cells := σ0.2.2.2.2.2.1, slots := σ0.2.2.2.2.2.2, locals := 0 }) s σ0.2.2.2.1 T σ H locs cells slots) (hl : lv_has ls 1 [(0, .int x0)]) : W p l e ({ frames := 0, cells := σ0.2.2.2.2.2.1, slots := σ0.2.2.2.2.2.2, locals := 0 }) s m args below meth c H locs cells slots (MQ below (cl_Q true D c0 (some (.int r)) cl_no σ0 σ') args s (σ0.2.2.2.2.2.1 - σ'.2.2.2.2.2.1) (σ0.2.2.2.2.2.2 - σ'.2.2.2.2.2.2) (cl_A c0 σ0.2.2.2.1 s.heap.size)) (F0 m 0 ls []) := by
  unfold bc_X2_width_0 at h
  refine lv_iload_n C.1 C.2.1 dX2_width_0 rfl (lv_at hl 0 rfl) ?_
  refine lv_bipush (v := (22:Int32)) C.1 C.2.1 dX2_width_1 (by decide) ?_
  refine lv_icmp_eq (tgt := 12) C.1 C.2.1 dX2_width_3 (by decide) (fun hc => ?_) (fun hc => ?_)
  · rw [if_pos hc] at h
    refine lv_iconst (v := (4:Int32)) C.1 C.2.1 dX2_width_12 (by decide) ?_
    exact cl_iret ⟨rfl, rfl⟩ rfl C G h dX2_width_13
  · rw [if_neg hc] at h
    refine lv_iload_n C.1 C.2.1 dX2_width_6 rfl (lv_at hl 0 rfl) ?_
    refine lv_bipush (v := (27:Int32)) C.1 C.2.1 dX2_width_7 (by decide) ?_
    refine lv_icmp_ne (tgt := 14) C.1 C.2.1 dX2_width_9 (by decide) (fun hc => ?_) (fun hc => ?_)
    · rw [if_neg hc] at h
      refine lv_iload_n C.1 C.2.1 dX2_width_14 rfl (lv_at hl 0 rfl) ?_
      refine lv_bipush (v := (23:Int32)) C.1 C.2.1 dX2_width_15 (by decide) ?_
      refine lv_icmp_eq (tgt := 32) C.1 C.2.1 dX2_width_17 (by decide) (fun hc => ?_) (fun hc => ?_)
      · rw [if_pos hc] at h
        refine lv_iconst (v := (2:Int32)) C.1 C.2.1 dX2_width_32 (by decide) ?_
        refine lv_goto (tgt := 37) C.1 C.2.1 dX2_width_33 (by decide) ?_
        exact cl_iret ⟨rfl, rfl⟩ rfl C G h dX2_width_37
      · rw [if_neg hc] at h
        refine lv_iload_n C.1 C.2.1 dX2_width_20 rfl (lv_at hl 0 rfl) ?_
        refine lv_bipush (v := (24:Int32)) C.1 C.2.1 dX2_width_21 (by decide) ?_
        refine lv_icmp_eq (tgt := 32) C.1 C.2.1 dX2_width_23 (by decide) (fun hc => ?_) (fun hc => ?_)
        · rw [if_pos hc] at h
          refine lv_iconst (v := (2:Int32)) C.1 C.2.1 dX2_width_32 (by decide) ?_
          refine lv_goto (tgt := 37) C.1 C.2.1 dX2_width_33 (by decide) ?_
          exact cl_iret ⟨rfl, rfl⟩ rfl C G h dX2_width_37
        · rw [if_neg hc] at h
          refine lv_iload_n C.1 C.2.1 dX2_width_26 rfl (lv_at hl 0 rfl) ?_
          refine lv_bipush (v := (28:Int32)) C.1 C.2.1 dX2_width_27 (by decide) ?_
          refine lv_icmp_ne (tgt := 36) C.1 C.2.1 dX2_width_29 (by decide) (fun hc => ?_) (fun hc => ?_)
          · rw [if_neg hc] at h
            refine lv_iconst (v := (1:Int32)) C.1 C.2.1 dX2_width_36 (by decide) ?_
            exact cl_iret ⟨rfl, rfl⟩ rfl C G h dX2_width_37
          · rw [if_pos hc] at h
            refine lv_iconst (v := (2:Int32)) C.1 C.2.1 dX2_width_32 (by decide) ?_
            refine lv_goto (tgt := 37) C.1 C.2.1 dX2_width_33 (by decide) ?_
            exact cl_iret ⟨rfl, rfl⟩ rfl C G h dX2_width_37
    · rw [if_pos hc] at h
      refine lv_iconst (v := (4:Int32)) C.1 C.2.1 dX2_width_12 (by decide) ?_
      exact cl_iret ⟨rfl, rfl⟩ rfl C G h dX2_width_13
noncomputable def fc_X2_width (x0 : Int32) (σ : cl_S) : Option (Int32 × cl_S) := bc_X2_width_0 x0 σ
theorem kc_X2_width (l : Launch) (D : cl_D) (c0 : Nat) {r : Int32} {x0 : Int32} {σ σ' : cl_S} (h : fc_X2_width x0 σ = some (r, σ')) : cl_Met true l D c0 yX2_width cX2_width 1 (some .int) 0 0 [.int x0] σ (some (.int r)) cl_no σ' :=
  cl_of (by decide) (Nat.le_of_ble_eq_true rfl) (fun p e s m args below meth c ls C hn G hl => wc_X2_width_0 C h G  hl)
abbrev cX2_trap : ByteArray := prog_4_method_8_code
def yX2_trap : MethodName := ⟨RX2, "trap", "(I)V"⟩
theorem dX2_trap_0 : decode cX2_trap 0 = .ok (.aload_n 0, 1) := by decide +kernel
theorem dX2_trap_1 : decode cX2_trap 1 = .ok (.iload_n 1, 1) := by decide +kernel
theorem dX2_trap_2 : decode cX2_trap 2 = .ok (.putfield 34, 3) := by decide +kernel
theorem dX2_trap_5 : decode cX2_trap 5 = .ok (.aload_n 0, 1) := by decide +kernel
theorem dX2_trap_6 : decode cX2_trap 6 = .ok (.aload_n 0, 1) := by decide +kernel
theorem dX2_trap_7 : decode cX2_trap 7 = .ok (.getfield 28, 3) := by decide +kernel
theorem dX2_trap_10 : decode cX2_trap 10 = .ok (.putfield 37, 3) := by decide +kernel
theorem dX2_trap_13 : decode cX2_trap 13 = .ok (.aload_n 0, 1) := by decide +kernel
theorem dX2_trap_14 : decode cX2_trap 14 = .ok (.getfield 31, 3) := by decide +kernel
theorem dX2_trap_17 : decode cX2_trap 17 = .ok (.ifCond .eq 10, 3) := by decide +kernel
theorem dX2_trap_20 : decode cX2_trap 20 = .ok (.aload_n 0, 1) := by decide +kernel
theorem dX2_trap_21 : decode cX2_trap 21 = .ok (.getfield 44, 3) := by decide +kernel
theorem dX2_trap_24 : decode cX2_trap 24 = .ok (.ifCond .eq 11, 3) := by decide +kernel
theorem dX2_trap_27 : decode cX2_trap 27 = .ok (.aload_n 0, 1) := by decide +kernel
theorem dX2_trap_28 : decode cX2_trap 28 = .ok (.iconst 1, 1) := by decide +kernel
theorem dX2_trap_29 : decode cX2_trap 29 = .ok (.putfield 40, 3) := by decide +kernel
theorem dX2_trap_32 : decode cX2_trap 32 = .ok (.goto 16, 3) := by decide +kernel
theorem dX2_trap_35 : decode cX2_trap 35 = .ok (.aload_n 0, 1) := by decide +kernel
theorem dX2_trap_36 : decode cX2_trap 36 = .ok (.aload_n 0, 1) := by decide +kernel
theorem dX2_trap_37 : decode cX2_trap 37 = .ok (.getfield 31, 3) := by decide +kernel
theorem dX2_trap_40 : decode cX2_trap 40 = .ok (.putfield 28, 3) := by decide +kernel
theorem dX2_trap_43 : decode cX2_trap 43 = .ok (.aload_n 0, 1) := by decide +kernel
theorem dX2_trap_44 : decode cX2_trap 44 = .ok (.iconst 1, 1) := by decide +kernel
theorem dX2_trap_45 : decode cX2_trap 45 = .ok (.putfield 44, 3) := by decide +kernel
theorem dX2_trap_48 : decode cX2_trap 48 = .ok (.return_, 1) := by decide +kernel
theorem cc_X2_trap : Cond.code yX2_trap cX2_trap 2 none ∈ rf_tb := rf_at 1120 (by decide +kernel) (by decide +kernel)
noncomputable def bc_X2_trap_27 (a : Nat) (σ : cl_S) : Option (cl_S) := vl (cl_w σ a 7 (1:Int32)) (fun σ_9 => some σ_9)
set_option maxHeartbeats 4000000 in
theorem wc_X2_trap_27 (C : cl_C D p s m args meth c cX2_trap 2 none RX2) {a : Nat} {σ0 σ σ' : cl_S} {T : Nat → Nat × Nat} {H : Heap} {locs : List Loc} {ls : Array Slot} {cells slots : Nat} (h : bc_X2_trap_27 a σ = some σ') (G : cl_G true D c0 ({ frames := 0, cells := σ0.2.2.2.2.2.1, slots := σ0.2.2.2.2.2.2, locals := 0 }) s σ0.2.2.2.1 T σ H locs cells slots) (ha : (T a).1 = 18) (hl : lv_has ls 2 [(0, .ref (c0 + a))]) : W p l e ({ frames := 0, cells := σ0.2.2.2.2.2.1, slots := σ0.2.2.2.2.2.2, locals := 0 }) s m args below meth c H locs cells slots (MQ below (cl_Q true D c0 none cl_no σ0 σ') args s (σ0.2.2.2.2.2.1 - σ'.2.2.2.2.2.1) (σ0.2.2.2.2.2.2 - σ'.2.2.2.2.2.2) (cl_A c0 σ0.2.2.2.1 s.heap.size)) (F0 m 27 ls []) := by
  unfold bc_X2_trap_27 at h
  refine lv_aload_n C.1 C.2.1 dX2_trap_27 rfl (lv_at hl 0 rfl) ?_
  refine lv_iconst (v := (1:Int32)) C.1 C.2.1 dX2_trap_28 (by decide) ?_
  refine cp_2_40 C G ha rfl rfl dX2_trap_29 (fun H locs G_10 => ?_)
  refine cl_nm G_10 h (fun σ_9 G_11 h_12 => ?_)
  refine lv_goto (tgt := 48) C.1 C.2.1 dX2_trap_32 (by decide) ?_
  exact cl_vret ⟨rfl, rfl⟩ rfl C G_11 h_12 dX2_trap_48
noncomputable def bc_X2_trap_0 (a : Nat) (x1 : Int32) (σ : cl_S) : Option (cl_S) := vl (cl_w σ a 5 x1) (fun σ_1 => vl (cl_w σ_1 a 6 (σ_1.1 a 3)) (fun σ_5 => (if (σ_5.1 a 4) = 0 then bc_X2_trap_27 a σ_5 else (if (σ_5.1 a 8) = 0 then vl (cl_w σ_5 a 3 (σ_5.1 a 4)) (fun σ_13 => vl (cl_w σ_13 a 8 (1:Int32)) (fun σ_17 => some σ_17)) else bc_X2_trap_27 a σ_5))))
set_option maxHeartbeats 4000000 in
theorem wc_X2_trap_0 (C : cl_C D p s m args meth c cX2_trap 2 none RX2) {a : Nat} {x1 : Int32} {σ0 σ σ' : cl_S} {T : Nat → Nat × Nat} {H : Heap} {locs : List Loc} {ls : Array Slot} {cells slots : Nat} (h : bc_X2_trap_0 a x1 σ = some σ') (G : cl_G true D c0 ({ frames := 0, cells := σ0.2.2.2.2.2.1, slots := σ0.2.2.2.2.2.2, locals := 0 }) s σ0.2.2.2.1 T σ H locs cells slots) (ha : (T a).1 = 18) (hl : lv_has ls 2 [(0, .ref (c0 + a)), (1, .int x1)]) : W p l e ({ frames := 0, cells := σ0.2.2.2.2.2.1, slots := σ0.2.2.2.2.2.2, locals := 0 }) s m args below meth c H locs cells slots (MQ below (cl_Q true D c0 none cl_no σ0 σ') args s (σ0.2.2.2.2.2.1 - σ'.2.2.2.2.2.1) (σ0.2.2.2.2.2.2 - σ'.2.2.2.2.2.2) (cl_A c0 σ0.2.2.2.1 s.heap.size)) (F0 m 0 ls []) := by
  unfold bc_X2_trap_0 at h
  refine lv_aload_n C.1 C.2.1 dX2_trap_0 rfl (lv_at hl 0 rfl) ?_
  refine lv_iload_n C.1 C.2.1 dX2_trap_1 rfl (lv_at hl 1 rfl) ?_
  refine cp_2_34 C G ha dX2_trap_2 (fun H locs G_2 => ?_)
  refine cl_nm G_2 h (fun σ_1 G_3 h_4 => ?_)
  refine lv_aload_n C.1 C.2.1 dX2_trap_5 rfl (lv_at hl 0 rfl) ?_
  refine lv_aload_n C.1 C.2.1 dX2_trap_6 rfl (lv_at hl 0 rfl) ?_
  refine cg_2_28 C G_3 ha dX2_trap_7 ?_
  refine cp_2_37 C G_3 ha dX2_trap_10 (fun H locs G_6 => ?_)
  refine cl_nm G_6 h_4 (fun σ_5 G_7 h_8 => ?_)
  refine lv_aload_n C.1 C.2.1 dX2_trap_13 rfl (lv_at hl 0 rfl) ?_
  refine cg_2_31 C G_7 ha dX2_trap_14 ?_
  refine lv_if_eq (tgt := 27) C.1 C.2.1 dX2_trap_17 (by decide) (fun hc => ?_) (fun hc => ?_)
  · rw [if_pos hc] at h_8
    exact wc_X2_trap_27 C h_8 G_7 ha (lv_sub hl [0] rfl)
  · rw [if_neg hc] at h_8
    refine lv_aload_n C.1 C.2.1 dX2_trap_20 rfl (lv_at hl 0 rfl) ?_
    refine cg_2_44 C G_7 ha dX2_trap_21 ?_
    refine lv_if_eq (tgt := 35) C.1 C.2.1 dX2_trap_24 (by decide) (fun hc => ?_) (fun hc => ?_)
    · rw [if_pos hc] at h_8
      refine lv_aload_n C.1 C.2.1 dX2_trap_35 rfl (lv_at hl 0 rfl) ?_
      refine lv_aload_n C.1 C.2.1 dX2_trap_36 rfl (lv_at hl 0 rfl) ?_
      refine cg_2_31 C G_7 ha dX2_trap_37 ?_
      refine cp_2_28 C G_7 ha dX2_trap_40 (fun H locs G_14 => ?_)
      refine cl_nm G_14 h_8 (fun σ_13 G_15 h_16 => ?_)
      refine lv_aload_n C.1 C.2.1 dX2_trap_43 rfl (lv_at hl 0 rfl) ?_
      refine lv_iconst (v := (1:Int32)) C.1 C.2.1 dX2_trap_44 (by decide) ?_
      refine cp_2_44 C G_15 ha rfl rfl dX2_trap_45 (fun H locs G_18 => ?_)
      refine cl_nm G_18 h_16 (fun σ_17 G_19 h_20 => ?_)
      exact cl_vret ⟨rfl, rfl⟩ rfl C G_19 h_20 dX2_trap_48
    · rw [if_neg hc] at h_8
      exact wc_X2_trap_27 C h_8 G_7 ha (lv_sub hl [0] rfl)
noncomputable def fc_X2_trap (a : Nat) (x1 : Int32) (σ : cl_S) : Option (cl_S) := bc_X2_trap_0 a x1 σ
theorem kc_X2_trap (l : Launch) (D : cl_D) (c0 : Nat) {a : Nat} {x1 : Int32} {σ σ' : cl_S} (ha : (σ.2.2.2.1 a).1 = 18) (h : fc_X2_trap a x1 σ = some σ') : cl_Met true l D c0 yX2_trap cX2_trap 2 none 0 0 [.ref (c0 + a), .int x1] σ none cl_no σ' :=
  cl_of (by decide) (Nat.le_of_ble_eq_true rfl) (fun p e s m args below meth c ls C hn G hl => wc_X2_trap_0 C h G ha hl)
abbrev cX2_isBelow : ByteArray := prog_4_method_12_code
def yX2_isBelow : MethodName := ⟨RX2, "isBelow", "(II)Z"⟩
theorem dX2_isBelow_0 : decode cX2_isBelow 0 = .ok (.iload_n 0, 1) := by decide +kernel
theorem dX2_isBelow_1 : decode cX2_isBelow 1 = .ok (.ldc 96, 2) := by decide +kernel
theorem dX2_isBelow_3 : decode cX2_isBelow 3 = .ok (.iadd, 1) := by decide +kernel
theorem dX2_isBelow_4 : decode cX2_isBelow 4 = .ok (.iload_n 1, 1) := by decide +kernel
theorem dX2_isBelow_5 : decode cX2_isBelow 5 = .ok (.ldc 96, 2) := by decide +kernel
theorem dX2_isBelow_7 : decode cX2_isBelow 7 = .ok (.iadd, 1) := by decide +kernel
theorem dX2_isBelow_8 : decode cX2_isBelow 8 = .ok (.if_icmp .ge 7, 3) := by decide +kernel
theorem dX2_isBelow_11 : decode cX2_isBelow 11 = .ok (.iconst 1, 1) := by decide +kernel
theorem dX2_isBelow_12 : decode cX2_isBelow 12 = .ok (.goto 4, 3) := by decide +kernel
theorem dX2_isBelow_15 : decode cX2_isBelow 15 = .ok (.iconst 0, 1) := by decide +kernel
theorem dX2_isBelow_16 : decode cX2_isBelow 16 = .ok (.ireturn, 1) := by decide +kernel
theorem cc_X2_isBelow : Cond.code yX2_isBelow cX2_isBelow 2 (some .boolean) ∈ rf_tb := rf_at 1131 (by decide +kernel) (by decide +kernel)
theorem kc_RX2_96 : Cond.constant RX2 96 (-2147483648 : Int32) ∈ rf_tb := rf_at 1132 (by decide +kernel) (by decide +kernel)
noncomputable def bc_X2_isBelow_0 (x0 : Int32) (x1 : Int32) (σ : cl_S) : Option (Int32 × cl_S) := (if (x1 + (-2147483648:Int32)) ≤ (x0 + (-2147483648:Int32)) then some ((0:Int32), σ) else some ((1:Int32), σ))
set_option maxHeartbeats 4000000 in
theorem wc_X2_isBelow_0 (C : cl_C D p s m args meth c cX2_isBelow 2 (some .boolean) RX2) {r : Int32} {x0 : Int32} {x1 : Int32} {σ0 σ σ' : cl_S} {T : Nat → Nat × Nat} {H : Heap} {locs : List Loc} {ls : Array Slot} {cells slots : Nat} (h : bc_X2_isBelow_0 x0 x1 σ = some (r, σ')) (G : cl_G true D c0 ({ frames := 0, cells := σ0.2.2.2.2.2.1, slots := σ0.2.2.2.2.2.2, locals := 0 }) s σ0.2.2.2.1 T σ H locs cells slots) (hl : lv_has ls 2 [(0, .int x0), (1, .int x1)]) : W p l e ({ frames := 0, cells := σ0.2.2.2.2.2.1, slots := σ0.2.2.2.2.2.2, locals := 0 }) s m args below meth c H locs cells slots (MQ below (cl_Q true D c0 (some (.int r)) cl_no σ0 σ') args s (σ0.2.2.2.2.2.1 - σ'.2.2.2.2.2.1) (σ0.2.2.2.2.2.2 - σ'.2.2.2.2.2.2) (cl_A c0 σ0.2.2.2.1 s.heap.size)) (F0 m 0 ls []) := by
  unfold bc_X2_isBelow_0 at h
  refine lv_iload_n C.1 C.2.1 dX2_isBelow_0 rfl (lv_at hl 0 rfl) ?_
  refine lv_ldc (v := (-2147483648:Int32)) C.1 C.2.1 C.2.2.2.1 (C.2.2.2.2.1 _ kc_RX2_96) dX2_isBelow_1 ?_
  refine lv_iadd C.1 C.2.1 dX2_isBelow_3 ?_
  refine lv_iload_n C.1 C.2.1 dX2_isBelow_4 rfl (lv_at hl 1 rfl) ?_
  refine lv_ldc (v := (-2147483648:Int32)) C.1 C.2.1 C.2.2.2.1 (C.2.2.2.2.1 _ kc_RX2_96) dX2_isBelow_5 ?_
  refine lv_iadd C.1 C.2.1 dX2_isBelow_7 ?_
  refine lv_icmp_ge (tgt := 15) C.1 C.2.1 dX2_isBelow_8 (by decide) (fun hc => ?_) (fun hc => ?_)
  · rw [if_pos hc] at h
    refine lv_iconst (v := (0:Int32)) C.1 C.2.1 dX2_isBelow_15 (by decide) ?_
    exact cl_zret ⟨rfl, rfl⟩ rfl C G h rfl dX2_isBelow_16
  · rw [if_neg hc] at h
    refine lv_iconst (v := (1:Int32)) C.1 C.2.1 dX2_isBelow_11 (by decide) ?_
    refine lv_goto (tgt := 16) C.1 C.2.1 dX2_isBelow_12 (by decide) ?_
    exact cl_zret ⟨rfl, rfl⟩ rfl C G h rfl dX2_isBelow_16
noncomputable def fc_X2_isBelow (x0 : Int32) (x1 : Int32) (σ : cl_S) : Option (Int32 × cl_S) := bc_X2_isBelow_0 x0 x1 σ
theorem kc_X2_isBelow (l : Launch) (D : cl_D) (c0 : Nat) {r : Int32} {x0 : Int32} {x1 : Int32} {σ σ' : cl_S} (h : fc_X2_isBelow x0 x1 σ = some (r, σ')) : cl_Met true l D c0 yX2_isBelow cX2_isBelow 2 (some .boolean) 0 0 [.int x0, .int x1] σ (some (.int r)) cl_no σ' :=
  cl_of (by decide) (Nat.le_of_ble_eq_true rfl) (fun p e s m args below meth c ls C hn G hl => wc_X2_isBelow_0 C h G  hl)
abbrev cX2_result : ByteArray := prog_4_method_11_code
def yX2_result : MethodName := ⟨RX2, "result", "(III)I"⟩
theorem dX2_result_0 : decode cX2_result 0 = .ok (.iload_n 0, 1) := by decide +kernel
theorem dX2_result_1 : decode cX2_result 1 = .ok (.tableswitch 161 1 20 #[95, 99, 103, 107, 111, 115, 122, 129, 136, 147, 161, 95, 103, 107, 111, 115, 122, 129, 136, 147], 95) := by decide +kernel
theorem dX2_result_96 : decode cX2_result 96 = .ok (.iload_n 1, 1) := by decide +kernel
theorem dX2_result_97 : decode cX2_result 97 = .ok (.iload_n 2, 1) := by decide +kernel
theorem dX2_result_98 : decode cX2_result 98 = .ok (.iadd, 1) := by decide +kernel
theorem dX2_result_99 : decode cX2_result 99 = .ok (.ireturn, 1) := by decide +kernel
theorem dX2_result_100 : decode cX2_result 100 = .ok (.iload_n 1, 1) := by decide +kernel
theorem dX2_result_101 : decode cX2_result 101 = .ok (.iload_n 2, 1) := by decide +kernel
theorem dX2_result_102 : decode cX2_result 102 = .ok (.isub, 1) := by decide +kernel
theorem dX2_result_103 : decode cX2_result 103 = .ok (.ireturn, 1) := by decide +kernel
theorem dX2_result_104 : decode cX2_result 104 = .ok (.iload_n 1, 1) := by decide +kernel
theorem dX2_result_105 : decode cX2_result 105 = .ok (.iload_n 2, 1) := by decide +kernel
theorem dX2_result_106 : decode cX2_result 106 = .ok (.iand, 1) := by decide +kernel
theorem dX2_result_107 : decode cX2_result 107 = .ok (.ireturn, 1) := by decide +kernel
theorem dX2_result_108 : decode cX2_result 108 = .ok (.iload_n 1, 1) := by decide +kernel
theorem dX2_result_109 : decode cX2_result 109 = .ok (.iload_n 2, 1) := by decide +kernel
theorem dX2_result_110 : decode cX2_result 110 = .ok (.ior, 1) := by decide +kernel
theorem dX2_result_111 : decode cX2_result 111 = .ok (.ireturn, 1) := by decide +kernel
theorem dX2_result_112 : decode cX2_result 112 = .ok (.iload_n 1, 1) := by decide +kernel
theorem dX2_result_113 : decode cX2_result 113 = .ok (.iload_n 2, 1) := by decide +kernel
theorem dX2_result_114 : decode cX2_result 114 = .ok (.ixor, 1) := by decide +kernel
theorem dX2_result_115 : decode cX2_result 115 = .ok (.ireturn, 1) := by decide +kernel
theorem dX2_result_116 : decode cX2_result 116 = .ok (.iload_n 1, 1) := by decide +kernel
theorem dX2_result_117 : decode cX2_result 117 = .ok (.iload_n 2, 1) := by decide +kernel
theorem dX2_result_118 : decode cX2_result 118 = .ok (.bipush 31, 2) := by decide +kernel
theorem dX2_result_120 : decode cX2_result 120 = .ok (.iand, 1) := by decide +kernel
theorem dX2_result_121 : decode cX2_result 121 = .ok (.ishl, 1) := by decide +kernel
theorem dX2_result_122 : decode cX2_result 122 = .ok (.ireturn, 1) := by decide +kernel
theorem dX2_result_123 : decode cX2_result 123 = .ok (.iload_n 1, 1) := by decide +kernel
theorem dX2_result_124 : decode cX2_result 124 = .ok (.iload_n 2, 1) := by decide +kernel
theorem dX2_result_125 : decode cX2_result 125 = .ok (.bipush 31, 2) := by decide +kernel
theorem dX2_result_127 : decode cX2_result 127 = .ok (.iand, 1) := by decide +kernel
theorem dX2_result_128 : decode cX2_result 128 = .ok (.iushr, 1) := by decide +kernel
theorem dX2_result_129 : decode cX2_result 129 = .ok (.ireturn, 1) := by decide +kernel
theorem dX2_result_130 : decode cX2_result 130 = .ok (.iload_n 1, 1) := by decide +kernel
theorem dX2_result_131 : decode cX2_result 131 = .ok (.iload_n 2, 1) := by decide +kernel
theorem dX2_result_132 : decode cX2_result 132 = .ok (.bipush 31, 2) := by decide +kernel
theorem dX2_result_134 : decode cX2_result 134 = .ok (.iand, 1) := by decide +kernel
theorem dX2_result_135 : decode cX2_result 135 = .ok (.ishr, 1) := by decide +kernel
theorem dX2_result_136 : decode cX2_result 136 = .ok (.ireturn, 1) := by decide +kernel
theorem dX2_result_137 : decode cX2_result 137 = .ok (.iload_n 1, 1) := by decide +kernel
theorem dX2_result_138 : decode cX2_result 138 = .ok (.iload_n 2, 1) := by decide +kernel
theorem dX2_result_139 : decode cX2_result 139 = .ok (.if_icmp .ge 7, 3) := by decide +kernel
theorem dX2_result_142 : decode cX2_result 142 = .ok (.iconst 1, 1) := by decide +kernel
theorem dX2_result_143 : decode cX2_result 143 = .ok (.goto 4, 3) := by decide +kernel
theorem dX2_result_146 : decode cX2_result 146 = .ok (.iconst 0, 1) := by decide +kernel
theorem dX2_result_147 : decode cX2_result 147 = .ok (.ireturn, 1) := by decide +kernel
theorem dX2_result_148 : decode cX2_result 148 = .ok (.iload_n 1, 1) := by decide +kernel
theorem dX2_result_149 : decode cX2_result 149 = .ok (.iload_n 2, 1) := by decide +kernel
theorem dX2_result_150 : decode cX2_result 150 = .ok (.invokestatic 90, 3) := by decide +kernel
theorem dX2_result_153 : decode cX2_result 153 = .ok (.ifCond .eq 7, 3) := by decide +kernel
theorem dX2_result_156 : decode cX2_result 156 = .ok (.iconst 1, 1) := by decide +kernel
theorem dX2_result_157 : decode cX2_result 157 = .ok (.goto 4, 3) := by decide +kernel
theorem dX2_result_160 : decode cX2_result 160 = .ok (.iconst 0, 1) := by decide +kernel
theorem dX2_result_161 : decode cX2_result 161 = .ok (.ireturn, 1) := by decide +kernel
theorem dX2_result_162 : decode cX2_result 162 = .ok (.iload_n 1, 1) := by decide +kernel
theorem dX2_result_163 : decode cX2_result 163 = .ok (.iload_n 2, 1) := by decide +kernel
theorem dX2_result_164 : decode cX2_result 164 = .ok (.imul, 1) := by decide +kernel
theorem dX2_result_165 : decode cX2_result 165 = .ok (.ireturn, 1) := by decide +kernel
theorem cc_X2_result : Cond.code yX2_result cX2_result 3 (some .int) ∈ rf_tb := rf_at 1128 (by decide +kernel) (by decide +kernel)
theorem cw_RX2_90 : cl_wS RX2 yX2_isBelow cX2_isBelow 2 (some .boolean) 90 2 := ⟨⟨rf_at 1129 (by decide +kernel) (by decide +kernel), rf_at 1130 (by decide +kernel) (by decide +kernel), cc_X2_isBelow, rf_at 16 (by decide +kernel) (by decide +kernel)⟩, ⟨by decide, by decide, by decide +kernel⟩⟩
noncomputable def bc_X2_result_116 (x1 : Int32) (x2 : Int32) (σ : cl_S) : Option (Int32 × cl_S) := some ((x1 <<< ((x2 &&& (31:Int32)) &&& 31)), σ)
set_option maxHeartbeats 4000000 in
theorem wc_X2_result_116 (C : cl_C D p s m args meth c cX2_result 3 (some .int) RX2) {r : Int32} {x1 : Int32} {x2 : Int32} {σ0 σ σ' : cl_S} {T : Nat → Nat × Nat} {H : Heap} {locs : List Loc} {ls : Array Slot} {cells slots : Nat} (h : bc_X2_result_116 x1 x2 σ = some (r, σ')) (G : cl_G true D c0 ({ frames := 1, cells := σ0.2.2.2.2.2.1, slots := σ0.2.2.2.2.2.2, locals := 21 }) s σ0.2.2.2.1 T σ H locs cells slots) (hl : lv_has ls 3 [(1, .int x1), (2, .int x2)]) : W p l e ({ frames := 1, cells := σ0.2.2.2.2.2.1, slots := σ0.2.2.2.2.2.2, locals := 21 }) s m args below meth c H locs cells slots (MQ below (cl_Q true D c0 (some (.int r)) cl_no σ0 σ') args s (σ0.2.2.2.2.2.1 - σ'.2.2.2.2.2.1) (σ0.2.2.2.2.2.2 - σ'.2.2.2.2.2.2) (cl_A c0 σ0.2.2.2.1 s.heap.size)) (F0 m 116 ls []) := by
  unfold bc_X2_result_116 at h
  refine lv_iload_n C.1 C.2.1 dX2_result_116 rfl (lv_at hl 0 rfl) ?_
  refine lv_iload_n C.1 C.2.1 dX2_result_117 rfl (lv_at hl 1 rfl) ?_
  refine lv_bipush (v := (31:Int32)) C.1 C.2.1 dX2_result_118 (by decide) ?_
  refine lv_iand C.1 C.2.1 dX2_result_120 ?_
  refine lv_ishl C.1 C.2.1 dX2_result_121 ?_
  exact cl_iret ⟨rfl, rfl⟩ rfl C G h dX2_result_122
noncomputable def bc_X2_result_123 (x1 : Int32) (x2 : Int32) (σ : cl_S) : Option (Int32 × cl_S) := some ((x1.toUInt32 >>> ((x2 &&& (31:Int32)).toUInt32 &&& Int32.toUInt32 31)).toInt32, σ)
set_option maxHeartbeats 4000000 in
theorem wc_X2_result_123 (C : cl_C D p s m args meth c cX2_result 3 (some .int) RX2) {r : Int32} {x1 : Int32} {x2 : Int32} {σ0 σ σ' : cl_S} {T : Nat → Nat × Nat} {H : Heap} {locs : List Loc} {ls : Array Slot} {cells slots : Nat} (h : bc_X2_result_123 x1 x2 σ = some (r, σ')) (G : cl_G true D c0 ({ frames := 1, cells := σ0.2.2.2.2.2.1, slots := σ0.2.2.2.2.2.2, locals := 21 }) s σ0.2.2.2.1 T σ H locs cells slots) (hl : lv_has ls 3 [(1, .int x1), (2, .int x2)]) : W p l e ({ frames := 1, cells := σ0.2.2.2.2.2.1, slots := σ0.2.2.2.2.2.2, locals := 21 }) s m args below meth c H locs cells slots (MQ below (cl_Q true D c0 (some (.int r)) cl_no σ0 σ') args s (σ0.2.2.2.2.2.1 - σ'.2.2.2.2.2.1) (σ0.2.2.2.2.2.2 - σ'.2.2.2.2.2.2) (cl_A c0 σ0.2.2.2.1 s.heap.size)) (F0 m 123 ls []) := by
  unfold bc_X2_result_123 at h
  refine lv_iload_n C.1 C.2.1 dX2_result_123 rfl (lv_at hl 0 rfl) ?_
  refine lv_iload_n C.1 C.2.1 dX2_result_124 rfl (lv_at hl 1 rfl) ?_
  refine lv_bipush (v := (31:Int32)) C.1 C.2.1 dX2_result_125 (by decide) ?_
  refine lv_iand C.1 C.2.1 dX2_result_127 ?_
  refine lv_iushr C.1 C.2.1 dX2_result_128 rfl ?_
  exact cl_iret ⟨rfl, rfl⟩ rfl C G h dX2_result_129
noncomputable def bc_X2_result_130 (x1 : Int32) (x2 : Int32) (σ : cl_S) : Option (Int32 × cl_S) := some ((x1 >>> ((x2 &&& (31:Int32)) &&& 31)), σ)
set_option maxHeartbeats 4000000 in
theorem wc_X2_result_130 (C : cl_C D p s m args meth c cX2_result 3 (some .int) RX2) {r : Int32} {x1 : Int32} {x2 : Int32} {σ0 σ σ' : cl_S} {T : Nat → Nat × Nat} {H : Heap} {locs : List Loc} {ls : Array Slot} {cells slots : Nat} (h : bc_X2_result_130 x1 x2 σ = some (r, σ')) (G : cl_G true D c0 ({ frames := 1, cells := σ0.2.2.2.2.2.1, slots := σ0.2.2.2.2.2.2, locals := 21 }) s σ0.2.2.2.1 T σ H locs cells slots) (hl : lv_has ls 3 [(1, .int x1), (2, .int x2)]) : W p l e ({ frames := 1, cells := σ0.2.2.2.2.2.1, slots := σ0.2.2.2.2.2.2, locals := 21 }) s m args below meth c H locs cells slots (MQ below (cl_Q true D c0 (some (.int r)) cl_no σ0 σ') args s (σ0.2.2.2.2.2.1 - σ'.2.2.2.2.2.1) (σ0.2.2.2.2.2.2 - σ'.2.2.2.2.2.2) (cl_A c0 σ0.2.2.2.1 s.heap.size)) (F0 m 130 ls []) := by
  unfold bc_X2_result_130 at h
  refine lv_iload_n C.1 C.2.1 dX2_result_130 rfl (lv_at hl 0 rfl) ?_
  refine lv_iload_n C.1 C.2.1 dX2_result_131 rfl (lv_at hl 1 rfl) ?_
  refine lv_bipush (v := (31:Int32)) C.1 C.2.1 dX2_result_132 (by decide) ?_
  refine lv_iand C.1 C.2.1 dX2_result_134 ?_
  refine lv_ishr C.1 C.2.1 dX2_result_135 ?_
  exact cl_iret ⟨rfl, rfl⟩ rfl C G h dX2_result_136
noncomputable def bc_X2_result_137 (x1 : Int32) (x2 : Int32) (σ : cl_S) : Option (Int32 × cl_S) := (if x2 ≤ x1 then some ((0:Int32), σ) else some ((1:Int32), σ))
set_option maxHeartbeats 4000000 in
theorem wc_X2_result_137 (C : cl_C D p s m args meth c cX2_result 3 (some .int) RX2) {r : Int32} {x1 : Int32} {x2 : Int32} {σ0 σ σ' : cl_S} {T : Nat → Nat × Nat} {H : Heap} {locs : List Loc} {ls : Array Slot} {cells slots : Nat} (h : bc_X2_result_137 x1 x2 σ = some (r, σ')) (G : cl_G true D c0 ({ frames := 1, cells := σ0.2.2.2.2.2.1, slots := σ0.2.2.2.2.2.2, locals := 21 }) s σ0.2.2.2.1 T σ H locs cells slots) (hl : lv_has ls 3 [(1, .int x1), (2, .int x2)]) : W p l e ({ frames := 1, cells := σ0.2.2.2.2.2.1, slots := σ0.2.2.2.2.2.2, locals := 21 }) s m args below meth c H locs cells slots (MQ below (cl_Q true D c0 (some (.int r)) cl_no σ0 σ') args s (σ0.2.2.2.2.2.1 - σ'.2.2.2.2.2.1) (σ0.2.2.2.2.2.2 - σ'.2.2.2.2.2.2) (cl_A c0 σ0.2.2.2.1 s.heap.size)) (F0 m 137 ls []) := by
  unfold bc_X2_result_137 at h
  refine lv_iload_n C.1 C.2.1 dX2_result_137 rfl (lv_at hl 0 rfl) ?_
  refine lv_iload_n C.1 C.2.1 dX2_result_138 rfl (lv_at hl 1 rfl) ?_
  refine lv_icmp_ge (tgt := 146) C.1 C.2.1 dX2_result_139 (by decide) (fun hc => ?_) (fun hc => ?_)
  · rw [if_pos hc] at h
    refine lv_iconst (v := (0:Int32)) C.1 C.2.1 dX2_result_146 (by decide) ?_
    exact cl_iret ⟨rfl, rfl⟩ rfl C G h dX2_result_147
  · rw [if_neg hc] at h
    refine lv_iconst (v := (1:Int32)) C.1 C.2.1 dX2_result_142 (by decide) ?_
    refine lv_goto (tgt := 147) C.1 C.2.1 dX2_result_143 (by decide) ?_
    exact cl_iret ⟨rfl, rfl⟩ rfl C G h dX2_result_147
noncomputable def bc_X2_result_148 (x1 : Int32) (x2 : Int32) (σ : cl_S) : Option (Int32 × cl_S) := bd2 (fc_X2_isBelow x1 x2 σ) (fun r_2 σ_1 => (if r_2 = 0 then some ((0:Int32), σ_1) else some ((1:Int32), σ_1)))
set_option maxHeartbeats 4000000 in
theorem wc_X2_result_148 (C : cl_C D p s m args meth c cX2_result 3 (some .int) RX2) {r : Int32} {x1 : Int32} {x2 : Int32} {σ0 σ σ' : cl_S} {T : Nat → Nat × Nat} {H : Heap} {locs : List Loc} {ls : Array Slot} {cells slots : Nat} (h : bc_X2_result_148 x1 x2 σ = some (r, σ')) (G : cl_G true D c0 ({ frames := 1, cells := σ0.2.2.2.2.2.1, slots := σ0.2.2.2.2.2.2, locals := 21 }) s σ0.2.2.2.1 T σ H locs cells slots) (hl : lv_has ls 3 [(1, .int x1), (2, .int x2)]) : W p l e ({ frames := 1, cells := σ0.2.2.2.2.2.1, slots := σ0.2.2.2.2.2.2, locals := 21 }) s m args below meth c H locs cells slots (MQ below (cl_Q true D c0 (some (.int r)) cl_no σ0 σ') args s (σ0.2.2.2.2.2.1 - σ'.2.2.2.2.2.1) (σ0.2.2.2.2.2.2 - σ'.2.2.2.2.2.2) (cl_A c0 σ0.2.2.2.1 s.heap.size)) (F0 m 148 ls []) := by
  unfold bc_X2_result_148 at h
  refine lv_iload_n C.1 C.2.1 dX2_result_148 rfl (lv_at hl 0 rfl) ?_
  refine lv_iload_n C.1 C.2.1 dX2_result_149 rfl (lv_at hl 1 rfl) ?_
  obtain ⟨r_2, σ_1, hq, h_3⟩ := bd2_some h
  refine cl_callS (rest := []) C G cw_RX2_90 [.int x1, .int x2] _ (kc_X2_isBelow l D c0 hq) (Nat.le_of_ble_eq_true rfl) (Nat.le_of_ble_eq_true rfl) rfl rfl hl.1 (Nat.le_of_ble_eq_true rfl) dX2_result_150 (fun T_4 H locs cells slots t_5 hu G_6 => ?_)
  refine W.eq (g2 := F0 m 153 ls [.int r_2]) rfl ?_
  refine lv_if_eq (tgt := 160) C.1 C.2.1 dX2_result_153 (by decide) (fun hc => ?_) (fun hc => ?_)
  · rw [if_pos hc] at h_3
    refine lv_iconst (v := (0:Int32)) C.1 C.2.1 dX2_result_160 (by decide) ?_
    exact cl_iret ⟨rfl, rfl⟩ rfl C G_6 h_3 dX2_result_161
  · rw [if_neg hc] at h_3
    refine lv_iconst (v := (1:Int32)) C.1 C.2.1 dX2_result_156 (by decide) ?_
    refine lv_goto (tgt := 161) C.1 C.2.1 dX2_result_157 (by decide) ?_
    exact cl_iret ⟨rfl, rfl⟩ rfl C G_6 h_3 dX2_result_161
noncomputable def bc_X2_result_0 (x0 : Int32) (x1 : Int32) (x2 : Int32) (σ : cl_S) : Option (Int32 × cl_S) := (if x0 = (1:Int32) then some ((x1 + x2), σ) else if x0 = (2:Int32) then some ((x1 - x2), σ) else if x0 = (3:Int32) then some ((x1 &&& x2), σ) else if x0 = (4:Int32) then some ((x1 ||| x2), σ) else if x0 = (5:Int32) then some ((x1 ^^^ x2), σ) else if x0 = (6:Int32) then bc_X2_result_116 x1 x2 σ else if x0 = (7:Int32) then bc_X2_result_123 x1 x2 σ else if x0 = (8:Int32) then bc_X2_result_130 x1 x2 σ else if x0 = (9:Int32) then bc_X2_result_137 x1 x2 σ else if x0 = (10:Int32) then bc_X2_result_148 x1 x2 σ else if x0 = (12:Int32) then some ((x1 + x2), σ) else if x0 = (13:Int32) then some ((x1 &&& x2), σ) else if x0 = (14:Int32) then some ((x1 ||| x2), σ) else if x0 = (15:Int32) then some ((x1 ^^^ x2), σ) else if x0 = (16:Int32) then bc_X2_result_116 x1 x2 σ else if x0 = (17:Int32) then bc_X2_result_123 x1 x2 σ else if x0 = (18:Int32) then bc_X2_result_130 x1 x2 σ else if x0 = (19:Int32) then bc_X2_result_137 x1 x2 σ else if x0 = (20:Int32) then bc_X2_result_148 x1 x2 σ else some ((x1 * x2), σ))
set_option maxHeartbeats 4000000 in
theorem wc_X2_result_0 (C : cl_C D p s m args meth c cX2_result 3 (some .int) RX2) {r : Int32} {x0 : Int32} {x1 : Int32} {x2 : Int32} {σ0 σ σ' : cl_S} {T : Nat → Nat × Nat} {H : Heap} {locs : List Loc} {ls : Array Slot} {cells slots : Nat} (h : bc_X2_result_0 x0 x1 x2 σ = some (r, σ')) (G : cl_G true D c0 ({ frames := 1, cells := σ0.2.2.2.2.2.1, slots := σ0.2.2.2.2.2.2, locals := 21 }) s σ0.2.2.2.1 T σ H locs cells slots) (hl : lv_has ls 3 [(0, .int x0), (1, .int x1), (2, .int x2)]) : W p l e ({ frames := 1, cells := σ0.2.2.2.2.2.1, slots := σ0.2.2.2.2.2.2, locals := 21 }) s m args below meth c H locs cells slots (MQ below (cl_Q true D c0 (some (.int r)) cl_no σ0 σ') args s (σ0.2.2.2.2.2.1 - σ'.2.2.2.2.2.1) (σ0.2.2.2.2.2.2 - σ'.2.2.2.2.2.2) (cl_A c0 σ0.2.2.2.1 s.heap.size)) (F0 m 0 ls []) := by
  unfold bc_X2_result_0 at h
  refine lv_iload_n C.1 C.2.1 dX2_result_0 rfl (lv_at hl 0 rfl) ?_
  by_cases hk1 : x0 = (1:Int32)
  · rw [if_pos hk1] at h
    refine lv_tableIn (tgt := 96) C.1 C.2.1 dX2_result_1 (by rw [hk1]; decide) (by rw [hk1]; decide) (by rw [hk1]; rfl) (by decide) ?_
    refine lv_iload_n C.1 C.2.1 dX2_result_96 rfl (lv_at hl 1 rfl) ?_
    refine lv_iload_n C.1 C.2.1 dX2_result_97 rfl (lv_at hl 2 rfl) ?_
    refine lv_iadd C.1 C.2.1 dX2_result_98 ?_
    exact cl_iret ⟨rfl, rfl⟩ rfl C G h dX2_result_99
  rw [if_neg hk1] at h
  by_cases hk2 : x0 = (2:Int32)
  · rw [if_pos hk2] at h
    refine lv_tableIn (tgt := 100) C.1 C.2.1 dX2_result_1 (by rw [hk2]; decide) (by rw [hk2]; decide) (by rw [hk2]; rfl) (by decide) ?_
    refine lv_iload_n C.1 C.2.1 dX2_result_100 rfl (lv_at hl 1 rfl) ?_
    refine lv_iload_n C.1 C.2.1 dX2_result_101 rfl (lv_at hl 2 rfl) ?_
    refine lv_isub C.1 C.2.1 dX2_result_102 ?_
    exact cl_iret ⟨rfl, rfl⟩ rfl C G h dX2_result_103
  rw [if_neg hk2] at h
  by_cases hk3 : x0 = (3:Int32)
  · rw [if_pos hk3] at h
    refine lv_tableIn (tgt := 104) C.1 C.2.1 dX2_result_1 (by rw [hk3]; decide) (by rw [hk3]; decide) (by rw [hk3]; rfl) (by decide) ?_
    refine lv_iload_n C.1 C.2.1 dX2_result_104 rfl (lv_at hl 1 rfl) ?_
    refine lv_iload_n C.1 C.2.1 dX2_result_105 rfl (lv_at hl 2 rfl) ?_
    refine lv_iand C.1 C.2.1 dX2_result_106 ?_
    exact cl_iret ⟨rfl, rfl⟩ rfl C G h dX2_result_107
  rw [if_neg hk3] at h
  by_cases hk4 : x0 = (4:Int32)
  · rw [if_pos hk4] at h
    refine lv_tableIn (tgt := 108) C.1 C.2.1 dX2_result_1 (by rw [hk4]; decide) (by rw [hk4]; decide) (by rw [hk4]; rfl) (by decide) ?_
    refine lv_iload_n C.1 C.2.1 dX2_result_108 rfl (lv_at hl 1 rfl) ?_
    refine lv_iload_n C.1 C.2.1 dX2_result_109 rfl (lv_at hl 2 rfl) ?_
    refine lv_ior C.1 C.2.1 dX2_result_110 ?_
    exact cl_iret ⟨rfl, rfl⟩ rfl C G h dX2_result_111
  rw [if_neg hk4] at h
  by_cases hk5 : x0 = (5:Int32)
  · rw [if_pos hk5] at h
    refine lv_tableIn (tgt := 112) C.1 C.2.1 dX2_result_1 (by rw [hk5]; decide) (by rw [hk5]; decide) (by rw [hk5]; rfl) (by decide) ?_
    refine lv_iload_n C.1 C.2.1 dX2_result_112 rfl (lv_at hl 1 rfl) ?_
    refine lv_iload_n C.1 C.2.1 dX2_result_113 rfl (lv_at hl 2 rfl) ?_
    refine lv_ixor C.1 C.2.1 dX2_result_114 ?_
    exact cl_iret ⟨rfl, rfl⟩ rfl C G h dX2_result_115
  rw [if_neg hk5] at h
  by_cases hk6 : x0 = (6:Int32)
  · rw [if_pos hk6] at h
    refine lv_tableIn (tgt := 116) C.1 C.2.1 dX2_result_1 (by rw [hk6]; decide) (by rw [hk6]; decide) (by rw [hk6]; rfl) (by decide) ?_
    exact wc_X2_result_116 C h G (lv_sub hl [1, 2] rfl)
  rw [if_neg hk6] at h
  by_cases hk7 : x0 = (7:Int32)
  · rw [if_pos hk7] at h
    refine lv_tableIn (tgt := 123) C.1 C.2.1 dX2_result_1 (by rw [hk7]; decide) (by rw [hk7]; decide) (by rw [hk7]; rfl) (by decide) ?_
    exact wc_X2_result_123 C h G (lv_sub hl [1, 2] rfl)
  rw [if_neg hk7] at h
  by_cases hk8 : x0 = (8:Int32)
  · rw [if_pos hk8] at h
    refine lv_tableIn (tgt := 130) C.1 C.2.1 dX2_result_1 (by rw [hk8]; decide) (by rw [hk8]; decide) (by rw [hk8]; rfl) (by decide) ?_
    exact wc_X2_result_130 C h G (lv_sub hl [1, 2] rfl)
  rw [if_neg hk8] at h
  by_cases hk9 : x0 = (9:Int32)
  · rw [if_pos hk9] at h
    refine lv_tableIn (tgt := 137) C.1 C.2.1 dX2_result_1 (by rw [hk9]; decide) (by rw [hk9]; decide) (by rw [hk9]; rfl) (by decide) ?_
    exact wc_X2_result_137 C h G (lv_sub hl [1, 2] rfl)
  rw [if_neg hk9] at h
  by_cases hk10 : x0 = (10:Int32)
  · rw [if_pos hk10] at h
    refine lv_tableIn (tgt := 148) C.1 C.2.1 dX2_result_1 (by rw [hk10]; decide) (by rw [hk10]; decide) (by rw [hk10]; rfl) (by decide) ?_
    exact wc_X2_result_148 C h G (lv_sub hl [1, 2] rfl)
  rw [if_neg hk10] at h
  by_cases hk12 : x0 = (12:Int32)
  · rw [if_pos hk12] at h
    refine lv_tableIn (tgt := 96) C.1 C.2.1 dX2_result_1 (by rw [hk12]; decide) (by rw [hk12]; decide) (by rw [hk12]; rfl) (by decide) ?_
    refine lv_iload_n C.1 C.2.1 dX2_result_96 rfl (lv_at hl 1 rfl) ?_
    refine lv_iload_n C.1 C.2.1 dX2_result_97 rfl (lv_at hl 2 rfl) ?_
    refine lv_iadd C.1 C.2.1 dX2_result_98 ?_
    exact cl_iret ⟨rfl, rfl⟩ rfl C G h dX2_result_99
  rw [if_neg hk12] at h
  by_cases hk13 : x0 = (13:Int32)
  · rw [if_pos hk13] at h
    refine lv_tableIn (tgt := 104) C.1 C.2.1 dX2_result_1 (by rw [hk13]; decide) (by rw [hk13]; decide) (by rw [hk13]; rfl) (by decide) ?_
    refine lv_iload_n C.1 C.2.1 dX2_result_104 rfl (lv_at hl 1 rfl) ?_
    refine lv_iload_n C.1 C.2.1 dX2_result_105 rfl (lv_at hl 2 rfl) ?_
    refine lv_iand C.1 C.2.1 dX2_result_106 ?_
    exact cl_iret ⟨rfl, rfl⟩ rfl C G h dX2_result_107
  rw [if_neg hk13] at h
  by_cases hk14 : x0 = (14:Int32)
  · rw [if_pos hk14] at h
    refine lv_tableIn (tgt := 108) C.1 C.2.1 dX2_result_1 (by rw [hk14]; decide) (by rw [hk14]; decide) (by rw [hk14]; rfl) (by decide) ?_
    refine lv_iload_n C.1 C.2.1 dX2_result_108 rfl (lv_at hl 1 rfl) ?_
    refine lv_iload_n C.1 C.2.1 dX2_result_109 rfl (lv_at hl 2 rfl) ?_
    refine lv_ior C.1 C.2.1 dX2_result_110 ?_
    exact cl_iret ⟨rfl, rfl⟩ rfl C G h dX2_result_111
  rw [if_neg hk14] at h
  by_cases hk15 : x0 = (15:Int32)
  · rw [if_pos hk15] at h
    refine lv_tableIn (tgt := 112) C.1 C.2.1 dX2_result_1 (by rw [hk15]; decide) (by rw [hk15]; decide) (by rw [hk15]; rfl) (by decide) ?_
    refine lv_iload_n C.1 C.2.1 dX2_result_112 rfl (lv_at hl 1 rfl) ?_
    refine lv_iload_n C.1 C.2.1 dX2_result_113 rfl (lv_at hl 2 rfl) ?_
    refine lv_ixor C.1 C.2.1 dX2_result_114 ?_
    exact cl_iret ⟨rfl, rfl⟩ rfl C G h dX2_result_115
  rw [if_neg hk15] at h
  by_cases hk16 : x0 = (16:Int32)
  · rw [if_pos hk16] at h
    refine lv_tableIn (tgt := 116) C.1 C.2.1 dX2_result_1 (by rw [hk16]; decide) (by rw [hk16]; decide) (by rw [hk16]; rfl) (by decide) ?_
    exact wc_X2_result_116 C h G (lv_sub hl [1, 2] rfl)
  rw [if_neg hk16] at h
  by_cases hk17 : x0 = (17:Int32)
  · rw [if_pos hk17] at h
    refine lv_tableIn (tgt := 123) C.1 C.2.1 dX2_result_1 (by rw [hk17]; decide) (by rw [hk17]; decide) (by rw [hk17]; rfl) (by decide) ?_
    exact wc_X2_result_123 C h G (lv_sub hl [1, 2] rfl)
  rw [if_neg hk17] at h
  by_cases hk18 : x0 = (18:Int32)
  · rw [if_pos hk18] at h
    refine lv_tableIn (tgt := 130) C.1 C.2.1 dX2_result_1 (by rw [hk18]; decide) (by rw [hk18]; decide) (by rw [hk18]; rfl) (by decide) ?_
    exact wc_X2_result_130 C h G (lv_sub hl [1, 2] rfl)
  rw [if_neg hk18] at h
  by_cases hk19 : x0 = (19:Int32)
  · rw [if_pos hk19] at h
    refine lv_tableIn (tgt := 137) C.1 C.2.1 dX2_result_1 (by rw [hk19]; decide) (by rw [hk19]; decide) (by rw [hk19]; rfl) (by decide) ?_
    exact wc_X2_result_137 C h G (lv_sub hl [1, 2] rfl)
  rw [if_neg hk19] at h
  by_cases hk20 : x0 = (20:Int32)
  · rw [if_pos hk20] at h
    refine lv_tableIn (tgt := 148) C.1 C.2.1 dX2_result_1 (by rw [hk20]; decide) (by rw [hk20]; decide) (by rw [hk20]; rfl) (by decide) ?_
    exact wc_X2_result_148 C h G (lv_sub hl [1, 2] rfl)
  rw [if_neg hk20] at h
  by_cases hk11 : x0 = (11:Int32)
  · refine lv_tableIn (tgt := 162) C.1 C.2.1 dX2_result_1 (by rw [hk11]; decide) (by rw [hk11]; decide) (by rw [hk11]; rfl) (by decide) ?_
    refine lv_iload_n C.1 C.2.1 dX2_result_162 rfl (lv_at hl 1 rfl) ?_
    refine lv_iload_n C.1 C.2.1 dX2_result_163 rfl (lv_at hl 2 rfl) ?_
    refine lv_imul C.1 C.2.1 dX2_result_164 ?_
    exact cl_iret ⟨rfl, rfl⟩ rfl C G h dX2_result_165
  refine lv_tableOut (tgt := 162) C.1 C.2.1 dX2_result_1 ?_ (by decide) ?_
  · rcases Int.lt_or_le x0.toInt 1 with q | q
    · exact Or.inl q
    · rcases Int.lt_or_le 20 x0.toInt with q2 | q2
      · exact Or.inr q2
      · exfalso
        have hd : x0.toInt = (1 : Int) ∨ x0.toInt = (2 : Int) ∨ x0.toInt = (3 : Int) ∨ x0.toInt = (4 : Int) ∨ x0.toInt = (5 : Int) ∨ x0.toInt = (6 : Int) ∨ x0.toInt = (7 : Int) ∨ x0.toInt = (8 : Int) ∨ x0.toInt = (9 : Int) ∨ x0.toInt = (10 : Int) ∨ x0.toInt = (11 : Int) ∨ x0.toInt = (12 : Int) ∨ x0.toInt = (13 : Int) ∨ x0.toInt = (14 : Int) ∨ x0.toInt = (15 : Int) ∨ x0.toInt = (16 : Int) ∨ x0.toInt = (17 : Int) ∨ x0.toInt = (18 : Int) ∨ x0.toInt = (19 : Int) ∨ x0.toInt = (20 : Int) := by omega
        rcases hd with e | e | e | e | e | e | e | e | e | e | e | e | e | e | e | e | e | e | e | e
        · exact hk1 (Int32.toInt_inj.mp (e.trans (by decide)))
        · exact hk2 (Int32.toInt_inj.mp (e.trans (by decide)))
        · exact hk3 (Int32.toInt_inj.mp (e.trans (by decide)))
        · exact hk4 (Int32.toInt_inj.mp (e.trans (by decide)))
        · exact hk5 (Int32.toInt_inj.mp (e.trans (by decide)))
        · exact hk6 (Int32.toInt_inj.mp (e.trans (by decide)))
        · exact hk7 (Int32.toInt_inj.mp (e.trans (by decide)))
        · exact hk8 (Int32.toInt_inj.mp (e.trans (by decide)))
        · exact hk9 (Int32.toInt_inj.mp (e.trans (by decide)))
        · exact hk10 (Int32.toInt_inj.mp (e.trans (by decide)))
        · exact hk11 (Int32.toInt_inj.mp (e.trans (by decide)))
        · exact hk12 (Int32.toInt_inj.mp (e.trans (by decide)))
        · exact hk13 (Int32.toInt_inj.mp (e.trans (by decide)))
        · exact hk14 (Int32.toInt_inj.mp (e.trans (by decide)))
        · exact hk15 (Int32.toInt_inj.mp (e.trans (by decide)))
        · exact hk16 (Int32.toInt_inj.mp (e.trans (by decide)))
        · exact hk17 (Int32.toInt_inj.mp (e.trans (by decide)))
        · exact hk18 (Int32.toInt_inj.mp (e.trans (by decide)))
        · exact hk19 (Int32.toInt_inj.mp (e.trans (by decide)))
        · exact hk20 (Int32.toInt_inj.mp (e.trans (by decide)))
  · refine lv_iload_n C.1 C.2.1 dX2_result_162 rfl (lv_at hl 1 rfl) ?_
    refine lv_iload_n C.1 C.2.1 dX2_result_163 rfl (lv_at hl 2 rfl) ?_
    refine lv_imul C.1 C.2.1 dX2_result_164 ?_
    exact cl_iret ⟨rfl, rfl⟩ rfl C G h dX2_result_165
noncomputable def fc_X2_result (x0 : Int32) (x1 : Int32) (x2 : Int32) (σ : cl_S) : Option (Int32 × cl_S) := bc_X2_result_0 x0 x1 x2 σ
theorem kc_X2_result (l : Launch) (D : cl_D) (c0 : Nat) {r : Int32} {x0 : Int32} {x1 : Int32} {x2 : Int32} {σ σ' : cl_S} (h : fc_X2_result x0 x1 x2 σ = some (r, σ')) : cl_Met true l D c0 yX2_result cX2_result 3 (some .int) 1 21 [.int x0, .int x1, .int x2] σ (some (.int r)) cl_no σ' :=
  cl_of (by decide) (Nat.le_of_ble_eq_true rfl) (fun p e s m args below meth c ls C hn G hl => wc_X2_result_0 C h G  hl)
abbrev cX2_write : ByteArray := prog_4_method_9_code
def yX2_write : MethodName := ⟨RX2, "write", "(II)V"⟩
theorem dX2_write_0 : decode cX2_write 0 = .ok (.iload_n 1, 1) := by decide +kernel
theorem dX2_write_1 : decode cX2_write 1 = .ok (.ifCond .eq 10, 3) := by decide +kernel
theorem dX2_write_4 : decode cX2_write 4 = .ok (.aload_n 0, 1) := by decide +kernel
theorem dX2_write_5 : decode cX2_write 5 = .ok (.getfield 15, 3) := by decide +kernel
theorem dX2_write_8 : decode cX2_write 8 = .ok (.iload_n 1, 1) := by decide +kernel
theorem dX2_write_9 : decode cX2_write 9 = .ok (.iload_n 2, 1) := by decide +kernel
theorem dX2_write_10 : decode cX2_write 10 = .ok (.iastore, 1) := by decide +kernel
theorem dX2_write_11 : decode cX2_write 11 = .ok (.return_, 1) := by decide +kernel
theorem cc_X2_write : Cond.code yX2_write cX2_write 3 none ∈ rf_tb := rf_at 1136 (by decide +kernel) (by decide +kernel)
noncomputable def bc_X2_write_0 (a : Nat) (x1 : Int32) (x2 : Int32) (σ : cl_S) : Option (cl_S) := (if x1 = 0 then some σ else ix x1 16 (vl (cl_w σ (a + 2) x1.toNatClampNeg x2) (fun σ_2 => some σ_2)))
set_option maxHeartbeats 4000000 in
theorem wc_X2_write_0 (C : cl_C D p s m args meth c cX2_write 3 none RX2) {a : Nat} {x1 : Int32} {x2 : Int32} {σ0 σ σ' : cl_S} {T : Nat → Nat × Nat} {H : Heap} {locs : List Loc} {ls : Array Slot} {cells slots : Nat} (h : bc_X2_write_0 a x1 x2 σ = some σ') (G : cl_G true D c0 ({ frames := 0, cells := σ0.2.2.2.2.2.1, slots := σ0.2.2.2.2.2.2, locals := 0 }) s σ0.2.2.2.1 T σ H locs cells slots) (ha : (T a).1 = 18) (hl : lv_has ls 3 [(0, .ref (c0 + a)), (1, .int x1), (2, .int x2)]) : W p l e ({ frames := 0, cells := σ0.2.2.2.2.2.1, slots := σ0.2.2.2.2.2.2, locals := 0 }) s m args below meth c H locs cells slots (MQ below (cl_Q true D c0 none cl_no σ0 σ') args s (σ0.2.2.2.2.2.1 - σ'.2.2.2.2.2.1) (σ0.2.2.2.2.2.2 - σ'.2.2.2.2.2.2) (cl_A c0 σ0.2.2.2.1 s.heap.size)) (F0 m 0 ls []) := by
  unfold bc_X2_write_0 at h
  refine lv_iload_n C.1 C.2.1 dX2_write_0 rfl (lv_at hl 1 rfl) ?_
  refine lv_if_eq (tgt := 11) C.1 C.2.1 dX2_write_1 (by decide) (fun hc => ?_) (fun hc => ?_)
  · rw [if_pos hc] at h
    exact cl_vret ⟨rfl, rfl⟩ rfl C G h dX2_write_11
  · rw [if_neg hc] at h
    refine lv_aload_n C.1 C.2.1 dX2_write_4 rfl (lv_at hl 0 rfl) ?_
    refine cg_2_15 C G ha dX2_write_5 (fun t_1 => ?_)
    refine lv_iload_n C.1 C.2.1 dX2_write_8 rfl (lv_at hl 1 rfl) ?_
    refine lv_iload_n C.1 C.2.1 dX2_write_9 rfl (lv_at hl 2 rfl) ?_
    obtain ⟨hi, h_3⟩ := ix_some h
    refine cl_iast C G t_1 hi dX2_write_10 (fun H locs G_4 => ?_)
    refine cl_nm G_4 h_3 (fun σ_2 G_5 h_6 => ?_)
    exact cl_vret ⟨rfl, rfl⟩ rfl C G_5 h_6 dX2_write_11
noncomputable def fc_X2_write (a : Nat) (x1 : Int32) (x2 : Int32) (σ : cl_S) : Option (cl_S) := bc_X2_write_0 a x1 x2 σ
theorem kc_X2_write (l : Launch) (D : cl_D) (c0 : Nat) {a : Nat} {x1 : Int32} {x2 : Int32} {σ σ' : cl_S} (ha : (σ.2.2.2.1 a).1 = 18) (h : fc_X2_write a x1 x2 σ = some σ') : cl_Met true l D c0 yX2_write cX2_write 3 none 0 0 [.ref (c0 + a), .int x1, .int x2] σ none cl_no σ' :=
  cl_of (by decide) (Nat.le_of_ble_eq_true rfl) (fun p e s m args below meth c ls C hn G hl => wc_X2_write_0 C h G ha hl)
end CQ4
