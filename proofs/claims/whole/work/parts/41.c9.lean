section CQ8
variable {p : Program} {l : Launch} {e : Env} {s : State} {m : MethodId} {args : Array Value} {below : List Frame} {meth : Method} {c : Code} {D : cl_D} {c0 : Nat}
abbrev cX5_receive : ByteArray := prog_7_method_16_code
def yX5_receive : MethodName := ⟨RX5, "receive", "(LPartHouse$Partition;I)I"⟩
theorem dX5_receive_0 : decode cX5_receive 0 = .ok (.aload_n 0, 1) := by decide +kernel
theorem dX5_receive_1 : decode cX5_receive 1 = .ok (.aload_n 1, 1) := by decide +kernel
theorem dX5_receive_2 : decode cX5_receive 2 = .ok (.iload_n 2, 1) := by decide +kernel
theorem dX5_receive_3 : decode cX5_receive 3 = .ok (.invokevirtual 332, 3) := by decide +kernel
theorem dX5_receive_6 : decode cX5_receive 6 = .ok (.ifCond .ne 5, 3) := by decide +kernel
theorem dX5_receive_9 : decode cX5_receive 9 = .ok (.iconst (-1), 1) := by decide +kernel
theorem dX5_receive_10 : decode cX5_receive 10 = .ok (.ireturn, 1) := by decide +kernel
theorem dX5_receive_11 : decode cX5_receive 11 = .ok (.aload_n 1, 1) := by decide +kernel
theorem dX5_receive_12 : decode cX5_receive 12 = .ok (.getfield 121, 3) := by decide +kernel
theorem dX5_receive_15 : decode cX5_receive 15 = .ok (.getfield 193, 3) := by decide +kernel
theorem dX5_receive_18 : decode cX5_receive 18 = .ok (.iconst 2, 1) := by decide +kernel
theorem dX5_receive_19 : decode cX5_receive 19 = .ok (.iaload, 1) := by decide +kernel
theorem dX5_receive_20 : decode cX5_receive 20 = .ok (.istore_n 3, 1) := by decide +kernel
theorem dX5_receive_21 : decode cX5_receive 21 = .ok (.aload_n 1, 1) := by decide +kernel
theorem dX5_receive_22 : decode cX5_receive 22 = .ok (.getfield 121, 3) := by decide +kernel
theorem dX5_receive_25 : decode cX5_receive 25 = .ok (.iload_n 3, 1) := by decide +kernel
theorem dX5_receive_26 : decode cX5_receive 26 = .ok (.aload_n 0, 1) := by decide +kernel
theorem dX5_receive_27 : decode cX5_receive 27 = .ok (.getfield 12, 3) := by decide +kernel
theorem dX5_receive_30 : decode cX5_receive 30 = .ok (.getfield 316, 3) := by decide +kernel
theorem dX5_receive_33 : decode cX5_receive 33 = .ok (.iload_n 2, 1) := by decide +kernel
theorem dX5_receive_34 : decode cX5_receive 34 = .ok (.iaload, 1) := by decide +kernel
theorem dX5_receive_35 : decode cX5_receive 35 = .ok (.invokevirtual 319, 3) := by decide +kernel
theorem dX5_receive_38 : decode cX5_receive 38 = .ok (.ifCond .ne 6, 3) := by decide +kernel
theorem dX5_receive_41 : decode cX5_receive 41 = .ok (.bipush (-2), 2) := by decide +kernel
theorem dX5_receive_43 : decode cX5_receive 43 = .ok (.ireturn, 1) := by decide +kernel
theorem dX5_receive_44 : decode cX5_receive 44 = .ok (.aload_n 0, 1) := by decide +kernel
theorem dX5_receive_45 : decode cX5_receive 45 = .ok (.getfield 26, 3) := by decide +kernel
theorem dX5_receive_48 : decode cX5_receive 48 = .ok (.iload_n 2, 1) := by decide +kernel
theorem dX5_receive_49 : decode cX5_receive 49 = .ok (.aaload, 1) := by decide +kernel
theorem dX5_receive_50 : decode cX5_receive 50 = .ok (.iconst 0, 1) := by decide +kernel
theorem dX5_receive_51 : decode cX5_receive 51 = .ok (.aload_n 1, 1) := by decide +kernel
theorem dX5_receive_52 : decode cX5_receive 52 = .ok (.getfield 121, 3) := by decide +kernel
theorem dX5_receive_55 : decode cX5_receive 55 = .ok (.getfield 323, 3) := by decide +kernel
theorem dX5_receive_58 : decode cX5_receive 58 = .ok (.iload_n 3, 1) := by decide +kernel
theorem dX5_receive_59 : decode cX5_receive 59 = .ok (.iconst 2, 1) := by decide +kernel
theorem dX5_receive_60 : decode cX5_receive 60 = .ok (.ishr, 1) := by decide +kernel
theorem dX5_receive_61 : decode cX5_receive 61 = .ok (.aload_n 0, 1) := by decide +kernel
theorem dX5_receive_62 : decode cX5_receive 62 = .ok (.getfield 12, 3) := by decide +kernel
theorem dX5_receive_65 : decode cX5_receive 65 = .ok (.getfield 316, 3) := by decide +kernel
theorem dX5_receive_68 : decode cX5_receive 68 = .ok (.iload_n 2, 1) := by decide +kernel
theorem dX5_receive_69 : decode cX5_receive 69 = .ok (.iaload, 1) := by decide +kernel
theorem dX5_receive_70 : decode cX5_receive 70 = .ok (.invokestatic 326, 3) := by decide +kernel
theorem dX5_receive_73 : decode cX5_receive 73 = .ok (.aload_n 0, 1) := by decide +kernel
theorem dX5_receive_74 : decode cX5_receive 74 = .ok (.getfield 29, 3) := by decide +kernel
theorem dX5_receive_77 : decode cX5_receive 77 = .ok (.iload_n 2, 1) := by decide +kernel
theorem dX5_receive_78 : decode cX5_receive 78 = .ok (.iaload, 1) := by decide +kernel
theorem dX5_receive_79 : decode cX5_receive 79 = .ok (.istore 4, 2) := by decide +kernel
theorem dX5_receive_81 : decode cX5_receive 81 = .ok (.aload_n 0, 1) := by decide +kernel
theorem dX5_receive_82 : decode cX5_receive 82 = .ok (.getfield 29, 3) := by decide +kernel
theorem dX5_receive_85 : decode cX5_receive 85 = .ok (.iload_n 2, 1) := by decide +kernel
theorem dX5_receive_86 : decode cX5_receive 86 = .ok (.iconst 0, 1) := by decide +kernel
theorem dX5_receive_87 : decode cX5_receive 87 = .ok (.iastore, 1) := by decide +kernel
theorem dX5_receive_88 : decode cX5_receive 88 = .ok (.iload 4, 2) := by decide +kernel
theorem dX5_receive_90 : decode cX5_receive 90 = .ok (.ireturn, 1) := by decide +kernel
theorem cc_X5_receive : Cond.code yX5_receive cX5_receive 5 (some .int) ∈ rf_tb := rf_at 1199 (by decide +kernel) (by decide +kernel)
theorem cw_RX5_332 : cl_wV RX5 RX5 yX5_isTo cX5_isTo 3 (some .boolean) 332 2 := ⟨⟨rf_at 1200 (by decide +kernel) (by decide +kernel), rf_at 1202 (by decide +kernel) (by decide +kernel), rf_sel (q := (yX5_isTo, 20)) 46 (by decide +kernel) (by decide +kernel), cc_X5_isTo, rf_at 13 (by decide +kernel) (by decide +kernel)⟩, ⟨by decide, by decide, by decide +kernel⟩⟩
noncomputable def bc_X5_receive_0 (a : Nat) (x1 : (Option Nat)) (x2 : Int32) (σ : cl_S) : Option (Int32 × cl_S) := bd2 (fc_X5_isTo a x1 x2 σ) (fun r_2 σ_1 => (if r_2 = 0 then some ((-1:Int32), σ_1) else nn x1 (fun a_7 => ix (2:Int32) 16 (vl (σ_1.1 ((a_7 + 1) + 2) (2:Int32).toNatClampNeg) (fun x3_13 => vl (σ_1.2.2.1 a 3) (fun r_18 => nn r_18 (fun a_21 => ix x2 16 (bd2 (fc_X2_holds (a_7 + 1) x3_13 (σ_1.1 (a_21 + 7) x2.toNatClampNeg) σ_1) (fun r_27 σ_26 => (if r_27 = 0 then some ((-2:Int32), σ_26) else ix x2 16 (vl (σ_26.2.2.1 (a + 13 + cl_md a) x2.toNatClampNeg) (fun r_35 => vl (σ_26.2.2.1 a 3) (fun r_41 => nn r_41 (fun a_44 => ix x2 16 (nn r_35 (fun a_49 => cpg (0:Int32) (x3_13 >>> ((2:Int32) &&& 31)) (σ_26.1 (a_44 + 7) x2.toNatClampNeg) (σ_26.2.2.2.1 a_49).2 2048 (vl (cl_cp σ_26 a_49 ((a_7 + 1) + 1) (0:Int32) (x3_13 >>> ((2:Int32) &&& 31)) (σ_26.1 (a_44 + 7) x2.toNatClampNeg)) (fun σ_53 => ix x2 16 (vl (σ_53.1 (a + 30 + cl_md a) x2.toNatClampNeg) (fun x4_60 => ix x2 16 (vl (cl_w σ_53 (a + 30 + cl_md a) x2.toNatClampNeg (0:Int32)) (fun σ_64 => some (x4_60, σ_64)))))))))))))))))))))))
set_option maxHeartbeats 4000000 in
theorem wc_X5_receive_0 (C : cl_C D p s m args meth c cX5_receive 5 (some .int) RX5) {r : Int32} {a : Nat} {x1 : (Option Nat)} {x2 : Int32} {σ0 σ σ' : cl_S} {T : Nat → Nat × Nat} {H : Heap} {locs : List Loc} {ls : Array Slot} {cells slots : Nat} (h : bc_X5_receive_0 a x1 x2 σ = some (r, σ')) (G : cl_G true D c0 ({ frames := 1, cells := σ0.2.2.2.2.2.1, slots := σ0.2.2.2.2.2.2, locals := 48 }) s σ0.2.2.2.1 T σ H locs cells slots) (ha : (T a).1 = 21) (f1 : cl_RT T x1 22) (hl : lv_has ls 5 [(0, .ref (c0 + a)), (1, cl_rf c0 x1), (2, .int x2)]) : W p l e ({ frames := 1, cells := σ0.2.2.2.2.2.1, slots := σ0.2.2.2.2.2.2, locals := 48 }) s m args below meth c H locs cells slots (MQ below (cl_Q true D c0 (some (.int r)) cl_no σ0 σ') args s (σ0.2.2.2.2.2.1 - σ'.2.2.2.2.2.1) (σ0.2.2.2.2.2.2 - σ'.2.2.2.2.2.2) (cl_A c0 σ0.2.2.2.1 s.heap.size)) (F0 m 0 ls []) := by
  unfold bc_X5_receive_0 at h
  refine lv_aload_n C.1 C.2.1 dX5_receive_0 rfl (lv_at hl 0 rfl) ?_
  refine cl_aload_n C.1 C.2.1 dX5_receive_1 rfl (lv_at hl 1 rfl) ?_
  refine lv_iload_n C.1 C.2.1 dX5_receive_2 rfl (lv_at hl 2 rfl) ?_
  obtain ⟨r_2, σ_1, hq, h_3⟩ := bd2_some h
  refine cl_callV (ci := 5) (rest := []) C G rfl ha cw_RX5_332 [cl_rf c0 x1, .int x2] _ (kc_X5_isTo l D c0 (by rw [G.1]; exact ha) hq (by rw [G.1]; exact f1)) (Nat.le_of_ble_eq_true rfl) (Nat.le_of_ble_eq_true rfl) rfl rfl hl.1 (Nat.le_of_ble_eq_true rfl) dX5_receive_3 (fun T_4 H locs cells slots t_5 hu G_6 => ?_)
  have ha := hu.kind ha (by decide)
  have f1 := f1.up hu (by decide)
  refine W.eq (g2 := F0 m 6 ls [.int r_2]) rfl ?_
  refine lv_if_ne (tgt := 11) C.1 C.2.1 dX5_receive_6 (by decide) (fun hc => ?_) (fun hc => ?_)
  · rw [if_neg hc] at h_3
    refine cl_aload_n C.1 C.2.1 dX5_receive_11 rfl (lv_at hl 1 rfl) ?_
    obtain ⟨a_7, rfl, h_9⟩ := nn_some h_3
    have t_8 := f1 _ rfl
    refine cg_5_121 C G_6 t_8 dX5_receive_12 (fun t_10 => ?_)
    have t_10 : (T_4 (a_7 + 1)).1 = 18 := by rw [t_10]
    refine cg_5_193 C G_6 t_10 dX5_receive_15 (fun t_11 => ?_)
    refine lv_iconst (v := (2:Int32)) C.1 C.2.1 dX5_receive_18 (by decide) ?_
    obtain ⟨hi, h_12⟩ := ix_some h_9
    refine cl_iald C G_6 t_11 hi dX5_receive_19 ?_
    refine vt_i h_12 (fun x3_13 h_14 => ?_)
    refine lv_istore_n (lv' := [(3, .int x3_13), (0, .ref (c0 + a)), (1, .ref (c0 + a_7)), (2, .int x2)]) C.1 C.2.1 dX5_receive_20 rfl hl (by decide) rfl (fun ls hl_15 => ?_)
    refine lv_aload_n C.1 C.2.1 dX5_receive_21 rfl (lv_at hl_15 2 rfl) ?_
    refine cg_5_121 C G_6 t_8 dX5_receive_22 (fun t_16 => ?_)
    have t_16 : (T_4 (a_7 + 1)).1 = 18 := by rw [t_16]
    refine lv_iload_n C.1 C.2.1 dX5_receive_25 rfl (lv_at hl_15 0 rfl) ?_
    refine lv_aload_n C.1 C.2.1 dX5_receive_26 rfl (lv_at hl_15 1 rfl) ?_
    refine cg_5_12 C G_6 ha dX5_receive_27 (fun t_17 => ?_)
    refine vt_r (K := 17) t_17 h_14 (fun r_18 t_19 h_20 => ?_)
    obtain ⟨a_21, rfl, h_23⟩ := nn_some h_20
    have t_22 := t_19 _ rfl
    refine cg_5_316 C G_6 t_22 dX5_receive_30 (fun t_24 => ?_)
    refine lv_iload_n C.1 C.2.1 dX5_receive_33 rfl (lv_at hl_15 3 rfl) ?_
    obtain ⟨hi, h_25⟩ := ix_some h_23
    refine cl_iald C G_6 t_24 hi dX5_receive_34 ?_
    obtain ⟨r_27, σ_26, hq, h_28⟩ := bd2_some h_25
    refine cl_callV (ci := 2) (rest := []) C G_6 rfl t_16 cw_RX5_319 [.int x3_13, .int (σ_1.1 (a_21 + 7) x2.toNatClampNeg)] _ (kc_X2_holds l D c0 (by rw [G_6.1]; exact t_16) hq) (Nat.le_of_ble_eq_true rfl) (Nat.le_of_ble_eq_true rfl) rfl rfl hl_15.1 (Nat.le_of_ble_eq_true rfl) dX5_receive_35 (fun T_29 H locs cells slots t_30 hu G_31 => ?_)
    have ha := hu.kind ha (by decide)
    have t_8 := hu.kind t_8 (by decide)
    refine W.eq (g2 := F0 m 38 ls [.int r_27]) rfl ?_
    refine lv_if_ne (tgt := 44) C.1 C.2.1 dX5_receive_38 (by decide) (fun hc => ?_) (fun hc => ?_)
    · rw [if_neg hc] at h_28
      refine lv_aload_n C.1 C.2.1 dX5_receive_44 rfl (lv_at hl_15 1 rfl) ?_
      refine cg_5_26 C G_31 ha dX5_receive_45 (fun t_32 => ?_)
      refine lv_iload_n C.1 C.2.1 dX5_receive_48 rfl (lv_at hl_15 3 rfl) ?_
      obtain ⟨hi, h_33⟩ := ix_some h_28
      refine cl_aald C G_31 t_32 (by decide) (by decide) rfl hi dX5_receive_49 (fun t_34 => ?_)
      refine vt_r (K := 1) t_34 h_33 (fun r_35 t_36 h_37 => ?_)
      refine lv_iconst (v := (0:Int32)) C.1 C.2.1 dX5_receive_50 (by decide) ?_
      refine lv_aload_n C.1 C.2.1 dX5_receive_51 rfl (lv_at hl_15 2 rfl) ?_
      refine cg_5_121 C G_31 t_8 dX5_receive_52 (fun t_38 => ?_)
      have t_38 : (T_29 (a_7 + 1)).1 = 18 := by rw [t_38]
      refine cg_5_323 C G_31 t_38 dX5_receive_55 (fun t_39 => ?_)
      refine lv_iload_n C.1 C.2.1 dX5_receive_58 rfl (lv_at hl_15 0 rfl) ?_
      refine lv_iconst (v := (2:Int32)) C.1 C.2.1 dX5_receive_59 (by decide) ?_
      refine lv_ishr C.1 C.2.1 dX5_receive_60 ?_
      refine lv_aload_n C.1 C.2.1 dX5_receive_61 rfl (lv_at hl_15 1 rfl) ?_
      refine cg_5_12 C G_31 ha dX5_receive_62 (fun t_40 => ?_)
      refine vt_r (K := 17) t_40 h_37 (fun r_41 t_42 h_43 => ?_)
      obtain ⟨a_44, rfl, h_46⟩ := nn_some h_43
      have t_45 := t_42 _ rfl
      refine cg_5_316 C G_31 t_45 dX5_receive_65 (fun t_47 => ?_)
      refine lv_iload_n C.1 C.2.1 dX5_receive_68 rfl (lv_at hl_15 3 rfl) ?_
      obtain ⟨hi, h_48⟩ := ix_some h_46
      refine cl_iald C G_31 t_47 hi dX5_receive_69 ?_
      obtain ⟨a_49, rfl, h_51⟩ := nn_some h_48
      have t_50 := t_36 _ rfl
      have t_52 : T_29 a_49 = (1, (σ_26.2.2.2.1 a_49).2) := by rw [G_31.1]; exact Prod.ext t_50 rfl
      obtain ⟨hcp, h_54⟩ := cpg_some h_51
      refine cl_copy C G_31 t_52 t_39 hcp (C.2.2.2.2.1 _ mw_RX5_326) (Nat.le_of_ble_eq_true rfl) (show 0 + 18 ≤ 48 from by decide) hl_15.1 dX5_receive_70 (fun H locs G_55 => ?_)
      refine cl_nm G_55 h_54 (fun σ_53 G_56 h_57 => ?_)
      refine lv_aload_n C.1 C.2.1 dX5_receive_73 rfl (lv_at hl_15 1 rfl) ?_
      refine cg_5_29 C G_56 ha dX5_receive_74 (fun t_58 => ?_)
      refine lv_iload_n C.1 C.2.1 dX5_receive_77 rfl (lv_at hl_15 3 rfl) ?_
      obtain ⟨hi, h_59⟩ := ix_some h_57
      refine cl_iald C G_56 t_58 hi dX5_receive_78 ?_
      refine vt_i h_59 (fun x4_60 h_61 => ?_)
      refine lv_istore (lv' := [(4, .int x4_60), (3, .int x3_13), (0, .ref (c0 + a)), (1, .ref (c0 + a_7)), (2, .int x2)]) C.1 C.2.1 dX5_receive_79 hl_15 (by decide) rfl (fun ls hl_62 => ?_)
      refine lv_aload_n C.1 C.2.1 dX5_receive_81 rfl (lv_at hl_62 2 rfl) ?_
      refine cg_5_29 C G_56 ha dX5_receive_82 (fun t_63 => ?_)
      refine lv_iload_n C.1 C.2.1 dX5_receive_85 rfl (lv_at hl_62 4 rfl) ?_
      refine lv_iconst (v := (0:Int32)) C.1 C.2.1 dX5_receive_86 (by decide) ?_
      obtain ⟨hi, h_65⟩ := ix_some h_61
      refine cl_iast C G_56 t_63 hi dX5_receive_87 (fun H locs G_66 => ?_)
      refine cl_nm G_66 h_65 (fun σ_64 G_67 h_68 => ?_)
      refine lv_iload C.1 C.2.1 dX5_receive_88 (lv_at hl_62 0 rfl) ?_
      exact cl_iret ⟨rfl, rfl⟩ rfl C G_67 h_68 dX5_receive_90
    · rw [if_pos hc] at h_28
      refine lv_bipush (v := (-2:Int32)) C.1 C.2.1 dX5_receive_41 (by decide) ?_
      exact cl_iret ⟨rfl, rfl⟩ rfl C G_31 h_28 dX5_receive_43
  · rw [if_pos hc] at h_3
    refine lv_iconst (v := (-1:Int32)) C.1 C.2.1 dX5_receive_9 (by decide) ?_
    exact cl_iret ⟨rfl, rfl⟩ rfl C G_6 h_3 dX5_receive_10
noncomputable def fc_X5_receive (a : Nat) (x1 : (Option Nat)) (x2 : Int32) (σ : cl_S) : Option (Int32 × cl_S) := bc_X5_receive_0 a x1 x2 σ
theorem kc_X5_receive (l : Launch) (D : cl_D) (c0 : Nat) {r : Int32} {a : Nat} {x1 : (Option Nat)} {x2 : Int32} {σ σ' : cl_S} (ha : (σ.2.2.2.1 a).1 = 21) (h : fc_X5_receive a x1 x2 σ = some (r, σ')) (f1 : cl_RT σ.2.2.2.1 x1 22) : cl_Met true l D c0 yX5_receive cX5_receive 5 (some .int) 1 48 [.ref (c0 + a), cl_rf c0 x1, .int x2] σ (some (.int r)) cl_no σ' :=
  by cases x1 <;> exact cl_of (by decide) (Nat.le_of_ble_eq_true rfl) (fun p e s m args below meth c ls C hn G hl => wc_X5_receive_0 C h G ha f1 hl)
abbrev cX5_sendTerm : ByteArray := prog_7_method_17_code
def yX5_sendTerm : MethodName := ⟨RX5, "sendTerm", "(LPartHouse$Partition;I)I"⟩
theorem dX5_sendTerm_0 : decode cX5_sendTerm 0 = .ok (.aload_n 0, 1) := by decide +kernel
theorem dX5_sendTerm_1 : decode cX5_sendTerm 1 = .ok (.aload_n 1, 1) := by decide +kernel
theorem dX5_sendTerm_2 : decode cX5_sendTerm 2 = .ok (.iload_n 2, 1) := by decide +kernel
theorem dX5_sendTerm_3 : decode cX5_sendTerm 3 = .ok (.invokevirtual 312, 3) := by decide +kernel
theorem dX5_sendTerm_6 : decode cX5_sendTerm 6 = .ok (.ifCond .ne 5, 3) := by decide +kernel
theorem dX5_sendTerm_9 : decode cX5_sendTerm 9 = .ok (.iconst (-1), 1) := by decide +kernel
theorem dX5_sendTerm_10 : decode cX5_sendTerm 10 = .ok (.ireturn, 1) := by decide +kernel
theorem dX5_sendTerm_11 : decode cX5_sendTerm 11 = .ok (.aload_n 1, 1) := by decide +kernel
theorem dX5_sendTerm_12 : decode cX5_sendTerm 12 = .ok (.getfield 121, 3) := by decide +kernel
theorem dX5_sendTerm_15 : decode cX5_sendTerm 15 = .ok (.getfield 193, 3) := by decide +kernel
theorem dX5_sendTerm_18 : decode cX5_sendTerm 18 = .ok (.iconst 2, 1) := by decide +kernel
theorem dX5_sendTerm_19 : decode cX5_sendTerm 19 = .ok (.iaload, 1) := by decide +kernel
theorem dX5_sendTerm_20 : decode cX5_sendTerm 20 = .ok (.istore_n 3, 1) := by decide +kernel
theorem dX5_sendTerm_21 : decode cX5_sendTerm 21 = .ok (.aload_n 1, 1) := by decide +kernel
theorem dX5_sendTerm_22 : decode cX5_sendTerm 22 = .ok (.getfield 199, 3) := by decide +kernel
theorem dX5_sendTerm_25 : decode cX5_sendTerm 25 = .ok (.iload_n 3, 1) := by decide +kernel
theorem dX5_sendTerm_26 : decode cX5_sendTerm 26 = .ok (.invokevirtual 335, 3) := by decide +kernel
theorem dX5_sendTerm_29 : decode cX5_sendTerm 29 = .ok (.ifCond .ne 6, 3) := by decide +kernel
theorem dX5_sendTerm_32 : decode cX5_sendTerm 32 = .ok (.bipush (-2), 2) := by decide +kernel
theorem dX5_sendTerm_34 : decode cX5_sendTerm 34 = .ok (.ireturn, 1) := by decide +kernel
theorem dX5_sendTerm_35 : decode cX5_sendTerm 35 = .ok (.aload_n 0, 1) := by decide +kernel
theorem dX5_sendTerm_36 : decode cX5_sendTerm 36 = .ok (.getfield 35, 3) := by decide +kernel
theorem dX5_sendTerm_39 : decode cX5_sendTerm 39 = .ok (.iload_n 2, 1) := by decide +kernel
theorem dX5_sendTerm_40 : decode cX5_sendTerm 40 = .ok (.aload_n 1, 1) := by decide +kernel
theorem dX5_sendTerm_41 : decode cX5_sendTerm 41 = .ok (.getfield 199, 3) := by decide +kernel
theorem dX5_sendTerm_44 : decode cX5_sendTerm 44 = .ok (.iload_n 3, 1) := by decide +kernel
theorem dX5_sendTerm_45 : decode cX5_sendTerm 45 = .ok (.invokevirtual 203, 3) := by decide +kernel
theorem dX5_sendTerm_48 : decode cX5_sendTerm 48 = .ok (.aastore, 1) := by decide +kernel
theorem dX5_sendTerm_49 : decode cX5_sendTerm 49 = .ok (.iconst 0, 1) := by decide +kernel
theorem dX5_sendTerm_50 : decode cX5_sendTerm 50 = .ok (.ireturn, 1) := by decide +kernel
theorem cc_X5_sendTerm : Cond.code yX5_sendTerm cX5_sendTerm 4 (some .int) ∈ rf_tb := rf_at 1207 (by decide +kernel) (by decide +kernel)
theorem cw_RX5_203 : cl_wV RX5 RX8 yX8_at cX8_at 2 (some (.object "PartHouse$Term")) 203 1 := ⟨⟨rf_at 1159 (by decide +kernel) (by decide +kernel), rf_at 1160 (by decide +kernel) (by decide +kernel), rf_at 1161 (by decide +kernel) (by decide +kernel), cc_X8_at, rf_at 11 (by decide +kernel) (by decide +kernel)⟩, ⟨by decide, by decide, by decide +kernel⟩⟩
theorem cw_RX5_335 : cl_wV RX5 RX8 yX8_has cX8_has 2 (some .boolean) 335 1 := ⟨⟨rf_at 1208 (by decide +kernel) (by decide +kernel), rf_at 1164 (by decide +kernel) (by decide +kernel), rf_at 1165 (by decide +kernel) (by decide +kernel), cc_X8_has, rf_at 11 (by decide +kernel) (by decide +kernel)⟩, ⟨by decide, by decide, by decide +kernel⟩⟩
noncomputable def bc_X5_sendTerm_0 (a : Nat) (x1 : (Option Nat)) (x2 : Int32) (σ : cl_S) : Option (Int32 × cl_S) := bd2 (fc_X5_isFrom a x1 x2 σ) (fun r_2 σ_1 => (if r_2 = 0 then some ((-1:Int32), σ_1) else nn x1 (fun a_7 => ix (2:Int32) 16 (vl (σ_1.1 ((a_7 + 1) + 2) (2:Int32).toNatClampNeg) (fun x3_13 => bd2 (fc_X8_has (a_7 + 9) x3_13 σ_1) (fun r_18 σ_17 => (if r_18 = 0 then some ((-2:Int32), σ_17) else bd2 (fc_X8_at (a_7 + 9) x3_13 σ_17) (fun r_26 σ_25 => ix x2 16 (vl (cl_wr σ_25 (a + 31 + cl_md a) x2.toNatClampNeg r_26) (fun σ_31 => some ((0:Int32), σ_31)))))))))))
set_option maxHeartbeats 4000000 in
theorem wc_X5_sendTerm_0 (C : cl_C D p s m args meth c cX5_sendTerm 4 (some .int) RX5) {r : Int32} {a : Nat} {x1 : (Option Nat)} {x2 : Int32} {σ0 σ σ' : cl_S} {T : Nat → Nat × Nat} {H : Heap} {locs : List Loc} {ls : Array Slot} {cells slots : Nat} (h : bc_X5_sendTerm_0 a x1 x2 σ = some (r, σ')) (G : cl_G true D c0 ({ frames := 2, cells := σ0.2.2.2.2.2.1, slots := σ0.2.2.2.2.2.2, locals := 42 }) s σ0.2.2.2.1 T σ H locs cells slots) (ha : (T a).1 = 21) (f1 : cl_RT T x1 22) (hl : lv_has ls 4 [(0, .ref (c0 + a)), (1, cl_rf c0 x1), (2, .int x2)]) : W p l e ({ frames := 2, cells := σ0.2.2.2.2.2.1, slots := σ0.2.2.2.2.2.2, locals := 42 }) s m args below meth c H locs cells slots (MQ below (cl_Q true D c0 (some (.int r)) cl_no σ0 σ') args s (σ0.2.2.2.2.2.1 - σ'.2.2.2.2.2.1) (σ0.2.2.2.2.2.2 - σ'.2.2.2.2.2.2) (cl_A c0 σ0.2.2.2.1 s.heap.size)) (F0 m 0 ls []) := by
  unfold bc_X5_sendTerm_0 at h
  refine lv_aload_n C.1 C.2.1 dX5_sendTerm_0 rfl (lv_at hl 0 rfl) ?_
  refine cl_aload_n C.1 C.2.1 dX5_sendTerm_1 rfl (lv_at hl 1 rfl) ?_
  refine lv_iload_n C.1 C.2.1 dX5_sendTerm_2 rfl (lv_at hl 2 rfl) ?_
  obtain ⟨r_2, σ_1, hq, h_3⟩ := bd2_some h
  refine cl_callV (ci := 5) (rest := []) C G rfl ha cw_RX5_312 [cl_rf c0 x1, .int x2] _ (kc_X5_isFrom l D c0 (by rw [G.1]; exact ha) hq (by rw [G.1]; exact f1)) (Nat.le_of_ble_eq_true rfl) (Nat.le_of_ble_eq_true rfl) rfl rfl hl.1 (Nat.le_of_ble_eq_true rfl) dX5_sendTerm_3 (fun T_4 H locs cells slots t_5 hu G_6 => ?_)
  have ha := hu.kind ha (by decide)
  have f1 := f1.up hu (by decide)
  refine W.eq (g2 := F0 m 6 ls [.int r_2]) rfl ?_
  refine lv_if_ne (tgt := 11) C.1 C.2.1 dX5_sendTerm_6 (by decide) (fun hc => ?_) (fun hc => ?_)
  · rw [if_neg hc] at h_3
    refine cl_aload_n C.1 C.2.1 dX5_sendTerm_11 rfl (lv_at hl 1 rfl) ?_
    obtain ⟨a_7, rfl, h_9⟩ := nn_some h_3
    have t_8 := f1 _ rfl
    refine cg_5_121 C G_6 t_8 dX5_sendTerm_12 (fun t_10 => ?_)
    have t_10 : (T_4 (a_7 + 1)).1 = 18 := by rw [t_10]
    refine cg_5_193 C G_6 t_10 dX5_sendTerm_15 (fun t_11 => ?_)
    refine lv_iconst (v := (2:Int32)) C.1 C.2.1 dX5_sendTerm_18 (by decide) ?_
    obtain ⟨hi, h_12⟩ := ix_some h_9
    refine cl_iald C G_6 t_11 hi dX5_sendTerm_19 ?_
    refine vt_i h_12 (fun x3_13 h_14 => ?_)
    refine lv_istore_n (lv' := [(3, .int x3_13), (0, .ref (c0 + a)), (1, .ref (c0 + a_7)), (2, .int x2)]) C.1 C.2.1 dX5_sendTerm_20 rfl hl (by decide) rfl (fun ls hl_15 => ?_)
    refine lv_aload_n C.1 C.2.1 dX5_sendTerm_21 rfl (lv_at hl_15 2 rfl) ?_
    refine cg_5_199 C G_6 t_8 dX5_sendTerm_22 (fun t_16 => ?_)
    have t_16 : (T_4 (a_7 + 9)).1 = 24 := by rw [t_16]
    refine lv_iload_n C.1 C.2.1 dX5_sendTerm_25 rfl (lv_at hl_15 0 rfl) ?_
    obtain ⟨r_18, σ_17, hq, h_19⟩ := bd2_some h_14
    refine cl_callV (ci := 8) (rest := []) C G_6 rfl t_16 cw_RX5_335 [.int x3_13] _ (kc_X8_has l D c0 (by rw [G_6.1]; exact t_16) hq) (Nat.le_of_ble_eq_true rfl) (Nat.le_of_ble_eq_true rfl) rfl rfl hl_15.1 (Nat.le_of_ble_eq_true rfl) dX5_sendTerm_26 (fun T_20 H locs cells slots t_21 hu G_22 => ?_)
    have ha := hu.kind ha (by decide)
    have t_8 := hu.kind t_8 (by decide)
    refine W.eq (g2 := F0 m 29 ls [.int r_18]) rfl ?_
    refine lv_if_ne (tgt := 35) C.1 C.2.1 dX5_sendTerm_29 (by decide) (fun hc => ?_) (fun hc => ?_)
    · rw [if_neg hc] at h_19
      refine lv_aload_n C.1 C.2.1 dX5_sendTerm_35 rfl (lv_at hl_15 1 rfl) ?_
      refine cg_5_35 C G_22 ha dX5_sendTerm_36 (fun t_23 => ?_)
      refine lv_iload_n C.1 C.2.1 dX5_sendTerm_39 rfl (lv_at hl_15 3 rfl) ?_
      refine lv_aload_n C.1 C.2.1 dX5_sendTerm_40 rfl (lv_at hl_15 2 rfl) ?_
      refine cg_5_199 C G_22 t_8 dX5_sendTerm_41 (fun t_24 => ?_)
      have t_24 : (T_20 (a_7 + 9)).1 = 24 := by rw [t_24]
      refine lv_iload_n C.1 C.2.1 dX5_sendTerm_44 rfl (lv_at hl_15 0 rfl) ?_
      obtain ⟨r_26, σ_25, hq, h_27⟩ := bd2_some h_19
      refine cl_callV (ci := 8) (rest := [.int x2, .ref (c0 + (a + 31 + cl_md a))]) C G_22 rfl t_24 cw_RX5_203 [.int x3_13] _ (kc_X8_at l D c0 (by rw [G_22.1]; exact t_24) hq) (Nat.le_of_ble_eq_true rfl) (Nat.le_of_ble_eq_true rfl) rfl rfl hl_15.1 (Nat.le_of_ble_eq_true rfl) dX5_sendTerm_45 (fun T_28 H locs cells slots t_29 hu G_30 => ?_)
      have ha := hu.kind ha (by decide)
      have t_8 := hu.kind t_8 (by decide)
      have t_23 := cl_uparr hu t_23 (by decide)
      refine W.eq (g2 := F0 m 48 ls [cl_rf c0 r_26, .int x2, .ref (c0 + (a + 31 + cl_md a))]) rfl ?_
      obtain ⟨hi, h_32⟩ := ix_some h_27
      refine cl_aast (ci := 9) (x := r_26) C G_30 rfl rfl rfl t_23 (by decide) (by decide) t_29 hi dX5_sendTerm_48 (fun H locs G_33 => ?_)
      refine cl_nm G_33 h_32 (fun σ_31 G_34 h_35 => ?_)
      refine lv_iconst (v := (0:Int32)) C.1 C.2.1 dX5_sendTerm_49 (by decide) ?_
      exact cl_iret ⟨rfl, rfl⟩ rfl C G_34 h_35 dX5_sendTerm_50
    · rw [if_pos hc] at h_19
      refine lv_bipush (v := (-2:Int32)) C.1 C.2.1 dX5_sendTerm_32 (by decide) ?_
      exact cl_iret ⟨rfl, rfl⟩ rfl C G_22 h_19 dX5_sendTerm_34
  · rw [if_pos hc] at h_3
    refine lv_iconst (v := (-1:Int32)) C.1 C.2.1 dX5_sendTerm_9 (by decide) ?_
    exact cl_iret ⟨rfl, rfl⟩ rfl C G_6 h_3 dX5_sendTerm_10
noncomputable def fc_X5_sendTerm (a : Nat) (x1 : (Option Nat)) (x2 : Int32) (σ : cl_S) : Option (Int32 × cl_S) := bc_X5_sendTerm_0 a x1 x2 σ
theorem kc_X5_sendTerm (l : Launch) (D : cl_D) (c0 : Nat) {r : Int32} {a : Nat} {x1 : (Option Nat)} {x2 : Int32} {σ σ' : cl_S} (ha : (σ.2.2.2.1 a).1 = 21) (h : fc_X5_sendTerm a x1 x2 σ = some (r, σ')) (f1 : cl_RT σ.2.2.2.1 x1 22) : cl_Met true l D c0 yX5_sendTerm cX5_sendTerm 4 (some .int) 2 42 [.ref (c0 + a), cl_rf c0 x1, .int x2] σ (some (.int r)) cl_no σ' :=
  by cases x1 <;> exact cl_of (by decide) (Nat.le_of_ble_eq_true rfl) (fun p e s m args below meth c ls C hn G hl => wc_X5_sendTerm_0 C h G ha f1 hl)
abbrev cX8_slotOf : ByteArray := prog_10_method_7_code
def yX8_slotOf : MethodName := ⟨RX8, "slotOf", "(LPartHouse$Term;)I"⟩
theorem dX8_slotOf_0 : decode cX8_slotOf 0 = .ok (.aload_n 1, 1) := by decide +kernel
theorem dX8_slotOf_1 : decode cX8_slotOf 1 = .ok (.getfield 64, 3) := by decide +kernel
theorem dX8_slotOf_4 : decode cX8_slotOf 4 = .ok (.aload_n 0, 1) := by decide +kernel
theorem dX8_slotOf_5 : decode cX8_slotOf 5 = .ok (.getfield 29, 3) := by decide +kernel
theorem dX8_slotOf_8 : decode cX8_slotOf 8 = .ok (.arraylength, 1) := by decide +kernel
theorem dX8_slotOf_9 : decode cX8_slotOf 9 = .ok (.iconst 1, 1) := by decide +kernel
theorem dX8_slotOf_10 : decode cX8_slotOf 10 = .ok (.isub, 1) := by decide +kernel
theorem dX8_slotOf_11 : decode cX8_slotOf 11 = .ok (.iand, 1) := by decide +kernel
theorem dX8_slotOf_12 : decode cX8_slotOf 12 = .ok (.istore_n 2, 1) := by decide +kernel
theorem dX8_slotOf_13 : decode cX8_slotOf 13 = .ok (.iconst 0, 1) := by decide +kernel
theorem dX8_slotOf_14 : decode cX8_slotOf 14 = .ok (.istore_n 3, 1) := by decide +kernel
theorem dX8_slotOf_15 : decode cX8_slotOf 15 = .ok (.iload_n 3, 1) := by decide +kernel
theorem dX8_slotOf_16 : decode cX8_slotOf 16 = .ok (.aload_n 0, 1) := by decide +kernel
theorem dX8_slotOf_17 : decode cX8_slotOf 17 = .ok (.getfield 29, 3) := by decide +kernel
theorem dX8_slotOf_20 : decode cX8_slotOf 20 = .ok (.arraylength, 1) := by decide +kernel
theorem dX8_slotOf_21 : decode cX8_slotOf 21 = .ok (.if_icmp .ge 47, 3) := by decide +kernel
theorem dX8_slotOf_24 : decode cX8_slotOf 24 = .ok (.aload_n 0, 1) := by decide +kernel
theorem dX8_slotOf_25 : decode cX8_slotOf 25 = .ok (.getfield 29, 3) := by decide +kernel
theorem dX8_slotOf_28 : decode cX8_slotOf 28 = .ok (.iload_n 2, 1) := by decide +kernel
theorem dX8_slotOf_29 : decode cX8_slotOf 29 = .ok (.iaload, 1) := by decide +kernel
theorem dX8_slotOf_30 : decode cX8_slotOf 30 = .ok (.ifCond .eq 18, 3) := by decide +kernel
theorem dX8_slotOf_33 : decode cX8_slotOf 33 = .ok (.aload_n 0, 1) := by decide +kernel
theorem dX8_slotOf_34 : decode cX8_slotOf 34 = .ok (.getfield 25, 3) := by decide +kernel
theorem dX8_slotOf_37 : decode cX8_slotOf 37 = .ok (.aload_n 0, 1) := by decide +kernel
theorem dX8_slotOf_38 : decode cX8_slotOf 38 = .ok (.getfield 29, 3) := by decide +kernel
theorem dX8_slotOf_41 : decode cX8_slotOf 41 = .ok (.iload_n 2, 1) := by decide +kernel
theorem dX8_slotOf_42 : decode cX8_slotOf 42 = .ok (.iaload, 1) := by decide +kernel
theorem dX8_slotOf_43 : decode cX8_slotOf 43 = .ok (.aaload, 1) := by decide +kernel
theorem dX8_slotOf_44 : decode cX8_slotOf 44 = .ok (.aload_n 1, 1) := by decide +kernel
theorem dX8_slotOf_45 : decode cX8_slotOf 45 = .ok (.if_acmp .ne 5, 3) := by decide +kernel
theorem dX8_slotOf_48 : decode cX8_slotOf 48 = .ok (.iload_n 2, 1) := by decide +kernel
theorem dX8_slotOf_49 : decode cX8_slotOf 49 = .ok (.ireturn, 1) := by decide +kernel
theorem dX8_slotOf_50 : decode cX8_slotOf 50 = .ok (.iload_n 2, 1) := by decide +kernel
theorem dX8_slotOf_51 : decode cX8_slotOf 51 = .ok (.iconst 1, 1) := by decide +kernel
theorem dX8_slotOf_52 : decode cX8_slotOf 52 = .ok (.iadd, 1) := by decide +kernel
theorem dX8_slotOf_53 : decode cX8_slotOf 53 = .ok (.aload_n 0, 1) := by decide +kernel
theorem dX8_slotOf_54 : decode cX8_slotOf 54 = .ok (.getfield 29, 3) := by decide +kernel
theorem dX8_slotOf_57 : decode cX8_slotOf 57 = .ok (.arraylength, 1) := by decide +kernel
theorem dX8_slotOf_58 : decode cX8_slotOf 58 = .ok (.iconst 1, 1) := by decide +kernel
theorem dX8_slotOf_59 : decode cX8_slotOf 59 = .ok (.isub, 1) := by decide +kernel
theorem dX8_slotOf_60 : decode cX8_slotOf 60 = .ok (.iand, 1) := by decide +kernel
theorem dX8_slotOf_61 : decode cX8_slotOf 61 = .ok (.istore_n 2, 1) := by decide +kernel
theorem dX8_slotOf_62 : decode cX8_slotOf 62 = .ok (.iinc 3 1, 3) := by decide +kernel
theorem dX8_slotOf_65 : decode cX8_slotOf 65 = .ok (.goto (-50), 3) := by decide +kernel
theorem dX8_slotOf_68 : decode cX8_slotOf 68 = .ok (.iload_n 2, 1) := by decide +kernel
theorem dX8_slotOf_69 : decode cX8_slotOf 69 = .ok (.ireturn, 1) := by decide +kernel
theorem cc_X8_slotOf : Cond.code yX8_slotOf cX8_slotOf 4 (some .int) ∈ rf_tb := rf_at 1220 (by decide +kernel) (by decide +kernel)
noncomputable def lc_X8_slotOf_15 (a : Nat) (x1 : (Option Nat)) (x2 : Int32) (x3 : Int32) (σ : cl_S) : Option ((Int32 × Int32 × cl_S) ⊕ ((Int32 × cl_S) ⊕ (Int32 × Int32 × cl_S))) := (if (nI (cl_ts a)) ≤ x3 then some (.inr (.inr (x2, x3, σ))) else ix x2 (cl_ts a) ((if (σ.1 (a + 2) x2.toNatClampNeg) = 0 then some (.inr (.inl (x2, σ))) else ix x2 (cl_ts a) (ix (σ.1 (a + 2) x2.toNatClampNeg) (cl_th a) (vl (σ.2.2.1 (a + 1) (σ.1 (a + 2) x2.toNatClampNeg).toNatClampNeg) (fun r_17 => (if r_17 = x1 then some (.inr (.inl (x2, σ))) else vl ((x2 + (1:Int32)) &&& ((nI (cl_ts a)) - (1:Int32))) (fun x2_21 => vl (x3 + (1:Int32)) (fun x3_24 => some (.inl (x2_21, x3_24, σ)))))))))))
noncomputable def ec_X8_slotOf_15 (a : Nat) (x1 : (Option Nat)) (x2 : Int32) (x3 : Int32) (σ : cl_S) : Option (Int32 × cl_S) := some (x2, σ)
noncomputable def bc_X8_slotOf_15 (a : Nat) (x1 : (Option Nat)) (x2 : Int32) (x3 : Int32) (σ : cl_S) : Option (Int32 × cl_S) := (lp (fun z : (Int32 × Int32 × cl_S) => lc_X8_slotOf_15 a x1 z.1 z.2.1 z.2.2) (x2, x3, σ)).bind (fun y => Sum.elim (fun z => some z) (fun z => ec_X8_slotOf_15 a x1 z.1 z.2.1 z.2.2) y)
set_option maxHeartbeats 4000000 in
theorem wc_X8_slotOf_15 (C : cl_C D p s m args meth c cX8_slotOf 4 (some .int) RX8) {r : Int32} {a : Nat} {x1 : (Option Nat)} {x2 : Int32} {x3 : Int32} {σ0 σ σ' : cl_S} {T : Nat → Nat × Nat} {H : Heap} {locs : List Loc} {ls : Array Slot} {cells slots : Nat} (h : bc_X8_slotOf_15 a x1 x2 x3 σ = some (r, σ')) (G : cl_G true D c0 ({ frames := 0, cells := σ0.2.2.2.2.2.1, slots := σ0.2.2.2.2.2.2, locals := 0 }) s σ0.2.2.2.1 T σ H locs cells slots) (ha : (T a).1 = 24) (f1 : cl_RT T x1 25) (hl : lv_has ls 4 [(0, .ref (c0 + a)), (1, cl_rf c0 x1), (2, .int x2), (3, .int x3)]) : W p l e ({ frames := 0, cells := σ0.2.2.2.2.2.1, slots := σ0.2.2.2.2.2.2, locals := 0 }) s m args below meth c H locs cells slots (MQ below (cl_Q true D c0 (some (.int r)) cl_no σ0 σ') args s (σ0.2.2.2.2.2.1 - σ'.2.2.2.2.2.1) (σ0.2.2.2.2.2.2 - σ'.2.2.2.2.2.2) (cl_A c0 σ0.2.2.2.1 s.heap.size)) (F0 m 15 ls []) := by
  unfold bc_X8_slotOf_15 at h
  obtain ⟨y, hy, h⟩ := bd_some h
  have hE : (Sum.elim (fun z : Int32 × cl_S => z = (r, σ')) (fun z : (Int32 × Int32 × cl_S) => ∀ (T : Nat → Nat × Nat) (H : Heap) (locs : List Loc) (ls : Array Slot) (cells slots : Nat), cl_G true D c0 ({ frames := 0, cells := σ0.2.2.2.2.2.1, slots := σ0.2.2.2.2.2.2, locals := 0 }) s σ0.2.2.2.1 T z.2.2 H locs cells slots → (T a).1 = 24 → cl_RT T x1 25 → lv_has ls 4 [(0, .ref (c0 + a)), (1, cl_rf c0 x1), (2, .int (z.1)), (3, .int (z.2.1))] → W p l e ({ frames := 0, cells := σ0.2.2.2.2.2.1, slots := σ0.2.2.2.2.2.2, locals := 0 }) s m args below meth c H locs cells slots (MQ below (cl_Q true D c0 (some (.int r)) cl_no σ0 σ') args s (σ0.2.2.2.2.2.1 - σ'.2.2.2.2.2.1) (σ0.2.2.2.2.2.2 - σ'.2.2.2.2.2.2) (cl_A c0 σ0.2.2.2.1 s.heap.size)) (F0 m 68 ls []))) y := by
    clear hy G ha f1 hl
    cases y with
    | inl z =>
      exact Option.some.inj h
    | inr z =>
      intro T H locs ls cells slots G ha f1 hl
      have h := se_r h
      obtain ⟨x2, x3, σ⟩ := z
      dsimp only at h G ha f1 hl
      unfold ec_X8_slotOf_15 at h
      refine lv_iload_n C.1 C.2.1 dX8_slotOf_68 rfl (lv_at hl 2 rfl) ?_
      exact cl_iret ⟨rfl, rfl⟩ rfl C G h dX8_slotOf_69
  refine lp_recE (fun z : (Int32 × Int32 × cl_S) => ∀ (T : Nat → Nat × Nat) (H : Heap) (locs : List Loc) (ls : Array Slot) (cells slots : Nat), cl_G true D c0 ({ frames := 0, cells := σ0.2.2.2.2.2.1, slots := σ0.2.2.2.2.2.2, locals := 0 }) s σ0.2.2.2.1 T z.2.2 H locs cells slots → (T a).1 = 24 → cl_RT T x1 25 → lv_has ls 4 [(0, .ref (c0 + a)), (1, cl_rf c0 x1), (2, .int (z.1)), (3, .int (z.2.1))] → W p l e ({ frames := 0, cells := σ0.2.2.2.2.2.1, slots := σ0.2.2.2.2.2.2, locals := 0 }) s m args below meth c H locs cells slots (MQ below (cl_Q true D c0 (some (.int r)) cl_no σ0 σ') args s (σ0.2.2.2.2.2.1 - σ'.2.2.2.2.2.1) (σ0.2.2.2.2.2.2 - σ'.2.2.2.2.2.2) (cl_A c0 σ0.2.2.2.1 s.heap.size)) (F0 m 15 ls [])) (Sum.elim (fun z : Int32 × cl_S => z = (r, σ')) (fun z : (Int32 × Int32 × cl_S) => ∀ (T : Nat → Nat × Nat) (H : Heap) (locs : List Loc) (ls : Array Slot) (cells slots : Nat), cl_G true D c0 ({ frames := 0, cells := σ0.2.2.2.2.2.1, slots := σ0.2.2.2.2.2.2, locals := 0 }) s σ0.2.2.2.1 T z.2.2 H locs cells slots → (T a).1 = 24 → cl_RT T x1 25 → lv_has ls 4 [(0, .ref (c0 + a)), (1, cl_rf c0 x1), (2, .int (z.1)), (3, .int (z.2.1))] → W p l e ({ frames := 0, cells := σ0.2.2.2.2.2.1, slots := σ0.2.2.2.2.2.2, locals := 0 }) s m args below meth c H locs cells slots (MQ below (cl_Q true D c0 (some (.int r)) cl_no σ0 σ') args s (σ0.2.2.2.2.2.1 - σ'.2.2.2.2.2.1) (σ0.2.2.2.2.2.2 - σ'.2.2.2.2.2.2) (cl_A c0 σ0.2.2.2.1 s.heap.size)) (F0 m 68 ls []))) ?_ _ _ hy hE _ _ _ _ _ _ G ha f1 hl
  clear hE hy G ha f1 hl h
  intro z o h hP T H locs ls cells slots G ha f1 hl
  obtain ⟨x2, x3, σ⟩ := z
  dsimp only at h G ha f1 hl
  unfold lc_X8_slotOf_15 at h
  refine lv_iload_n C.1 C.2.1 dX8_slotOf_15 rfl (lv_at hl 3 rfl) ?_
  refine lv_aload_n C.1 C.2.1 dX8_slotOf_16 rfl (lv_at hl 0 rfl) ?_
  refine cg_8_29 C G ha dX8_slotOf_17 (fun t_9 => ?_)
  refine cl_alen C G t_9 dX8_slotOf_20 ?_
  refine lv_icmp_ge (tgt := 68) C.1 C.2.1 dX8_slotOf_21 (by decide) (fun hc => ?_) (fun hc => ?_)
  · rw [if_pos hc] at h
    cases h
    exact hP _ _ _ _ _ _ G ha f1 (lv_sub hl [0, 1, 2, 3] rfl)
  · rw [if_neg hc] at h
    refine lv_aload_n C.1 C.2.1 dX8_slotOf_24 rfl (lv_at hl 0 rfl) ?_
    refine cg_8_29 C G ha dX8_slotOf_25 (fun t_10 => ?_)
    refine lv_iload_n C.1 C.2.1 dX8_slotOf_28 rfl (lv_at hl 2 rfl) ?_
    obtain ⟨hi, h_11⟩ := ix_some h
    refine cl_iald C G t_10 hi dX8_slotOf_29 ?_
    refine lv_if_eq (tgt := 48) C.1 C.2.1 dX8_slotOf_30 (by decide) (fun hc => ?_) (fun hc => ?_)
    · rw [if_pos hc] at h_11
      refine lv_iload_n C.1 C.2.1 dX8_slotOf_48 rfl (lv_at hl 2 rfl) ?_
      cases h_11
      have hP := congrArg some hP
      exact cl_iret ⟨rfl, rfl⟩ rfl C G hP dX8_slotOf_49
    · rw [if_neg hc] at h_11
      refine lv_aload_n C.1 C.2.1 dX8_slotOf_33 rfl (lv_at hl 0 rfl) ?_
      refine cg_8_25 C G ha dX8_slotOf_34 (fun t_12 => ?_)
      refine lv_aload_n C.1 C.2.1 dX8_slotOf_37 rfl (lv_at hl 0 rfl) ?_
      refine cg_8_29 C G ha dX8_slotOf_38 (fun t_13 => ?_)
      refine lv_iload_n C.1 C.2.1 dX8_slotOf_41 rfl (lv_at hl 2 rfl) ?_
      obtain ⟨hi, h_14⟩ := ix_some h_11
      refine cl_iald C G t_13 hi dX8_slotOf_42 ?_
      obtain ⟨hi, h_15⟩ := ix_some h_14
      refine cl_aald C G t_12 (by decide) (by decide) rfl hi dX8_slotOf_43 (fun t_16 => ?_)
      refine vt_r (K := 25) t_16 h_15 (fun r_17 t_18 h_19 => ?_)
      refine cl_aload_n C.1 C.2.1 dX8_slotOf_44 rfl (lv_at hl 1 rfl) ?_
      refine cl_acmp_ne (rx := r_17) (ry := x1) (tgt := 50) C.1 C.2.1 dX8_slotOf_45 (by decide) (fun hc => ?_) (fun hc => ?_)
      · rw [if_neg hc] at h_19
        refine lv_iload_n C.1 C.2.1 dX8_slotOf_50 rfl (lv_at hl 2 rfl) ?_
        refine lv_iconst (v := (1:Int32)) C.1 C.2.1 dX8_slotOf_51 (by decide) ?_
        refine lv_iadd C.1 C.2.1 dX8_slotOf_52 ?_
        refine lv_aload_n C.1 C.2.1 dX8_slotOf_53 rfl (lv_at hl 0 rfl) ?_
        refine cg_8_29 C G ha dX8_slotOf_54 (fun t_20 => ?_)
        refine cl_alen C G t_20 dX8_slotOf_57 ?_
        refine lv_iconst (v := (1:Int32)) C.1 C.2.1 dX8_slotOf_58 (by decide) ?_
        refine lv_isub C.1 C.2.1 dX8_slotOf_59 ?_
        refine lv_iand C.1 C.2.1 dX8_slotOf_60 ?_
        refine vt_i h_19 (fun x2_21 h_22 => ?_)
        refine lv_istore_n (lv' := [(2, .int x2_21), (0, .ref (c0 + a)), (1, cl_rf c0 x1), (3, .int x3)]) C.1 C.2.1 dX8_slotOf_61 rfl hl (by decide) (by first | rfl | (cases x1 <;> rfl)) (fun ls hl_23 => ?_)
        refine vl_ex h_22 (fun x3_24 ey h_25 => ?_)
        refine lv_iinc (v := x3_24) (lv' := [(3, .int x3_24), (2, .int x2_21), (0, .ref (c0 + a)), (1, cl_rf c0 x1)]) C.1 C.2.1 dX8_slotOf_62 hl_23 (k := 3) rfl (by rw [ey]; rfl) (by decide) (by first | rfl | (cases x1 <;> rfl)) (fun ls hl_26 => ?_)
        refine lv_goto (tgt := 15) C.1 C.2.1 dX8_slotOf_65 (by decide) ?_
        cases h_25
        exact hP _ _ _ _ _ _ G ha f1 (lv_sub hl_26 [2, 3, 1, 0] rfl)
      · rw [if_pos hc] at h_19
        refine lv_iload_n C.1 C.2.1 dX8_slotOf_48 rfl (lv_at hl 2 rfl) ?_
        cases h_19
        have hP := congrArg some hP
        exact cl_iret ⟨rfl, rfl⟩ rfl C G hP dX8_slotOf_49
noncomputable def bc_X8_slotOf_0 (a : Nat) (x1 : (Option Nat)) (σ : cl_S) : Option (Int32 × cl_S) := nn x1 (fun a_1 => vl ((σ.1 a_1 2) &&& ((nI (cl_ts a)) - (1:Int32))) (fun x2_5 => bc_X8_slotOf_15 a (some a_1) x2_5 (0:Int32) σ))
set_option maxHeartbeats 4000000 in
theorem wc_X8_slotOf_0 (C : cl_C D p s m args meth c cX8_slotOf 4 (some .int) RX8) {r : Int32} {a : Nat} {x1 : (Option Nat)} {σ0 σ σ' : cl_S} {T : Nat → Nat × Nat} {H : Heap} {locs : List Loc} {ls : Array Slot} {cells slots : Nat} (h : bc_X8_slotOf_0 a x1 σ = some (r, σ')) (G : cl_G true D c0 ({ frames := 0, cells := σ0.2.2.2.2.2.1, slots := σ0.2.2.2.2.2.2, locals := 0 }) s σ0.2.2.2.1 T σ H locs cells slots) (ha : (T a).1 = 24) (f1 : cl_RT T x1 25) (hl : lv_has ls 4 [(0, .ref (c0 + a)), (1, cl_rf c0 x1)]) : W p l e ({ frames := 0, cells := σ0.2.2.2.2.2.1, slots := σ0.2.2.2.2.2.2, locals := 0 }) s m args below meth c H locs cells slots (MQ below (cl_Q true D c0 (some (.int r)) cl_no σ0 σ') args s (σ0.2.2.2.2.2.1 - σ'.2.2.2.2.2.1) (σ0.2.2.2.2.2.2 - σ'.2.2.2.2.2.2) (cl_A c0 σ0.2.2.2.1 s.heap.size)) (F0 m 0 ls []) := by
  unfold bc_X8_slotOf_0 at h
  refine cl_aload_n C.1 C.2.1 dX8_slotOf_0 rfl (lv_at hl 1 rfl) ?_
  obtain ⟨a_1, rfl, h_3⟩ := nn_some h
  have t_2 := f1 _ rfl
  refine cg_8_64 C G t_2 dX8_slotOf_1 ?_
  refine lv_aload_n C.1 C.2.1 dX8_slotOf_4 rfl (lv_at hl 0 rfl) ?_
  refine cg_8_29 C G ha dX8_slotOf_5 (fun t_4 => ?_)
  refine cl_alen C G t_4 dX8_slotOf_8 ?_
  refine lv_iconst (v := (1:Int32)) C.1 C.2.1 dX8_slotOf_9 (by decide) ?_
  refine lv_isub C.1 C.2.1 dX8_slotOf_10 ?_
  refine lv_iand C.1 C.2.1 dX8_slotOf_11 ?_
  refine vt_i h_3 (fun x2_5 h_6 => ?_)
  refine lv_istore_n (lv' := [(2, .int x2_5), (0, .ref (c0 + a)), (1, .ref (c0 + a_1))]) C.1 C.2.1 dX8_slotOf_12 rfl hl (by decide) rfl (fun ls hl_7 => ?_)
  refine lv_iconst (v := (0:Int32)) C.1 C.2.1 dX8_slotOf_13 (by decide) ?_
  refine lv_istore_n (lv' := [(3, .int (0:Int32)), (2, .int x2_5), (0, .ref (c0 + a)), (1, .ref (c0 + a_1))]) C.1 C.2.1 dX8_slotOf_14 rfl hl_7 (by decide) rfl (fun ls hl_8 => ?_)
  exact wc_X8_slotOf_15 C h_6 G ha (cl_RTs t_2) (lv_sub hl_8 [2, 3, 1, 0] rfl)
noncomputable def fc_X8_slotOf (a : Nat) (x1 : (Option Nat)) (σ : cl_S) : Option (Int32 × cl_S) := bc_X8_slotOf_0 a x1 σ
theorem kc_X8_slotOf (l : Launch) (D : cl_D) (c0 : Nat) {r : Int32} {a : Nat} {x1 : (Option Nat)} {σ σ' : cl_S} (ha : (σ.2.2.2.1 a).1 = 24) (h : fc_X8_slotOf a x1 σ = some (r, σ')) (f1 : cl_RT σ.2.2.2.1 x1 25) : cl_Met true l D c0 yX8_slotOf cX8_slotOf 4 (some .int) 0 0 [.ref (c0 + a), cl_rf c0 x1] σ (some (.int r)) cl_no σ' :=
  by cases x1 <;> exact cl_of (by decide) (Nat.le_of_ble_eq_true rfl) (fun p e s m args below meth c ls C hn G hl => wc_X8_slotOf_0 C h G ha f1 hl)
abbrev cX8_isFull : ByteArray := prog_10_method_4_code
def yX8_isFull : MethodName := ⟨RX8, "isFull", "()Z"⟩
theorem dX8_isFull_0 : decode cX8_isFull 0 = .ok (.aload_n 0, 1) := by decide +kernel
theorem dX8_isFull_1 : decode cX8_isFull 1 = .ok (.getfield 33, 3) := by decide +kernel
theorem dX8_isFull_4 : decode cX8_isFull 4 = .ok (.aload_n 0, 1) := by decide +kernel
theorem dX8_isFull_5 : decode cX8_isFull 5 = .ok (.getfield 15, 3) := by decide +kernel
theorem dX8_isFull_8 : decode cX8_isFull 8 = .ok (.if_icmp .lt 7, 3) := by decide +kernel
theorem dX8_isFull_11 : decode cX8_isFull 11 = .ok (.iconst 1, 1) := by decide +kernel
theorem dX8_isFull_12 : decode cX8_isFull 12 = .ok (.goto 4, 3) := by decide +kernel
theorem dX8_isFull_15 : decode cX8_isFull 15 = .ok (.iconst 0, 1) := by decide +kernel
theorem dX8_isFull_16 : decode cX8_isFull 16 = .ok (.ireturn, 1) := by decide +kernel
theorem cc_X8_isFull : Cond.code yX8_isFull cX8_isFull 1 (some .boolean) ∈ rf_tb := rf_at 1224 (by decide +kernel) (by decide +kernel)
noncomputable def bc_X8_isFull_0 (a : Nat) (σ : cl_S) : Option (Int32 × cl_S) := (if (σ.1 a 5) < (σ.1 a 1) then some ((0:Int32), σ) else some ((1:Int32), σ))
set_option maxHeartbeats 4000000 in
theorem wc_X8_isFull_0 (C : cl_C D p s m args meth c cX8_isFull 1 (some .boolean) RX8) {r : Int32} {a : Nat} {σ0 σ σ' : cl_S} {T : Nat → Nat × Nat} {H : Heap} {locs : List Loc} {ls : Array Slot} {cells slots : Nat} (h : bc_X8_isFull_0 a σ = some (r, σ')) (G : cl_G true D c0 ({ frames := 0, cells := σ0.2.2.2.2.2.1, slots := σ0.2.2.2.2.2.2, locals := 0 }) s σ0.2.2.2.1 T σ H locs cells slots) (ha : (T a).1 = 24) (hl : lv_has ls 1 [(0, .ref (c0 + a))]) : W p l e ({ frames := 0, cells := σ0.2.2.2.2.2.1, slots := σ0.2.2.2.2.2.2, locals := 0 }) s m args below meth c H locs cells slots (MQ below (cl_Q true D c0 (some (.int r)) cl_no σ0 σ') args s (σ0.2.2.2.2.2.1 - σ'.2.2.2.2.2.1) (σ0.2.2.2.2.2.2 - σ'.2.2.2.2.2.2) (cl_A c0 σ0.2.2.2.1 s.heap.size)) (F0 m 0 ls []) := by
  unfold bc_X8_isFull_0 at h
  refine lv_aload_n C.1 C.2.1 dX8_isFull_0 rfl (lv_at hl 0 rfl) ?_
  refine cg_8_33 C G ha dX8_isFull_1 ?_
  refine lv_aload_n C.1 C.2.1 dX8_isFull_4 rfl (lv_at hl 0 rfl) ?_
  refine cg_8_15 C G ha dX8_isFull_5 ?_
  refine lv_icmp_lt (tgt := 15) C.1 C.2.1 dX8_isFull_8 (by decide) (fun hc => ?_) (fun hc => ?_)
  · rw [if_pos hc] at h
    refine lv_iconst (v := (0:Int32)) C.1 C.2.1 dX8_isFull_15 (by decide) ?_
    exact cl_zret ⟨rfl, rfl⟩ rfl C G h rfl dX8_isFull_16
  · rw [if_neg hc] at h
    refine lv_iconst (v := (1:Int32)) C.1 C.2.1 dX8_isFull_11 (by decide) ?_
    refine lv_goto (tgt := 16) C.1 C.2.1 dX8_isFull_12 (by decide) ?_
    exact cl_zret ⟨rfl, rfl⟩ rfl C G h rfl dX8_isFull_16
noncomputable def fc_X8_isFull (a : Nat) (σ : cl_S) : Option (Int32 × cl_S) := bc_X8_isFull_0 a σ
theorem kc_X8_isFull (l : Launch) (D : cl_D) (c0 : Nat) {r : Int32} {a : Nat} {σ σ' : cl_S} (ha : (σ.2.2.2.1 a).1 = 24) (h : fc_X8_isFull a σ = some (r, σ')) : cl_Met true l D c0 yX8_isFull cX8_isFull 1 (some .boolean) 0 0 [.ref (c0 + a)] σ (some (.int r)) cl_no σ' :=
  cl_of (by decide) (Nat.le_of_ble_eq_true rfl) (fun p e s m args below meth c ls C hn G hl => wc_X8_isFull_0 C h G ha hl)
abbrev cX10_tell : ByteArray := prog_12_method_13_code
def yX10_tell : MethodName := ⟨RX10, "tell", "(LPartHouse$Term;)V"⟩
theorem dX10_tell_0 : decode cX10_tell 0 = .ok (.aload_n 1, 1) := by decide +kernel
theorem dX10_tell_1 : decode cX10_tell 1 = .ok (.getfield 125, 3) := by decide +kernel
theorem dX10_tell_4 : decode cX10_tell 4 = .ok (.ifCond .ne 13, 3) := by decide +kernel
theorem dX10_tell_7 : decode cX10_tell 7 = .ok (.aload_n 1, 1) := by decide +kernel
theorem dX10_tell_8 : decode cX10_tell 8 = .ok (.iconst 1, 1) := by decide +kernel
theorem dX10_tell_9 : decode cX10_tell 9 = .ok (.putfield 125, 3) := by decide +kernel
theorem dX10_tell_12 : decode cX10_tell 12 = .ok (.aload_n 0, 1) := by decide +kernel
theorem dX10_tell_13 : decode cX10_tell 13 = .ok (.iconst 0, 1) := by decide +kernel
theorem dX10_tell_14 : decode cX10_tell 14 = .ok (.putfield 85, 3) := by decide +kernel
theorem dX10_tell_17 : decode cX10_tell 17 = .ok (.return_, 1) := by decide +kernel
theorem cc_X10_tell : Cond.code yX10_tell cX10_tell 2 none ∈ rf_tb := rf_at 317 (by decide +kernel) (by decide +kernel)
noncomputable def bc_X10_tell_0 (a : Nat) (x1 : (Option Nat)) (σ : cl_S) : Option (cl_S) := nn x1 (fun a_1 => (if (σ.1 a_1 9) = 0 then vl (cl_w σ a_1 9 (1:Int32)) (fun σ_4 => vl (cl_w σ_4 a 8 (0:Int32)) (fun σ_8 => some σ_8)) else some σ))
set_option maxHeartbeats 4000000 in
theorem wc_X10_tell_0 (C : cl_C D p s m args meth c cX10_tell 2 none RX10) {a : Nat} {x1 : (Option Nat)} {σ0 σ σ' : cl_S} {T : Nat → Nat × Nat} {H : Heap} {locs : List Loc} {ls : Array Slot} {cells slots : Nat} (h : bc_X10_tell_0 a x1 σ = some σ') (G : cl_G true D c0 ({ frames := 0, cells := σ0.2.2.2.2.2.1, slots := σ0.2.2.2.2.2.2, locals := 0 }) s σ0.2.2.2.1 T σ H locs cells slots) (ha : (T a).1 = 26) (f1 : cl_RT T x1 25) (hl : lv_has ls 2 [(0, .ref (c0 + a)), (1, cl_rf c0 x1)]) : W p l e ({ frames := 0, cells := σ0.2.2.2.2.2.1, slots := σ0.2.2.2.2.2.2, locals := 0 }) s m args below meth c H locs cells slots (MQ below (cl_Q true D c0 none cl_no σ0 σ') args s (σ0.2.2.2.2.2.1 - σ'.2.2.2.2.2.1) (σ0.2.2.2.2.2.2 - σ'.2.2.2.2.2.2) (cl_A c0 σ0.2.2.2.1 s.heap.size)) (F0 m 0 ls []) := by
  unfold bc_X10_tell_0 at h
  refine cl_aload_n C.1 C.2.1 dX10_tell_0 rfl (lv_at hl 1 rfl) ?_
  obtain ⟨a_1, rfl, h_3⟩ := nn_some h
  have t_2 := f1 _ rfl
  refine cg_10_125 C G t_2 dX10_tell_1 ?_
  refine lv_if_ne (tgt := 17) C.1 C.2.1 dX10_tell_4 (by decide) (fun hc => ?_) (fun hc => ?_)
  · rw [if_neg hc] at h_3
    exact cl_vret ⟨rfl, rfl⟩ rfl C G h_3 dX10_tell_17
  · rw [if_pos hc] at h_3
    refine lv_aload_n C.1 C.2.1 dX10_tell_7 rfl (lv_at hl 1 rfl) ?_
    refine lv_iconst (v := (1:Int32)) C.1 C.2.1 dX10_tell_8 (by decide) ?_
    refine cp_10_125 C G t_2 rfl rfl dX10_tell_9 (fun H locs G_5 => ?_)
    refine cl_nm G_5 h_3 (fun σ_4 G_6 h_7 => ?_)
    refine lv_aload_n C.1 C.2.1 dX10_tell_12 rfl (lv_at hl 0 rfl) ?_
    refine lv_iconst (v := (0:Int32)) C.1 C.2.1 dX10_tell_13 (by decide) ?_
    refine cp_10_85 C G_6 ha rfl rfl dX10_tell_14 (fun H locs G_9 => ?_)
    refine cl_nm G_9 h_7 (fun σ_8 G_10 h_11 => ?_)
    exact cl_vret ⟨rfl, rfl⟩ rfl C G_10 h_11 dX10_tell_17
noncomputable def fc_X10_tell (a : Nat) (x1 : (Option Nat)) (σ : cl_S) : Option (cl_S) := bc_X10_tell_0 a x1 σ
theorem kc_X10_tell (l : Launch) (D : cl_D) (c0 : Nat) {a : Nat} {x1 : (Option Nat)} {σ σ' : cl_S} (ha : (σ.2.2.2.1 a).1 = 26) (h : fc_X10_tell a x1 σ = some σ') (f1 : cl_RT σ.2.2.2.1 x1 25) : cl_Met true l D c0 yX10_tell cX10_tell 2 none 0 0 [.ref (c0 + a), cl_rf c0 x1] σ none cl_no σ' :=
  by cases x1 <;> exact cl_of (by decide) (Nat.le_of_ble_eq_true rfl) (fun p e s m args below meth c ls C hn G hl => wc_X10_tell_0 C h G ha f1 hl)
abbrev cX8_comeIn : ByteArray := prog_10_method_6_code
def yX8_comeIn : MethodName := ⟨RX8, "comeIn", "(LPartHouse$Term;)I"⟩
theorem dX8_comeIn_0 : decode cX8_comeIn 0 = .ok (.aload_n 0, 1) := by decide +kernel
theorem dX8_comeIn_1 : decode cX8_comeIn 1 = .ok (.aload_n 1, 1) := by decide +kernel
theorem dX8_comeIn_2 : decode cX8_comeIn 2 = .ok (.invokevirtual 52, 3) := by decide +kernel
theorem dX8_comeIn_5 : decode cX8_comeIn 5 = .ok (.istore_n 2, 1) := by decide +kernel
theorem dX8_comeIn_6 : decode cX8_comeIn 6 = .ok (.aload_n 0, 1) := by decide +kernel
theorem dX8_comeIn_7 : decode cX8_comeIn 7 = .ok (.getfield 29, 3) := by decide +kernel
theorem dX8_comeIn_10 : decode cX8_comeIn 10 = .ok (.iload_n 2, 1) := by decide +kernel
theorem dX8_comeIn_11 : decode cX8_comeIn 11 = .ok (.iaload, 1) := by decide +kernel
theorem dX8_comeIn_12 : decode cX8_comeIn 12 = .ok (.ifCond .eq 10, 3) := by decide +kernel
theorem dX8_comeIn_15 : decode cX8_comeIn 15 = .ok (.aload_n 0, 1) := by decide +kernel
theorem dX8_comeIn_16 : decode cX8_comeIn 16 = .ok (.getfield 29, 3) := by decide +kernel
theorem dX8_comeIn_19 : decode cX8_comeIn 19 = .ok (.iload_n 2, 1) := by decide +kernel
theorem dX8_comeIn_20 : decode cX8_comeIn 20 = .ok (.iaload, 1) := by decide +kernel
theorem dX8_comeIn_21 : decode cX8_comeIn 21 = .ok (.ireturn, 1) := by decide +kernel
theorem dX8_comeIn_22 : decode cX8_comeIn 22 = .ok (.aload_n 0, 1) := by decide +kernel
theorem dX8_comeIn_23 : decode cX8_comeIn 23 = .ok (.invokevirtual 56, 3) := by decide +kernel
theorem dX8_comeIn_26 : decode cX8_comeIn 26 = .ok (.ifCond .eq 6, 3) := by decide +kernel
theorem dX8_comeIn_29 : decode cX8_comeIn 29 = .ok (.bipush (-4), 2) := by decide +kernel
theorem dX8_comeIn_31 : decode cX8_comeIn 31 = .ok (.ireturn, 1) := by decide +kernel
theorem dX8_comeIn_32 : decode cX8_comeIn 32 = .ok (.aload_n 0, 1) := by decide +kernel
theorem dX8_comeIn_33 : decode cX8_comeIn 33 = .ok (.dup, 1) := by decide +kernel
theorem dX8_comeIn_34 : decode cX8_comeIn 34 = .ok (.getfield 33, 3) := by decide +kernel
theorem dX8_comeIn_37 : decode cX8_comeIn 37 = .ok (.iconst 1, 1) := by decide +kernel
theorem dX8_comeIn_38 : decode cX8_comeIn 38 = .ok (.iadd, 1) := by decide +kernel
theorem dX8_comeIn_39 : decode cX8_comeIn 39 = .ok (.putfield 33, 3) := by decide +kernel
theorem dX8_comeIn_42 : decode cX8_comeIn 42 = .ok (.aload_n 0, 1) := by decide +kernel
theorem dX8_comeIn_43 : decode cX8_comeIn 43 = .ok (.getfield 25, 3) := by decide +kernel
theorem dX8_comeIn_46 : decode cX8_comeIn 46 = .ok (.aload_n 0, 1) := by decide +kernel
theorem dX8_comeIn_47 : decode cX8_comeIn 47 = .ok (.getfield 33, 3) := by decide +kernel
theorem dX8_comeIn_50 : decode cX8_comeIn 50 = .ok (.aload_n 1, 1) := by decide +kernel
theorem dX8_comeIn_51 : decode cX8_comeIn 51 = .ok (.aastore, 1) := by decide +kernel
theorem dX8_comeIn_52 : decode cX8_comeIn 52 = .ok (.aload_n 0, 1) := by decide +kernel
theorem dX8_comeIn_53 : decode cX8_comeIn 53 = .ok (.getfield 29, 3) := by decide +kernel
theorem dX8_comeIn_56 : decode cX8_comeIn 56 = .ok (.iload_n 2, 1) := by decide +kernel
theorem dX8_comeIn_57 : decode cX8_comeIn 57 = .ok (.aload_n 0, 1) := by decide +kernel
theorem dX8_comeIn_58 : decode cX8_comeIn 58 = .ok (.getfield 33, 3) := by decide +kernel
theorem dX8_comeIn_61 : decode cX8_comeIn 61 = .ok (.iastore, 1) := by decide +kernel
theorem dX8_comeIn_62 : decode cX8_comeIn 62 = .ok (.aload_n 0, 1) := by decide +kernel
theorem dX8_comeIn_63 : decode cX8_comeIn 63 = .ok (.getfield 19, 3) := by decide +kernel
theorem dX8_comeIn_66 : decode cX8_comeIn 66 = .ok (.ifCond .eq 11, 3) := by decide +kernel
theorem dX8_comeIn_69 : decode cX8_comeIn 69 = .ok (.aload_n 0, 1) := by decide +kernel
theorem dX8_comeIn_70 : decode cX8_comeIn 70 = .ok (.getfield 9, 3) := by decide +kernel
theorem dX8_comeIn_73 : decode cX8_comeIn 73 = .ok (.aload_n 1, 1) := by decide +kernel
theorem dX8_comeIn_74 : decode cX8_comeIn 74 = .ok (.invokevirtual 60, 3) := by decide +kernel
theorem dX8_comeIn_77 : decode cX8_comeIn 77 = .ok (.aload_n 0, 1) := by decide +kernel
theorem dX8_comeIn_78 : decode cX8_comeIn 78 = .ok (.getfield 33, 3) := by decide +kernel
theorem dX8_comeIn_81 : decode cX8_comeIn 81 = .ok (.ireturn, 1) := by decide +kernel
theorem cc_X8_comeIn : Cond.code yX8_comeIn cX8_comeIn 3 (some .int) ∈ rf_tb := rf_at 1216 (by decide +kernel) (by decide +kernel)
theorem cw_RX8_52 : cl_wV RX8 RX8 yX8_slotOf cX8_slotOf 4 (some .int) 52 1 := ⟨⟨rf_at 1217 (by decide +kernel) (by decide +kernel), rf_at 1219 (by decide +kernel) (by decide +kernel), rf_sel (q := (yX8_slotOf, 6)) 49 (by decide +kernel) (by decide +kernel), cc_X8_slotOf, rf_at 11 (by decide +kernel) (by decide +kernel)⟩, ⟨by decide, by decide, by decide +kernel⟩⟩
theorem cw_RX8_56 : cl_wV RX8 RX8 yX8_isFull cX8_isFull 1 (some .boolean) 56 0 := ⟨⟨rf_at 1221 (by decide +kernel) (by decide +kernel), rf_at 1222 (by decide +kernel) (by decide +kernel), rf_at 1223 (by decide +kernel) (by decide +kernel), cc_X8_isFull, rf_at 11 (by decide +kernel) (by decide +kernel)⟩, ⟨by decide, by decide, by decide +kernel⟩⟩
theorem cw_RX8_60 : cl_wV RX8 RX10 yX10_tell cX10_tell 2 none 60 1 := ⟨⟨rf_at 1225 (by decide +kernel) (by decide +kernel), rf_at 315 (by decide +kernel) (by decide +kernel), rf_at 316 (by decide +kernel) (by decide +kernel), cc_X10_tell, rf_at 9 (by decide +kernel) (by decide +kernel)⟩, ⟨by decide, by decide, by decide +kernel⟩⟩
noncomputable def bc_X8_comeIn_0 (a : Nat) (x1 : (Option Nat)) (σ : cl_S) : Option (Int32 × cl_S) := bd2 (fc_X8_slotOf a x1 σ) (fun r_2 σ_1 => ix r_2 (cl_ts a) ((if (σ_1.1 (a + 2) r_2.toNatClampNeg) = 0 then bd2 (fc_X8_isFull a σ_1) (fun r_11 σ_10 => (if r_11 = 0 then vl (cl_w σ_10 a 5 ((σ_10.1 a 5) + (1:Int32))) (fun σ_16 => ix (σ_16.1 a 5) (cl_th a) (vl (cl_wr σ_16 (a + 1) (σ_16.1 a 5).toNatClampNeg x1) (fun σ_21 => ix r_2 (cl_ts a) (vl (cl_w σ_21 (a + 2) r_2.toNatClampNeg (σ_21.1 a 5)) (fun σ_27 => (if (σ_27.1 a 2) = 0 then some ((σ_27.1 a 5), σ_27) else bd1 (fc_X10_tell 31 x1 σ_27) (fun σ_33 => some ((σ_33.1 a 5), σ_33)))))))) else some ((-4:Int32), σ_10))) else ix r_2 (cl_ts a) (some ((σ_1.1 (a + 2) r_2.toNatClampNeg), σ_1)))))
set_option maxHeartbeats 4000000 in
theorem wc_X8_comeIn_0 (C : cl_C D p s m args meth c cX8_comeIn 3 (some .int) RX8) {r : Int32} {a : Nat} {x1 : (Option Nat)} {σ0 σ σ' : cl_S} {T : Nat → Nat × Nat} {H : Heap} {locs : List Loc} {ls : Array Slot} {cells slots : Nat} (h : bc_X8_comeIn_0 a x1 σ = some (r, σ')) (G : cl_G true D c0 ({ frames := 1, cells := σ0.2.2.2.2.2.1, slots := σ0.2.2.2.2.2.2, locals := 23 }) s σ0.2.2.2.1 T σ H locs cells slots) (ha : (T a).1 = 24) (f1 : cl_RT T x1 25) (hl : lv_has ls 3 [(0, .ref (c0 + a)), (1, cl_rf c0 x1)]) : W p l e ({ frames := 1, cells := σ0.2.2.2.2.2.1, slots := σ0.2.2.2.2.2.2, locals := 23 }) s m args below meth c H locs cells slots (MQ below (cl_Q true D c0 (some (.int r)) cl_no σ0 σ') args s (σ0.2.2.2.2.2.1 - σ'.2.2.2.2.2.1) (σ0.2.2.2.2.2.2 - σ'.2.2.2.2.2.2) (cl_A c0 σ0.2.2.2.1 s.heap.size)) (F0 m 0 ls []) := by
  unfold bc_X8_comeIn_0 at h
  refine lv_aload_n C.1 C.2.1 dX8_comeIn_0 rfl (lv_at hl 0 rfl) ?_
  refine cl_aload_n C.1 C.2.1 dX8_comeIn_1 rfl (lv_at hl 1 rfl) ?_
  obtain ⟨r_2, σ_1, hq, h_3⟩ := bd2_some h
  refine cl_callV (ci := 8) (rest := []) C G rfl ha cw_RX8_52 [cl_rf c0 x1] _ (kc_X8_slotOf l D c0 (by rw [G.1]; exact ha) hq (by rw [G.1]; exact f1)) (Nat.le_of_ble_eq_true rfl) (Nat.le_of_ble_eq_true rfl) rfl rfl hl.1 (Nat.le_of_ble_eq_true rfl) dX8_comeIn_2 (fun T_4 H locs cells slots t_5 hu G_6 => ?_)
  have ha := hu.kind ha (by decide)
  have f1 := f1.up hu (by decide)
  refine W.eq (g2 := F0 m 5 ls [.int r_2]) rfl ?_
  refine lv_istore_n (lv' := [(2, .int r_2), (0, .ref (c0 + a)), (1, cl_rf c0 x1)]) C.1 C.2.1 dX8_comeIn_5 rfl hl (by decide) (by first | rfl | (cases x1 <;> rfl)) (fun ls hl_7 => ?_)
  refine lv_aload_n C.1 C.2.1 dX8_comeIn_6 rfl (lv_at hl_7 1 rfl) ?_
  refine cg_8_29 C G_6 ha dX8_comeIn_7 (fun t_8 => ?_)
  refine lv_iload_n C.1 C.2.1 dX8_comeIn_10 rfl (lv_at hl_7 0 rfl) ?_
  obtain ⟨hi, h_9⟩ := ix_some h_3
  refine cl_iald C G_6 t_8 hi dX8_comeIn_11 ?_
  refine lv_if_eq (tgt := 22) C.1 C.2.1 dX8_comeIn_12 (by decide) (fun hc => ?_) (fun hc => ?_)
  · rw [if_pos hc] at h_9
    refine lv_aload_n C.1 C.2.1 dX8_comeIn_22 rfl (lv_at hl_7 1 rfl) ?_
    obtain ⟨r_11, σ_10, hq, h_12⟩ := bd2_some h_9
    refine cl_callV (ci := 8) (rest := []) C G_6 rfl ha cw_RX8_56 [] _ (kc_X8_isFull l D c0 (by rw [G_6.1]; exact ha) hq) (Nat.le_of_ble_eq_true rfl) (Nat.le_of_ble_eq_true rfl) rfl rfl hl_7.1 (Nat.le_of_ble_eq_true rfl) dX8_comeIn_23 (fun T_13 H locs cells slots t_14 hu G_15 => ?_)
    have ha := hu.kind ha (by decide)
    have f1 := f1.up hu (by decide)
    refine W.eq (g2 := F0 m 26 ls [.int r_11]) rfl ?_
    refine lv_if_eq (tgt := 32) C.1 C.2.1 dX8_comeIn_26 (by decide) (fun hc => ?_) (fun hc => ?_)
    · rw [if_pos hc] at h_12
      refine lv_aload_n C.1 C.2.1 dX8_comeIn_32 rfl (lv_at hl_7 1 rfl) ?_
      refine lv_dup C.1 C.2.1 dX8_comeIn_33 rfl ?_
      refine cg_8_33 C G_15 ha dX8_comeIn_34 ?_
      refine lv_iconst (v := (1:Int32)) C.1 C.2.1 dX8_comeIn_37 (by decide) ?_
      refine lv_iadd C.1 C.2.1 dX8_comeIn_38 ?_
      refine cp_8_33 C G_15 ha dX8_comeIn_39 (fun H locs G_17 => ?_)
      refine cl_nm G_17 h_12 (fun σ_16 G_18 h_19 => ?_)
      refine lv_aload_n C.1 C.2.1 dX8_comeIn_42 rfl (lv_at hl_7 1 rfl) ?_
      refine cg_8_25 C G_18 ha dX8_comeIn_43 (fun t_20 => ?_)
      refine lv_aload_n C.1 C.2.1 dX8_comeIn_46 rfl (lv_at hl_7 1 rfl) ?_
      refine cg_8_33 C G_18 ha dX8_comeIn_47 ?_
      refine cl_aload_n C.1 C.2.1 dX8_comeIn_50 rfl (lv_at hl_7 2 rfl) ?_
      obtain ⟨hi, h_22⟩ := ix_some h_19
      refine cl_aast (ci := 9) (x := x1) C G_18 rfl rfl rfl t_20 (by decide) (by decide) f1 hi dX8_comeIn_51 (fun H locs G_23 => ?_)
      refine cl_nm G_23 h_22 (fun σ_21 G_24 h_25 => ?_)
      refine lv_aload_n C.1 C.2.1 dX8_comeIn_52 rfl (lv_at hl_7 1 rfl) ?_
      refine cg_8_29 C G_24 ha dX8_comeIn_53 (fun t_26 => ?_)
      refine lv_iload_n C.1 C.2.1 dX8_comeIn_56 rfl (lv_at hl_7 0 rfl) ?_
      refine lv_aload_n C.1 C.2.1 dX8_comeIn_57 rfl (lv_at hl_7 1 rfl) ?_
      refine cg_8_33 C G_24 ha dX8_comeIn_58 ?_
      obtain ⟨hi, h_28⟩ := ix_some h_25
      refine cl_iast C G_24 t_26 hi dX8_comeIn_61 (fun H locs G_29 => ?_)
      refine cl_nm G_29 h_28 (fun σ_27 G_30 h_31 => ?_)
      refine lv_aload_n C.1 C.2.1 dX8_comeIn_62 rfl (lv_at hl_7 1 rfl) ?_
      refine cg_8_19 C G_30 ha dX8_comeIn_63 ?_
      refine lv_if_eq (tgt := 77) C.1 C.2.1 dX8_comeIn_66 (by decide) (fun hc => ?_) (fun hc => ?_)
      · rw [if_pos hc] at h_31
        refine lv_aload_n C.1 C.2.1 dX8_comeIn_77 rfl (lv_at hl_7 1 rfl) ?_
        refine cg_8_33 C G_30 ha dX8_comeIn_78 ?_
        exact cl_iret ⟨rfl, rfl⟩ rfl C G_30 h_31 dX8_comeIn_81
      · rw [if_neg hc] at h_31
        refine lv_aload_n C.1 C.2.1 dX8_comeIn_69 rfl (lv_at hl_7 1 rfl) ?_
        refine cg_8_9 C G_30 ha dX8_comeIn_70 (fun t_32 => ?_)
        have t_32 : (T_13 31).1 = 26 := by rw [t_32]
        refine cl_aload_n C.1 C.2.1 dX8_comeIn_73 rfl (lv_at hl_7 2 rfl) ?_
        obtain ⟨σ_33, hq, h_34⟩ := bd1_some h_31
        refine cl_callV (ci := 10) (rest := []) C G_30 rfl t_32 cw_RX8_60 [cl_rf c0 x1] _ (kc_X10_tell l D c0 (by rw [G_30.1]; exact t_32) hq (by rw [G_30.1]; exact f1)) (Nat.le_of_ble_eq_true rfl) (Nat.le_of_ble_eq_true rfl) rfl rfl hl_7.1 (Nat.le_of_ble_eq_true rfl) dX8_comeIn_74 (fun T_35 H locs cells slots t_36 hu G_37 => ?_)
        have ha := hu.kind ha (by decide)
        have f1 := f1.up hu (by decide)
        refine W.eq (g2 := F0 m 77 ls []) rfl ?_
        refine lv_aload_n C.1 C.2.1 dX8_comeIn_77 rfl (lv_at hl_7 1 rfl) ?_
        refine cg_8_33 C G_37 ha dX8_comeIn_78 ?_
        exact cl_iret ⟨rfl, rfl⟩ rfl C G_37 h_34 dX8_comeIn_81
    · rw [if_neg hc] at h_12
      refine lv_bipush (v := (-4:Int32)) C.1 C.2.1 dX8_comeIn_29 (by decide) ?_
      exact cl_iret ⟨rfl, rfl⟩ rfl C G_15 h_12 dX8_comeIn_31
  · rw [if_neg hc] at h_9
    refine lv_aload_n C.1 C.2.1 dX8_comeIn_15 rfl (lv_at hl_7 1 rfl) ?_
    refine cg_8_29 C G_6 ha dX8_comeIn_16 (fun t_38 => ?_)
    refine lv_iload_n C.1 C.2.1 dX8_comeIn_19 rfl (lv_at hl_7 0 rfl) ?_
    obtain ⟨hi, h_39⟩ := ix_some h_9
    refine cl_iald C G_6 t_38 hi dX8_comeIn_20 ?_
    exact cl_iret ⟨rfl, rfl⟩ rfl C G_6 h_39 dX8_comeIn_21
noncomputable def fc_X8_comeIn (a : Nat) (x1 : (Option Nat)) (σ : cl_S) : Option (Int32 × cl_S) := bc_X8_comeIn_0 a x1 σ
theorem kc_X8_comeIn (l : Launch) (D : cl_D) (c0 : Nat) {r : Int32} {a : Nat} {x1 : (Option Nat)} {σ σ' : cl_S} (ha : (σ.2.2.2.1 a).1 = 24) (h : fc_X8_comeIn a x1 σ = some (r, σ')) (f1 : cl_RT σ.2.2.2.1 x1 25) : cl_Met true l D c0 yX8_comeIn cX8_comeIn 3 (some .int) 1 23 [.ref (c0 + a), cl_rf c0 x1] σ (some (.int r)) cl_no σ' :=
  by cases x1 <;> exact cl_of (by decide) (Nat.le_of_ble_eq_true rfl) (fun p e s m args below meth c ls C hn G hl => wc_X8_comeIn_0 C h G ha f1 hl)
abbrev cX5_receiveTerm : ByteArray := prog_7_method_18_code
def yX5_receiveTerm : MethodName := ⟨RX5, "receiveTerm", "(LPartHouse$Partition;I)I"⟩
theorem dX5_receiveTerm_0 : decode cX5_receiveTerm 0 = .ok (.aload_n 0, 1) := by decide +kernel
theorem dX5_receiveTerm_1 : decode cX5_receiveTerm 1 = .ok (.aload_n 1, 1) := by decide +kernel
theorem dX5_receiveTerm_2 : decode cX5_receiveTerm 2 = .ok (.iload_n 2, 1) := by decide +kernel
theorem dX5_receiveTerm_3 : decode cX5_receiveTerm 3 = .ok (.invokevirtual 332, 3) := by decide +kernel
theorem dX5_receiveTerm_6 : decode cX5_receiveTerm 6 = .ok (.ifCond .ne 5, 3) := by decide +kernel
theorem dX5_receiveTerm_9 : decode cX5_receiveTerm 9 = .ok (.iconst (-1), 1) := by decide +kernel
theorem dX5_receiveTerm_10 : decode cX5_receiveTerm 10 = .ok (.ireturn, 1) := by decide +kernel
theorem dX5_receiveTerm_11 : decode cX5_receiveTerm 11 = .ok (.aload_n 0, 1) := by decide +kernel
theorem dX5_receiveTerm_12 : decode cX5_receiveTerm 12 = .ok (.getfield 35, 3) := by decide +kernel
theorem dX5_receiveTerm_15 : decode cX5_receiveTerm 15 = .ok (.iload_n 2, 1) := by decide +kernel
theorem dX5_receiveTerm_16 : decode cX5_receiveTerm 16 = .ok (.aaload, 1) := by decide +kernel
theorem dX5_receiveTerm_17 : decode cX5_receiveTerm 17 = .ok (.aload_n 0, 1) := by decide +kernel
theorem dX5_receiveTerm_18 : decode cX5_receiveTerm 18 = .ok (.getfield 51, 3) := by decide +kernel
theorem dX5_receiveTerm_21 : decode cX5_receiveTerm 21 = .ok (.getfield 83, 3) := by decide +kernel
theorem dX5_receiveTerm_24 : decode cX5_receiveTerm 24 = .ok (.if_acmp .ne 7, 3) := by decide +kernel
theorem dX5_receiveTerm_27 : decode cX5_receiveTerm 27 = .ok (.iconst 0, 1) := by decide +kernel
theorem dX5_receiveTerm_28 : decode cX5_receiveTerm 28 = .ok (.goto 16, 3) := by decide +kernel
theorem dX5_receiveTerm_31 : decode cX5_receiveTerm 31 = .ok (.aload_n 1, 1) := by decide +kernel
theorem dX5_receiveTerm_32 : decode cX5_receiveTerm 32 = .ok (.getfield 199, 3) := by decide +kernel
theorem dX5_receiveTerm_35 : decode cX5_receiveTerm 35 = .ok (.aload_n 0, 1) := by decide +kernel
theorem dX5_receiveTerm_36 : decode cX5_receiveTerm 36 = .ok (.getfield 35, 3) := by decide +kernel
theorem dX5_receiveTerm_39 : decode cX5_receiveTerm 39 = .ok (.iload_n 2, 1) := by decide +kernel
theorem dX5_receiveTerm_40 : decode cX5_receiveTerm 40 = .ok (.aaload, 1) := by decide +kernel
theorem dX5_receiveTerm_41 : decode cX5_receiveTerm 41 = .ok (.invokevirtual 282, 3) := by decide +kernel
theorem dX5_receiveTerm_44 : decode cX5_receiveTerm 44 = .ok (.ireturn, 1) := by decide +kernel
theorem cc_X5_receiveTerm : Cond.code yX5_receiveTerm cX5_receiveTerm 3 (some .int) ∈ rf_tb := rf_at 1212 (by decide +kernel) (by decide +kernel)
theorem cw_RX5_282 : cl_wV RX5 RX8 yX8_comeIn cX8_comeIn 3 (some .int) 282 1 := ⟨⟨rf_at 1213 (by decide +kernel) (by decide +kernel), rf_at 1214 (by decide +kernel) (by decide +kernel), rf_at 1215 (by decide +kernel) (by decide +kernel), cc_X8_comeIn, rf_at 11 (by decide +kernel) (by decide +kernel)⟩, ⟨by decide, by decide, by decide +kernel⟩⟩
noncomputable def bc_X5_receiveTerm_0 (a : Nat) (x1 : (Option Nat)) (x2 : Int32) (σ : cl_S) : Option (Int32 × cl_S) := bd2 (fc_X5_isTo a x1 x2 σ) (fun r_2 σ_1 => (if r_2 = 0 then some ((-1:Int32), σ_1) else ix x2 16 (vl (σ_1.2.2.1 (a + 31 + cl_md a) x2.toNatClampNeg) (fun r_10 => vl (σ_1.2.2.1 31 4) (fun r_15 => (if r_10 = r_15 then some ((0:Int32), σ_1) else nn x1 (fun a_18 => ix x2 16 (vl (σ_1.2.2.1 (a + 31 + cl_md a) x2.toNatClampNeg) (fun r_25 => bd2 (fc_X8_comeIn (a_18 + 9) r_25 σ_1) (fun r_29 σ_28 => some (r_29, σ_28)))))))))))
set_option maxHeartbeats 4000000 in
theorem wc_X5_receiveTerm_0 (C : cl_C D p s m args meth c cX5_receiveTerm 3 (some .int) RX5) {r : Int32} {a : Nat} {x1 : (Option Nat)} {x2 : Int32} {σ0 σ σ' : cl_S} {T : Nat → Nat × Nat} {H : Heap} {locs : List Loc} {ls : Array Slot} {cells slots : Nat} (h : bc_X5_receiveTerm_0 a x1 x2 σ = some (r, σ')) (G : cl_G true D c0 ({ frames := 2, cells := σ0.2.2.2.2.2.1, slots := σ0.2.2.2.2.2.2, locals := 45 }) s σ0.2.2.2.1 T σ H locs cells slots) (ha : (T a).1 = 21) (f1 : cl_RT T x1 22) (hl : lv_has ls 3 [(0, .ref (c0 + a)), (1, cl_rf c0 x1), (2, .int x2)]) : W p l e ({ frames := 2, cells := σ0.2.2.2.2.2.1, slots := σ0.2.2.2.2.2.2, locals := 45 }) s m args below meth c H locs cells slots (MQ below (cl_Q true D c0 (some (.int r)) cl_no σ0 σ') args s (σ0.2.2.2.2.2.1 - σ'.2.2.2.2.2.1) (σ0.2.2.2.2.2.2 - σ'.2.2.2.2.2.2) (cl_A c0 σ0.2.2.2.1 s.heap.size)) (F0 m 0 ls []) := by
  unfold bc_X5_receiveTerm_0 at h
  refine lv_aload_n C.1 C.2.1 dX5_receiveTerm_0 rfl (lv_at hl 0 rfl) ?_
  refine cl_aload_n C.1 C.2.1 dX5_receiveTerm_1 rfl (lv_at hl 1 rfl) ?_
  refine lv_iload_n C.1 C.2.1 dX5_receiveTerm_2 rfl (lv_at hl 2 rfl) ?_
  obtain ⟨r_2, σ_1, hq, h_3⟩ := bd2_some h
  refine cl_callV (ci := 5) (rest := []) C G rfl ha cw_RX5_332 [cl_rf c0 x1, .int x2] _ (kc_X5_isTo l D c0 (by rw [G.1]; exact ha) hq (by rw [G.1]; exact f1)) (Nat.le_of_ble_eq_true rfl) (Nat.le_of_ble_eq_true rfl) rfl rfl hl.1 (Nat.le_of_ble_eq_true rfl) dX5_receiveTerm_3 (fun T_4 H locs cells slots t_5 hu G_6 => ?_)
  have ha := hu.kind ha (by decide)
  have f1 := f1.up hu (by decide)
  refine W.eq (g2 := F0 m 6 ls [.int r_2]) rfl ?_
  refine lv_if_ne (tgt := 11) C.1 C.2.1 dX5_receiveTerm_6 (by decide) (fun hc => ?_) (fun hc => ?_)
  · rw [if_neg hc] at h_3
    refine lv_aload_n C.1 C.2.1 dX5_receiveTerm_11 rfl (lv_at hl 0 rfl) ?_
    refine cg_5_35 C G_6 ha dX5_receiveTerm_12 (fun t_7 => ?_)
    refine lv_iload_n C.1 C.2.1 dX5_receiveTerm_15 rfl (lv_at hl 2 rfl) ?_
    obtain ⟨hi, h_8⟩ := ix_some h_3
    refine cl_aald C G_6 t_7 (by decide) (by decide) rfl hi dX5_receiveTerm_16 (fun t_9 => ?_)
    refine vt_r (K := 25) t_9 h_8 (fun r_10 t_11 h_12 => ?_)
    refine lv_aload_n C.1 C.2.1 dX5_receiveTerm_17 rfl (lv_at hl 0 rfl) ?_
    refine cg_5_51 C G_6 ha dX5_receiveTerm_18 (fun t_13 => ?_)
    have t_13 : (T_4 31).1 = 26 := by rw [t_13]
    refine cg_5_83 C G_6 t_13 dX5_receiveTerm_21 (fun t_14 => ?_)
    refine vt_r (K := 25) t_14 h_12 (fun r_15 t_16 h_17 => ?_)
    refine cl_acmp_ne (rx := r_10) (ry := r_15) (tgt := 31) C.1 C.2.1 dX5_receiveTerm_24 (by decide) (fun hc => ?_) (fun hc => ?_)
    · rw [if_neg hc] at h_17
      refine cl_aload_n C.1 C.2.1 dX5_receiveTerm_31 rfl (lv_at hl 1 rfl) ?_
      obtain ⟨a_18, rfl, h_20⟩ := nn_some h_17
      have t_19 := f1 _ rfl
      refine cg_5_199 C G_6 t_19 dX5_receiveTerm_32 (fun t_21 => ?_)
      have t_21 : (T_4 (a_18 + 9)).1 = 24 := by rw [t_21]
      refine lv_aload_n C.1 C.2.1 dX5_receiveTerm_35 rfl (lv_at hl 0 rfl) ?_
      refine cg_5_35 C G_6 ha dX5_receiveTerm_36 (fun t_22 => ?_)
      refine lv_iload_n C.1 C.2.1 dX5_receiveTerm_39 rfl (lv_at hl 2 rfl) ?_
      obtain ⟨hi, h_23⟩ := ix_some h_20
      refine cl_aald C G_6 t_22 (by decide) (by decide) rfl hi dX5_receiveTerm_40 (fun t_24 => ?_)
      refine vt_r (K := 25) t_24 h_23 (fun r_25 t_26 h_27 => ?_)
      obtain ⟨r_29, σ_28, hq, h_30⟩ := bd2_some h_27
      refine cl_callV (ci := 8) (rest := []) C G_6 rfl t_21 cw_RX5_282 [cl_rf c0 r_25] _ (kc_X8_comeIn l D c0 (by rw [G_6.1]; exact t_21) hq (by rw [G_6.1]; exact t_26)) (Nat.le_of_ble_eq_true rfl) (Nat.le_of_ble_eq_true rfl) rfl rfl hl.1 (Nat.le_of_ble_eq_true rfl) dX5_receiveTerm_41 (fun T_31 H locs cells slots t_32 hu G_33 => ?_)
      have ha := hu.kind ha (by decide)
      have t_19 := hu.kind t_19 (by decide)
      refine W.eq (g2 := F0 m 44 ls [.int r_29]) rfl ?_
      exact cl_iret ⟨rfl, rfl⟩ rfl C G_33 h_30 dX5_receiveTerm_44
    · rw [if_pos hc] at h_17
      refine lv_iconst (v := (0:Int32)) C.1 C.2.1 dX5_receiveTerm_27 (by decide) ?_
      refine lv_goto (tgt := 44) C.1 C.2.1 dX5_receiveTerm_28 (by decide) ?_
      exact cl_iret ⟨rfl, rfl⟩ rfl C G_6 h_17 dX5_receiveTerm_44
  · rw [if_pos hc] at h_3
    refine lv_iconst (v := (-1:Int32)) C.1 C.2.1 dX5_receiveTerm_9 (by decide) ?_
    exact cl_iret ⟨rfl, rfl⟩ rfl C G_6 h_3 dX5_receiveTerm_10
noncomputable def fc_X5_receiveTerm (a : Nat) (x1 : (Option Nat)) (x2 : Int32) (σ : cl_S) : Option (Int32 × cl_S) := bc_X5_receiveTerm_0 a x1 x2 σ
theorem kc_X5_receiveTerm (l : Launch) (D : cl_D) (c0 : Nat) {r : Int32} {a : Nat} {x1 : (Option Nat)} {x2 : Int32} {σ σ' : cl_S} (ha : (σ.2.2.2.1 a).1 = 21) (h : fc_X5_receiveTerm a x1 x2 σ = some (r, σ')) (f1 : cl_RT σ.2.2.2.1 x1 22) : cl_Met true l D c0 yX5_receiveTerm cX5_receiveTerm 3 (some .int) 2 45 [.ref (c0 + a), cl_rf c0 x1, .int x2] σ (some (.int r)) cl_no σ' :=
  by cases x1 <;> exact cl_of (by decide) (Nat.le_of_ble_eq_true rfl) (fun p e s m args below meth c ls C hn G hl => wc_X5_receiveTerm_0 C h G ha f1 hl)
abbrev cX5_outTerm : ByteArray := prog_7_method_19_code
def yX5_outTerm : MethodName := ⟨RX5, "outTerm", "(LPartHouse$Partition;LPartHouse$Term;)I"⟩
theorem dX5_outTerm_0 : decode cX5_outTerm 0 = .ok (.aload_n 2, 1) := by decide +kernel
theorem dX5_outTerm_1 : decode cX5_outTerm 1 = .ok (.aload_n 0, 1) := by decide +kernel
theorem dX5_outTerm_2 : decode cX5_outTerm 2 = .ok (.getfield 51, 3) := by decide +kernel
theorem dX5_outTerm_5 : decode cX5_outTerm 5 = .ok (.getfield 83, 3) := by decide +kernel
theorem dX5_outTerm_8 : decode cX5_outTerm 8 = .ok (.if_acmp .ne 6, 3) := by decide +kernel
theorem dX5_outTerm_11 : decode cX5_outTerm 11 = .ok (.bipush (-2), 2) := by decide +kernel
theorem dX5_outTerm_13 : decode cX5_outTerm 13 = .ok (.ireturn, 1) := by decide +kernel
theorem dX5_outTerm_14 : decode cX5_outTerm 14 = .ok (.aload_n 1, 1) := by decide +kernel
theorem dX5_outTerm_15 : decode cX5_outTerm 15 = .ok (.iconst 0, 1) := by decide +kernel
theorem dX5_outTerm_16 : decode cX5_outTerm 16 = .ok (.aload_n 2, 1) := by decide +kernel
theorem dX5_outTerm_17 : decode cX5_outTerm 17 = .ok (.invokevirtual 224, 3) := by decide +kernel
theorem dX5_outTerm_20 : decode cX5_outTerm 20 = .ok (.istore_n 3, 1) := by decide +kernel
theorem dX5_outTerm_21 : decode cX5_outTerm 21 = .ok (.iload_n 3, 1) := by decide +kernel
theorem dX5_outTerm_22 : decode cX5_outTerm 22 = .ok (.ifCond .ne 18, 3) := by decide +kernel
theorem dX5_outTerm_25 : decode cX5_outTerm 25 = .ok (.aload_n 0, 1) := by decide +kernel
theorem dX5_outTerm_26 : decode cX5_outTerm 26 = .ok (.getfield 59, 3) := by decide +kernel
theorem dX5_outTerm_29 : decode cX5_outTerm 29 = .ok (.ifCond .eq 11, 3) := by decide +kernel
theorem dX5_outTerm_32 : decode cX5_outTerm 32 = .ok (.aload_n 0, 1) := by decide +kernel
theorem dX5_outTerm_33 : decode cX5_outTerm 33 = .ok (.getfield 51, 3) := by decide +kernel
theorem dX5_outTerm_36 : decode cX5_outTerm 36 = .ok (.aload_n 2, 1) := by decide +kernel
theorem dX5_outTerm_37 : decode cX5_outTerm 37 = .ok (.invokevirtual 339, 3) := by decide +kernel
theorem dX5_outTerm_40 : decode cX5_outTerm 40 = .ok (.iload_n 3, 1) := by decide +kernel
theorem dX5_outTerm_41 : decode cX5_outTerm 41 = .ok (.ireturn, 1) := by decide +kernel
theorem cc_X5_outTerm : Cond.code yX5_outTerm cX5_outTerm 4 (some .int) ∈ rf_tb := rf_at 1229 (by decide +kernel) (by decide +kernel)
theorem cw_RX5_224 : cl_wV RX5 RX6 yX6_putOut cX6_putOut 3 (some .int) 224 2 := ⟨⟨rf_at 1179 (by decide +kernel) (by decide +kernel), rf_at 1180 (by decide +kernel) (by decide +kernel), rf_at 1181 (by decide +kernel) (by decide +kernel), cc_X6_putOut, rf_at 15 (by decide +kernel) (by decide +kernel)⟩, ⟨by decide, by decide, by decide +kernel⟩⟩
theorem cw_RX5_339 : cl_wV RX5 RX10 yX10_tell cX10_tell 2 none 339 1 := ⟨⟨rf_at 1230 (by decide +kernel) (by decide +kernel), rf_at 315 (by decide +kernel) (by decide +kernel), rf_at 316 (by decide +kernel) (by decide +kernel), cc_X10_tell, rf_at 9 (by decide +kernel) (by decide +kernel)⟩, ⟨by decide, by decide, by decide +kernel⟩⟩
noncomputable def bc_X5_outTerm_0 (a : Nat) (x1 : (Option Nat)) (x2 : (Option Nat)) (σ : cl_S) : Option (Int32 × cl_S) := vl (σ.2.2.1 31 4) (fun r_3 => (if x2 = r_3 then some ((-2:Int32), σ) else nn x1 (fun a_6 => bd2 (fc_X6_putOut a_6 (0:Int32) x2 σ) (fun r_10 σ_9 => (if r_10 = 0 then (if (σ_9.1 a 2) = 0 then some (r_10, σ_9) else bd1 (fc_X10_tell 31 x2 σ_9) (fun σ_17 => some (r_10, σ_17))) else some (r_10, σ_9))))))
set_option maxHeartbeats 4000000 in
theorem wc_X5_outTerm_0 (C : cl_C D p s m args meth c cX5_outTerm 4 (some .int) RX5) {r : Int32} {a : Nat} {x1 : (Option Nat)} {x2 : (Option Nat)} {σ0 σ σ' : cl_S} {T : Nat → Nat × Nat} {H : Heap} {locs : List Loc} {ls : Array Slot} {cells slots : Nat} (h : bc_X5_outTerm_0 a x1 x2 σ = some (r, σ')) (G : cl_G true D c0 ({ frames := 1, cells := σ0.2.2.2.2.2.1, slots := σ0.2.2.2.2.2.2, locals := 22 }) s σ0.2.2.2.1 T σ H locs cells slots) (ha : (T a).1 = 21) (f1 : cl_RT T x1 22) (f2 : cl_RT T x2 25) (hl : lv_has ls 4 [(0, .ref (c0 + a)), (1, cl_rf c0 x1), (2, cl_rf c0 x2)]) : W p l e ({ frames := 1, cells := σ0.2.2.2.2.2.1, slots := σ0.2.2.2.2.2.2, locals := 22 }) s m args below meth c H locs cells slots (MQ below (cl_Q true D c0 (some (.int r)) cl_no σ0 σ') args s (σ0.2.2.2.2.2.1 - σ'.2.2.2.2.2.1) (σ0.2.2.2.2.2.2 - σ'.2.2.2.2.2.2) (cl_A c0 σ0.2.2.2.1 s.heap.size)) (F0 m 0 ls []) := by
  unfold bc_X5_outTerm_0 at h
  refine cl_aload_n C.1 C.2.1 dX5_outTerm_0 rfl (lv_at hl 2 rfl) ?_
  refine lv_aload_n C.1 C.2.1 dX5_outTerm_1 rfl (lv_at hl 0 rfl) ?_
  refine cg_5_51 C G ha dX5_outTerm_2 (fun t_1 => ?_)
  have t_1 : (T 31).1 = 26 := by rw [t_1]
  refine cg_5_83 C G t_1 dX5_outTerm_5 (fun t_2 => ?_)
  refine vt_r (K := 25) t_2 h (fun r_3 t_4 h_5 => ?_)
  refine cl_acmp_ne (rx := x2) (ry := r_3) (tgt := 14) C.1 C.2.1 dX5_outTerm_8 (by decide) (fun hc => ?_) (fun hc => ?_)
  · rw [if_neg hc] at h_5
    refine cl_aload_n C.1 C.2.1 dX5_outTerm_14 rfl (lv_at hl 1 rfl) ?_
    refine lv_iconst (v := (0:Int32)) C.1 C.2.1 dX5_outTerm_15 (by decide) ?_
    refine cl_aload_n C.1 C.2.1 dX5_outTerm_16 rfl (lv_at hl 2 rfl) ?_
    obtain ⟨a_6, rfl, h_8⟩ := nn_some h_5
    have t_7 := f1 _ rfl
    obtain ⟨r_10, σ_9, hq, h_11⟩ := bd2_some h_8
    refine cl_callV (ci := 6) (rest := []) C G rfl t_7 cw_RX5_224 [.int (0:Int32), cl_rf c0 x2] _ (kc_X6_putOut l D c0 (by rw [G.1]; exact t_7) hq (by rw [G.1]; exact f2)) (Nat.le_of_ble_eq_true rfl) (Nat.le_of_ble_eq_true rfl) rfl rfl hl.1 (Nat.le_of_ble_eq_true rfl) dX5_outTerm_17 (fun T_12 H locs cells slots t_13 hu G_14 => ?_)
    have ha := hu.kind ha (by decide)
    have t_7 := hu.kind t_7 (by decide)
    have f2 := f2.up hu (by decide)
    refine W.eq (g2 := F0 m 20 ls [.int r_10]) rfl ?_
    refine lv_istore_n (lv' := [(3, .int r_10), (0, .ref (c0 + a)), (1, .ref (c0 + a_6)), (2, cl_rf c0 x2)]) C.1 C.2.1 dX5_outTerm_20 rfl hl (by decide) (by first | rfl | (cases x2 <;> rfl)) (fun ls hl_15 => ?_)
    refine lv_iload_n C.1 C.2.1 dX5_outTerm_21 rfl (lv_at hl_15 0 rfl) ?_
    refine lv_if_ne (tgt := 40) C.1 C.2.1 dX5_outTerm_22 (by decide) (fun hc => ?_) (fun hc => ?_)
    · rw [if_neg hc] at h_11
      refine lv_iload_n C.1 C.2.1 dX5_outTerm_40 rfl (lv_at hl_15 0 rfl) ?_
      exact cl_iret ⟨rfl, rfl⟩ rfl C G_14 h_11 dX5_outTerm_41
    · rw [if_pos hc] at h_11
      refine lv_aload_n C.1 C.2.1 dX5_outTerm_25 rfl (lv_at hl_15 1 rfl) ?_
      refine cg_5_59 C G_14 ha dX5_outTerm_26 ?_
      refine lv_if_eq (tgt := 40) C.1 C.2.1 dX5_outTerm_29 (by decide) (fun hc => ?_) (fun hc => ?_)
      · rw [if_pos hc] at h_11
        refine lv_iload_n C.1 C.2.1 dX5_outTerm_40 rfl (lv_at hl_15 0 rfl) ?_
        exact cl_iret ⟨rfl, rfl⟩ rfl C G_14 h_11 dX5_outTerm_41
      · rw [if_neg hc] at h_11
        refine lv_aload_n C.1 C.2.1 dX5_outTerm_32 rfl (lv_at hl_15 1 rfl) ?_
        refine cg_5_51 C G_14 ha dX5_outTerm_33 (fun t_16 => ?_)
        have t_16 : (T_12 31).1 = 26 := by rw [t_16]
        refine cl_aload_n C.1 C.2.1 dX5_outTerm_36 rfl (lv_at hl_15 3 rfl) ?_
        obtain ⟨σ_17, hq, h_18⟩ := bd1_some h_11
        refine cl_callV (ci := 10) (rest := []) C G_14 rfl t_16 cw_RX5_339 [cl_rf c0 x2] _ (kc_X10_tell l D c0 (by rw [G_14.1]; exact t_16) hq (by rw [G_14.1]; exact f2)) (Nat.le_of_ble_eq_true rfl) (Nat.le_of_ble_eq_true rfl) rfl rfl hl_15.1 (Nat.le_of_ble_eq_true rfl) dX5_outTerm_37 (fun T_19 H locs cells slots t_20 hu G_21 => ?_)
        have ha := hu.kind ha (by decide)
        have t_7 := hu.kind t_7 (by decide)
        have f2 := f2.up hu (by decide)
        refine W.eq (g2 := F0 m 40 ls []) rfl ?_
        refine lv_iload_n C.1 C.2.1 dX5_outTerm_40 rfl (lv_at hl_15 0 rfl) ?_
        exact cl_iret ⟨rfl, rfl⟩ rfl C G_21 h_18 dX5_outTerm_41
  · rw [if_pos hc] at h_5
    refine lv_bipush (v := (-2:Int32)) C.1 C.2.1 dX5_outTerm_11 (by decide) ?_
    exact cl_iret ⟨rfl, rfl⟩ rfl C G h_5 dX5_outTerm_13
noncomputable def fc_X5_outTerm (a : Nat) (x1 : (Option Nat)) (x2 : (Option Nat)) (σ : cl_S) : Option (Int32 × cl_S) := bc_X5_outTerm_0 a x1 x2 σ
theorem kc_X5_outTerm (l : Launch) (D : cl_D) (c0 : Nat) {r : Int32} {a : Nat} {x1 : (Option Nat)} {x2 : (Option Nat)} {σ σ' : cl_S} (ha : (σ.2.2.2.1 a).1 = 21) (h : fc_X5_outTerm a x1 x2 σ = some (r, σ')) (f1 : cl_RT σ.2.2.2.1 x1 22) (f2 : cl_RT σ.2.2.2.1 x2 25) : cl_Met true l D c0 yX5_outTerm cX5_outTerm 4 (some .int) 1 22 [.ref (c0 + a), cl_rf c0 x1, cl_rf c0 x2] σ (some (.int r)) cl_no σ' :=
  by cases x1 <;> cases x2 <;> exact cl_of (by decide) (Nat.le_of_ble_eq_true rfl) (fun p e s m args below meth c ls C hn G hl => wc_X5_outTerm_0 C h G ha f1 f2 hl)
abbrev cX6_askTerm : ByteArray := prog_8_method_7_code
def yX6_askTerm : MethodName := ⟨RX6, "askTerm", "()I"⟩
theorem dX6_askTerm_0 : decode cX6_askTerm 0 = .ok (.aload_n 0, 1) := by decide +kernel
theorem dX6_askTerm_1 : decode cX6_askTerm 1 = .ok (.getfield 82, 3) := by decide +kernel
theorem dX6_askTerm_4 : decode cX6_askTerm 4 = .ok (.ifCond .ne 5, 3) := by decide +kernel
theorem dX6_askTerm_7 : decode cX6_askTerm 7 = .ok (.iconst 0, 1) := by decide +kernel
theorem dX6_askTerm_8 : decode cX6_askTerm 8 = .ok (.ireturn, 1) := by decide +kernel
theorem dX6_askTerm_9 : decode cX6_askTerm 9 = .ok (.aload_n 0, 1) := by decide +kernel
theorem dX6_askTerm_10 : decode cX6_askTerm 10 = .ok (.getfield 50, 3) := by decide +kernel
theorem dX6_askTerm_13 : decode cX6_askTerm 13 = .ok (.aload_n 0, 1) := by decide +kernel
theorem dX6_askTerm_14 : decode cX6_askTerm 14 = .ok (.getfield 31, 3) := by decide +kernel
theorem dX6_askTerm_17 : decode cX6_askTerm 17 = .ok (.iconst 0, 1) := by decide +kernel
theorem dX6_askTerm_18 : decode cX6_askTerm 18 = .ok (.aaload, 1) := by decide +kernel
theorem dX6_askTerm_19 : decode cX6_askTerm 19 = .ok (.invokevirtual 104, 3) := by decide +kernel
theorem dX6_askTerm_22 : decode cX6_askTerm 22 = .ok (.istore_n 1, 1) := by decide +kernel
theorem dX6_askTerm_23 : decode cX6_askTerm 23 = .ok (.iload_n 1, 1) := by decide +kernel
theorem dX6_askTerm_24 : decode cX6_askTerm 24 = .ok (.ifCond .ge 5, 3) := by decide +kernel
theorem dX6_askTerm_27 : decode cX6_askTerm 27 = .ok (.iload_n 1, 1) := by decide +kernel
theorem dX6_askTerm_28 : decode cX6_askTerm 28 = .ok (.ireturn, 1) := by decide +kernel
theorem dX6_askTerm_29 : decode cX6_askTerm 29 = .ok (.aload_n 0, 1) := by decide +kernel
theorem dX6_askTerm_30 : decode cX6_askTerm 30 = .ok (.dup, 1) := by decide +kernel
theorem dX6_askTerm_31 : decode cX6_askTerm 31 = .ok (.getfield 82, 3) := by decide +kernel
theorem dX6_askTerm_34 : decode cX6_askTerm 34 = .ok (.iconst 1, 1) := by decide +kernel
theorem dX6_askTerm_35 : decode cX6_askTerm 35 = .ok (.isub, 1) := by decide +kernel
theorem dX6_askTerm_36 : decode cX6_askTerm 36 = .ok (.putfield 82, 3) := by decide +kernel
theorem dX6_askTerm_39 : decode cX6_askTerm 39 = .ok (.iconst 0, 1) := by decide +kernel
theorem dX6_askTerm_40 : decode cX6_askTerm 40 = .ok (.istore_n 2, 1) := by decide +kernel
theorem dX6_askTerm_41 : decode cX6_askTerm 41 = .ok (.iload_n 2, 1) := by decide +kernel
theorem dX6_askTerm_42 : decode cX6_askTerm 42 = .ok (.aload_n 0, 1) := by decide +kernel
theorem dX6_askTerm_43 : decode cX6_askTerm 43 = .ok (.getfield 82, 3) := by decide +kernel
theorem dX6_askTerm_46 : decode cX6_askTerm 46 = .ok (.if_icmp .ge 23, 3) := by decide +kernel
theorem dX6_askTerm_49 : decode cX6_askTerm 49 = .ok (.aload_n 0, 1) := by decide +kernel
theorem dX6_askTerm_50 : decode cX6_askTerm 50 = .ok (.getfield 31, 3) := by decide +kernel
theorem dX6_askTerm_53 : decode cX6_askTerm 53 = .ok (.iload_n 2, 1) := by decide +kernel
theorem dX6_askTerm_54 : decode cX6_askTerm 54 = .ok (.aload_n 0, 1) := by decide +kernel
theorem dX6_askTerm_55 : decode cX6_askTerm 55 = .ok (.getfield 31, 3) := by decide +kernel
theorem dX6_askTerm_58 : decode cX6_askTerm 58 = .ok (.iload_n 2, 1) := by decide +kernel
theorem dX6_askTerm_59 : decode cX6_askTerm 59 = .ok (.iconst 1, 1) := by decide +kernel
theorem dX6_askTerm_60 : decode cX6_askTerm 60 = .ok (.iadd, 1) := by decide +kernel
theorem dX6_askTerm_61 : decode cX6_askTerm 61 = .ok (.aaload, 1) := by decide +kernel
theorem dX6_askTerm_62 : decode cX6_askTerm 62 = .ok (.aastore, 1) := by decide +kernel
theorem dX6_askTerm_63 : decode cX6_askTerm 63 = .ok (.iinc 2 1, 3) := by decide +kernel
theorem dX6_askTerm_66 : decode cX6_askTerm 66 = .ok (.goto (-25), 3) := by decide +kernel
theorem dX6_askTerm_69 : decode cX6_askTerm 69 = .ok (.iload_n 1, 1) := by decide +kernel
theorem dX6_askTerm_70 : decode cX6_askTerm 70 = .ok (.ireturn, 1) := by decide +kernel
theorem cc_X6_askTerm : Cond.code yX6_askTerm cX6_askTerm 3 (some .int) ∈ rf_tb := rf_at 1234 (by decide +kernel) (by decide +kernel)
theorem cw_RX6_104 : cl_wV RX6 RX8 yX8_comeIn cX8_comeIn 3 (some .int) 104 1 := ⟨⟨rf_at 1235 (by decide +kernel) (by decide +kernel), rf_at 1214 (by decide +kernel) (by decide +kernel), rf_at 1215 (by decide +kernel) (by decide +kernel), cc_X8_comeIn, rf_at 11 (by decide +kernel) (by decide +kernel)⟩, ⟨by decide, by decide, by decide +kernel⟩⟩
noncomputable def lc_X6_askTerm_41 (a : Nat) (x1 : Int32) (x2 : Int32) (σ : cl_S) : Option ((Int32 × cl_S) ⊕ (Int32 × cl_S)) := (if (σ.1 a 10) ≤ x2 then some (.inr (x2, σ)) else ix (x2 + (1:Int32)) 64 (vl (σ.2.2.1 (a + 7) (x2 + (1:Int32)).toNatClampNeg) (fun r_24 => ix x2 64 (vl (cl_wr σ (a + 7) x2.toNatClampNeg r_24) (fun σ_27 => vl (x2 + (1:Int32)) (fun x2_32 => some (.inl (x2_32, σ_27))))))))
noncomputable def ec_X6_askTerm_41 (a : Nat) (x1 : Int32) (x2 : Int32) (σ : cl_S) : Option (Int32 × cl_S) := some (x1, σ)
noncomputable def bc_X6_askTerm_41 (a : Nat) (x1 : Int32) (x2 : Int32) (σ : cl_S) : Option (Int32 × cl_S) := (lp (fun z : (Int32 × cl_S) => lc_X6_askTerm_41 a x1 z.1 z.2) (x2, σ)).bind (fun z => ec_X6_askTerm_41 a x1 z.1 z.2)
set_option maxHeartbeats 4000000 in
theorem wc_X6_askTerm_41 (C : cl_C D p s m args meth c cX6_askTerm 3 (some .int) RX6) {r : Int32} {a : Nat} {x1 : Int32} {x2 : Int32} {σ0 σ σ' : cl_S} {T : Nat → Nat × Nat} {H : Heap} {locs : List Loc} {ls : Array Slot} {cells slots : Nat} (h : bc_X6_askTerm_41 a x1 x2 σ = some (r, σ')) (G : cl_G true D c0 ({ frames := 2, cells := σ0.2.2.2.2.2.1, slots := σ0.2.2.2.2.2.2, locals := 45 }) s σ0.2.2.2.1 T σ H locs cells slots) (ha : (T a).1 = 22) (hl : lv_has ls 3 [(0, .ref (c0 + a)), (1, .int x1), (2, .int x2)]) : W p l e ({ frames := 2, cells := σ0.2.2.2.2.2.1, slots := σ0.2.2.2.2.2.2, locals := 45 }) s m args below meth c H locs cells slots (MQ below (cl_Q true D c0 (some (.int r)) cl_no σ0 σ') args s (σ0.2.2.2.2.2.1 - σ'.2.2.2.2.2.1) (σ0.2.2.2.2.2.2 - σ'.2.2.2.2.2.2) (cl_A c0 σ0.2.2.2.1 s.heap.size)) (F0 m 41 ls []) := by
  unfold bc_X6_askTerm_41 at h
  obtain ⟨y, hy, h⟩ := bd_some h
  have hE : (fun z : (Int32 × cl_S) => ∀ (T : Nat → Nat × Nat) (H : Heap) (locs : List Loc) (ls : Array Slot) (cells slots : Nat), cl_G true D c0 ({ frames := 2, cells := σ0.2.2.2.2.2.1, slots := σ0.2.2.2.2.2.2, locals := 45 }) s σ0.2.2.2.1 T z.2 H locs cells slots → (T a).1 = 22 → lv_has ls 3 [(0, .ref (c0 + a)), (1, .int x1), (2, .int (z.1))] → W p l e ({ frames := 2, cells := σ0.2.2.2.2.2.1, slots := σ0.2.2.2.2.2.2, locals := 45 }) s m args below meth c H locs cells slots (MQ below (cl_Q true D c0 (some (.int r)) cl_no σ0 σ') args s (σ0.2.2.2.2.2.1 - σ'.2.2.2.2.2.1) (σ0.2.2.2.2.2.2 - σ'.2.2.2.2.2.2) (cl_A c0 σ0.2.2.2.1 s.heap.size)) (F0 m 69 ls [])) y := by
    clear hy G ha hl
    intro T H locs ls cells slots G ha hl
    obtain ⟨x2, σ⟩ := y
    dsimp only at h G ha hl
    unfold ec_X6_askTerm_41 at h
    refine lv_iload_n C.1 C.2.1 dX6_askTerm_69 rfl (lv_at hl 1 rfl) ?_
    exact cl_iret ⟨rfl, rfl⟩ rfl C G h dX6_askTerm_70
  refine lp_recE (fun z : (Int32 × cl_S) => ∀ (T : Nat → Nat × Nat) (H : Heap) (locs : List Loc) (ls : Array Slot) (cells slots : Nat), cl_G true D c0 ({ frames := 2, cells := σ0.2.2.2.2.2.1, slots := σ0.2.2.2.2.2.2, locals := 45 }) s σ0.2.2.2.1 T z.2 H locs cells slots → (T a).1 = 22 → lv_has ls 3 [(0, .ref (c0 + a)), (1, .int x1), (2, .int (z.1))] → W p l e ({ frames := 2, cells := σ0.2.2.2.2.2.1, slots := σ0.2.2.2.2.2.2, locals := 45 }) s m args below meth c H locs cells slots (MQ below (cl_Q true D c0 (some (.int r)) cl_no σ0 σ') args s (σ0.2.2.2.2.2.1 - σ'.2.2.2.2.2.1) (σ0.2.2.2.2.2.2 - σ'.2.2.2.2.2.2) (cl_A c0 σ0.2.2.2.1 s.heap.size)) (F0 m 41 ls [])) (fun z : (Int32 × cl_S) => ∀ (T : Nat → Nat × Nat) (H : Heap) (locs : List Loc) (ls : Array Slot) (cells slots : Nat), cl_G true D c0 ({ frames := 2, cells := σ0.2.2.2.2.2.1, slots := σ0.2.2.2.2.2.2, locals := 45 }) s σ0.2.2.2.1 T z.2 H locs cells slots → (T a).1 = 22 → lv_has ls 3 [(0, .ref (c0 + a)), (1, .int x1), (2, .int (z.1))] → W p l e ({ frames := 2, cells := σ0.2.2.2.2.2.1, slots := σ0.2.2.2.2.2.2, locals := 45 }) s m args below meth c H locs cells slots (MQ below (cl_Q true D c0 (some (.int r)) cl_no σ0 σ') args s (σ0.2.2.2.2.2.1 - σ'.2.2.2.2.2.1) (σ0.2.2.2.2.2.2 - σ'.2.2.2.2.2.2) (cl_A c0 σ0.2.2.2.1 s.heap.size)) (F0 m 69 ls [])) ?_ _ _ hy hE _ _ _ _ _ _ G ha hl
  clear hE hy G ha hl h
  intro z o h hP T H locs ls cells slots G ha hl
  obtain ⟨x2, σ⟩ := z
  dsimp only at h G ha hl
  unfold lc_X6_askTerm_41 at h
  refine lv_iload_n C.1 C.2.1 dX6_askTerm_41 rfl (lv_at hl 2 rfl) ?_
  refine lv_aload_n C.1 C.2.1 dX6_askTerm_42 rfl (lv_at hl 0 rfl) ?_
  refine cg_6_82 C G ha dX6_askTerm_43 ?_
  refine lv_icmp_ge (tgt := 69) C.1 C.2.1 dX6_askTerm_46 (by decide) (fun hc => ?_) (fun hc => ?_)
  · rw [if_pos hc] at h
    cases h
    exact hP _ _ _ _ _ _ G ha (lv_sub hl [0, 1, 2] rfl)
  · rw [if_neg hc] at h
    refine lv_aload_n C.1 C.2.1 dX6_askTerm_49 rfl (lv_at hl 0 rfl) ?_
    refine cg_6_31 C G ha dX6_askTerm_50 (fun t_20 => ?_)
    refine lv_iload_n C.1 C.2.1 dX6_askTerm_53 rfl (lv_at hl 2 rfl) ?_
    refine lv_aload_n C.1 C.2.1 dX6_askTerm_54 rfl (lv_at hl 0 rfl) ?_
    refine cg_6_31 C G ha dX6_askTerm_55 (fun t_21 => ?_)
    refine lv_iload_n C.1 C.2.1 dX6_askTerm_58 rfl (lv_at hl 2 rfl) ?_
    refine lv_iconst (v := (1:Int32)) C.1 C.2.1 dX6_askTerm_59 (by decide) ?_
    refine lv_iadd C.1 C.2.1 dX6_askTerm_60 ?_
    obtain ⟨hi, h_22⟩ := ix_some h
    refine cl_aald C G t_21 (by decide) (by decide) rfl hi dX6_askTerm_61 (fun t_23 => ?_)
    refine vt_r (K := 25) t_23 h_22 (fun r_24 t_25 h_26 => ?_)
    obtain ⟨hi, h_28⟩ := ix_some h_26
    refine cl_aast (ci := 9) (x := r_24) C G rfl rfl rfl t_20 (by decide) (by decide) t_25 hi dX6_askTerm_62 (fun H locs G_29 => ?_)
    refine cl_nm G_29 h_28 (fun σ_27 G_30 h_31 => ?_)
    refine vl_ex h_31 (fun x2_32 ey h_33 => ?_)
    refine lv_iinc (v := x2_32) (lv' := [(2, .int x2_32), (0, .ref (c0 + a)), (1, .int x1)]) C.1 C.2.1 dX6_askTerm_63 hl (k := 2) rfl (by rw [ey]; rfl) (by decide) rfl (fun ls hl_34 => ?_)
    refine lv_goto (tgt := 41) C.1 C.2.1 dX6_askTerm_66 (by decide) ?_
    cases h_33
    exact hP _ _ _ _ _ _ G_30 ha (lv_sub hl_34 [1, 2, 0] rfl)
noncomputable def bc_X6_askTerm_0 (a : Nat) (σ : cl_S) : Option (Int32 × cl_S) := (if (σ.1 a 10) = 0 then some ((0:Int32), σ) else ix (0:Int32) 64 (vl (σ.2.2.1 (a + 7) (0:Int32).toNatClampNeg) (fun r_5 => bd2 (fc_X8_comeIn (a + 9) r_5 σ) (fun r_9 σ_8 => (if 0 ≤ r_9 then vl (cl_w σ_8 a 10 ((σ_8.1 a 10) - (1:Int32))) (fun σ_15 => bc_X6_askTerm_41 a r_9 (0:Int32) σ_15) else some (r_9, σ_8))))))
set_option maxHeartbeats 4000000 in
theorem wc_X6_askTerm_0 (C : cl_C D p s m args meth c cX6_askTerm 3 (some .int) RX6) {r : Int32} {a : Nat} {σ0 σ σ' : cl_S} {T : Nat → Nat × Nat} {H : Heap} {locs : List Loc} {ls : Array Slot} {cells slots : Nat} (h : bc_X6_askTerm_0 a σ = some (r, σ')) (G : cl_G true D c0 ({ frames := 2, cells := σ0.2.2.2.2.2.1, slots := σ0.2.2.2.2.2.2, locals := 45 }) s σ0.2.2.2.1 T σ H locs cells slots) (ha : (T a).1 = 22) (hl : lv_has ls 3 [(0, .ref (c0 + a))]) : W p l e ({ frames := 2, cells := σ0.2.2.2.2.2.1, slots := σ0.2.2.2.2.2.2, locals := 45 }) s m args below meth c H locs cells slots (MQ below (cl_Q true D c0 (some (.int r)) cl_no σ0 σ') args s (σ0.2.2.2.2.2.1 - σ'.2.2.2.2.2.1) (σ0.2.2.2.2.2.2 - σ'.2.2.2.2.2.2) (cl_A c0 σ0.2.2.2.1 s.heap.size)) (F0 m 0 ls []) := by
  unfold bc_X6_askTerm_0 at h
  refine lv_aload_n C.1 C.2.1 dX6_askTerm_0 rfl (lv_at hl 0 rfl) ?_
  refine cg_6_82 C G ha dX6_askTerm_1 ?_
  refine lv_if_ne (tgt := 9) C.1 C.2.1 dX6_askTerm_4 (by decide) (fun hc => ?_) (fun hc => ?_)
  · rw [if_neg hc] at h
    refine lv_aload_n C.1 C.2.1 dX6_askTerm_9 rfl (lv_at hl 0 rfl) ?_
    refine cg_6_50 C G ha dX6_askTerm_10 (fun t_1 => ?_)
    have t_1 : (T (a + 9)).1 = 24 := by rw [t_1]
    refine lv_aload_n C.1 C.2.1 dX6_askTerm_13 rfl (lv_at hl 0 rfl) ?_
    refine cg_6_31 C G ha dX6_askTerm_14 (fun t_2 => ?_)
    refine lv_iconst (v := (0:Int32)) C.1 C.2.1 dX6_askTerm_17 (by decide) ?_
    obtain ⟨hi, h_3⟩ := ix_some h
    refine cl_aald C G t_2 (by decide) (by decide) rfl hi dX6_askTerm_18 (fun t_4 => ?_)
    refine vt_r (K := 25) t_4 h_3 (fun r_5 t_6 h_7 => ?_)
    obtain ⟨r_9, σ_8, hq, h_10⟩ := bd2_some h_7
    refine cl_callV (ci := 8) (rest := []) C G rfl t_1 cw_RX6_104 [cl_rf c0 r_5] _ (kc_X8_comeIn l D c0 (by rw [G.1]; exact t_1) hq (by rw [G.1]; exact t_6)) (Nat.le_of_ble_eq_true rfl) (Nat.le_of_ble_eq_true rfl) rfl rfl hl.1 (Nat.le_of_ble_eq_true rfl) dX6_askTerm_19 (fun T_11 H locs cells slots t_12 hu G_13 => ?_)
    have ha := hu.kind ha (by decide)
    refine W.eq (g2 := F0 m 22 ls [.int r_9]) rfl ?_
    refine lv_istore_n (lv' := [(1, .int r_9), (0, .ref (c0 + a))]) C.1 C.2.1 dX6_askTerm_22 rfl hl (by decide) rfl (fun ls hl_14 => ?_)
    refine lv_iload_n C.1 C.2.1 dX6_askTerm_23 rfl (lv_at hl_14 0 rfl) ?_
    refine lv_if_ge (tgt := 29) C.1 C.2.1 dX6_askTerm_24 (by decide) (fun hc => ?_) (fun hc => ?_)
    · rw [if_pos hc] at h_10
      refine lv_aload_n C.1 C.2.1 dX6_askTerm_29 rfl (lv_at hl_14 1 rfl) ?_
      refine lv_dup C.1 C.2.1 dX6_askTerm_30 rfl ?_
      refine cg_6_82 C G_13 ha dX6_askTerm_31 ?_
      refine lv_iconst (v := (1:Int32)) C.1 C.2.1 dX6_askTerm_34 (by decide) ?_
      refine lv_isub C.1 C.2.1 dX6_askTerm_35 ?_
      refine cp_6_82 C G_13 ha dX6_askTerm_36 (fun H locs G_16 => ?_)
      refine cl_nm G_16 h_10 (fun σ_15 G_17 h_18 => ?_)
      refine lv_iconst (v := (0:Int32)) C.1 C.2.1 dX6_askTerm_39 (by decide) ?_
      refine lv_istore_n (lv' := [(2, .int (0:Int32)), (1, .int r_9), (0, .ref (c0 + a))]) C.1 C.2.1 dX6_askTerm_40 rfl hl_14 (by decide) rfl (fun ls hl_19 => ?_)
      exact wc_X6_askTerm_41 C h_18 G_17 ha (lv_sub hl_19 [2, 1, 0] rfl)
    · rw [if_neg hc] at h_10
      refine lv_iload_n C.1 C.2.1 dX6_askTerm_27 rfl (lv_at hl_14 0 rfl) ?_
      exact cl_iret ⟨rfl, rfl⟩ rfl C G_13 h_10 dX6_askTerm_28
  · rw [if_pos hc] at h
    refine lv_iconst (v := (0:Int32)) C.1 C.2.1 dX6_askTerm_7 (by decide) ?_
    exact cl_iret ⟨rfl, rfl⟩ rfl C G h dX6_askTerm_8
noncomputable def fc_X6_askTerm (a : Nat) (σ : cl_S) : Option (Int32 × cl_S) := bc_X6_askTerm_0 a σ
theorem kc_X6_askTerm (l : Launch) (D : cl_D) (c0 : Nat) {r : Int32} {a : Nat} {σ σ' : cl_S} (ha : (σ.2.2.2.1 a).1 = 22) (h : fc_X6_askTerm a σ = some (r, σ')) : cl_Met true l D c0 yX6_askTerm cX6_askTerm 3 (some .int) 2 45 [.ref (c0 + a)] σ (some (.int r)) cl_no σ' :=
  cl_of (by decide) (Nat.le_of_ble_eq_true rfl) (fun p e s m args below meth c ls C hn G hl => wc_X6_askTerm_0 C h G ha hl)
abbrev cX10_bucketOf : ByteArray := prog_12_method_3_code
def yX10_bucketOf : MethodName := ⟨RX10, "bucketOf", "(IILPartHouse$Term;LPartHouse$Term;LPartHouse$Term;)I"⟩
theorem dX10_bucketOf_0 : decode cX10_bucketOf 0 = .ok (.iload_n 0, 1) := by decide +kernel
theorem dX10_bucketOf_1 : decode cX10_bucketOf 1 = .ok (.bipush 31, 2) := by decide +kernel
theorem dX10_bucketOf_3 : decode cX10_bucketOf 3 = .ok (.iload_n 1, 1) := by decide +kernel
theorem dX10_bucketOf_4 : decode cX10_bucketOf 4 = .ok (.imul, 1) := by decide +kernel
theorem dX10_bucketOf_5 : decode cX10_bucketOf 5 = .ok (.iadd, 1) := by decide +kernel
theorem dX10_bucketOf_6 : decode cX10_bucketOf 6 = .ok (.istore 5, 2) := by decide +kernel
theorem dX10_bucketOf_8 : decode cX10_bucketOf 8 = .ok (.iload 5, 2) := by decide +kernel
theorem dX10_bucketOf_10 : decode cX10_bucketOf 10 = .ok (.bipush 31, 2) := by decide +kernel
theorem dX10_bucketOf_12 : decode cX10_bucketOf 12 = .ok (.imul, 1) := by decide +kernel
theorem dX10_bucketOf_13 : decode cX10_bucketOf 13 = .ok (.aload_n 2, 1) := by decide +kernel
theorem dX10_bucketOf_14 : decode cX10_bucketOf 14 = .ok (.getfield 58, 3) := by decide +kernel
theorem dX10_bucketOf_17 : decode cX10_bucketOf 17 = .ok (.iadd, 1) := by decide +kernel
theorem dX10_bucketOf_18 : decode cX10_bucketOf 18 = .ok (.istore 5, 2) := by decide +kernel
theorem dX10_bucketOf_20 : decode cX10_bucketOf 20 = .ok (.iload 5, 2) := by decide +kernel
theorem dX10_bucketOf_22 : decode cX10_bucketOf 22 = .ok (.bipush 31, 2) := by decide +kernel
theorem dX10_bucketOf_24 : decode cX10_bucketOf 24 = .ok (.imul, 1) := by decide +kernel
theorem dX10_bucketOf_25 : decode cX10_bucketOf 25 = .ok (.aload_n 3, 1) := by decide +kernel
theorem dX10_bucketOf_26 : decode cX10_bucketOf 26 = .ok (.getfield 58, 3) := by decide +kernel
theorem dX10_bucketOf_29 : decode cX10_bucketOf 29 = .ok (.iadd, 1) := by decide +kernel
theorem dX10_bucketOf_30 : decode cX10_bucketOf 30 = .ok (.istore 5, 2) := by decide +kernel
theorem dX10_bucketOf_32 : decode cX10_bucketOf 32 = .ok (.iload 5, 2) := by decide +kernel
theorem dX10_bucketOf_34 : decode cX10_bucketOf 34 = .ok (.bipush 31, 2) := by decide +kernel
theorem dX10_bucketOf_36 : decode cX10_bucketOf 36 = .ok (.imul, 1) := by decide +kernel
theorem dX10_bucketOf_37 : decode cX10_bucketOf 37 = .ok (.aload 4, 2) := by decide +kernel
theorem dX10_bucketOf_39 : decode cX10_bucketOf 39 = .ok (.getfield 58, 3) := by decide +kernel
theorem dX10_bucketOf_42 : decode cX10_bucketOf 42 = .ok (.iadd, 1) := by decide +kernel
theorem dX10_bucketOf_43 : decode cX10_bucketOf 43 = .ok (.istore 5, 2) := by decide +kernel
theorem dX10_bucketOf_45 : decode cX10_bucketOf 45 = .ok (.iload 5, 2) := by decide +kernel
theorem dX10_bucketOf_47 : decode cX10_bucketOf 47 = .ok (.ldc 62, 2) := by decide +kernel
theorem dX10_bucketOf_49 : decode cX10_bucketOf 49 = .ok (.imul, 1) := by decide +kernel
theorem dX10_bucketOf_50 : decode cX10_bucketOf 50 = .ok (.bipush 20, 2) := by decide +kernel
theorem dX10_bucketOf_52 : decode cX10_bucketOf 52 = .ok (.iushr, 1) := by decide +kernel
theorem dX10_bucketOf_53 : decode cX10_bucketOf 53 = .ok (.ireturn, 1) := by decide +kernel
theorem cc_X10_bucketOf : Cond.code yX10_bucketOf cX10_bucketOf 6 (some .int) ∈ rf_tb := rf_at 296 (by decide +kernel) (by decide +kernel)
theorem kc_RX10_62 : Cond.constant RX10 62 (-1640531535 : Int32) ∈ rf_tb := rf_at 297 (by decide +kernel) (by decide +kernel)
noncomputable def bc_X10_bucketOf_0 (x0 : Int32) (x1 : Int32) (x2 : (Option Nat)) (x3 : (Option Nat)) (x4 : (Option Nat)) (σ : cl_S) : Option (Int32 × cl_S) := vl (x0 + ((31:Int32) * x1)) (fun x5_1 => nn x2 (fun a_4 => vl ((x5_1 * (31:Int32)) + (σ.1 a_4 2)) (fun x5_7 => nn x3 (fun a_10 => vl ((x5_7 * (31:Int32)) + (σ.1 a_10 2)) (fun x5_13 => nn x4 (fun a_16 => vl ((x5_13 * (31:Int32)) + (σ.1 a_16 2)) (fun x5_19 => some (((x5_19 * (-1640531535:Int32)).toUInt32 >>> ((20:Int32).toUInt32 &&& Int32.toUInt32 31)).toInt32, σ))))))))
set_option maxHeartbeats 4000000 in
theorem wc_X10_bucketOf_0 (C : cl_C D p s m args meth c cX10_bucketOf 6 (some .int) RX10) {r : Int32} {x0 : Int32} {x1 : Int32} {x2 : (Option Nat)} {x3 : (Option Nat)} {x4 : (Option Nat)} {σ0 σ σ' : cl_S} {T : Nat → Nat × Nat} {H : Heap} {locs : List Loc} {ls : Array Slot} {cells slots : Nat} (h : bc_X10_bucketOf_0 x0 x1 x2 x3 x4 σ = some (r, σ')) (G : cl_G true D c0 ({ frames := 0, cells := σ0.2.2.2.2.2.1, slots := σ0.2.2.2.2.2.2, locals := 0 }) s σ0.2.2.2.1 T σ H locs cells slots) (f2 : cl_RT T x2 25) (f3 : cl_RT T x3 25) (f4 : cl_RT T x4 25) (hl : lv_has ls 6 [(0, .int x0), (1, .int x1), (2, cl_rf c0 x2), (3, cl_rf c0 x3), (4, cl_rf c0 x4)]) : W p l e ({ frames := 0, cells := σ0.2.2.2.2.2.1, slots := σ0.2.2.2.2.2.2, locals := 0 }) s m args below meth c H locs cells slots (MQ below (cl_Q true D c0 (some (.int r)) cl_no σ0 σ') args s (σ0.2.2.2.2.2.1 - σ'.2.2.2.2.2.1) (σ0.2.2.2.2.2.2 - σ'.2.2.2.2.2.2) (cl_A c0 σ0.2.2.2.1 s.heap.size)) (F0 m 0 ls []) := by
  unfold bc_X10_bucketOf_0 at h
  refine lv_iload_n C.1 C.2.1 dX10_bucketOf_0 rfl (lv_at hl 0 rfl) ?_
  refine lv_bipush (v := (31:Int32)) C.1 C.2.1 dX10_bucketOf_1 (by decide) ?_
  refine lv_iload_n C.1 C.2.1 dX10_bucketOf_3 rfl (lv_at hl 1 rfl) ?_
  refine lv_imul C.1 C.2.1 dX10_bucketOf_4 ?_
  refine lv_iadd C.1 C.2.1 dX10_bucketOf_5 ?_
  refine vt_i h (fun x5_1 h_2 => ?_)
  refine lv_istore (lv' := [(5, .int x5_1), (0, .int x0), (1, .int x1), (2, cl_rf c0 x2), (3, cl_rf c0 x3), (4, cl_rf c0 x4)]) C.1 C.2.1 dX10_bucketOf_6 hl (by decide) (by first | rfl | (cases x2 <;> cases x3 <;> cases x4 <;> rfl)) (fun ls hl_3 => ?_)
  refine lv_iload C.1 C.2.1 dX10_bucketOf_8 (lv_at hl_3 0 rfl) ?_
  refine lv_bipush (v := (31:Int32)) C.1 C.2.1 dX10_bucketOf_10 (by decide) ?_
  refine lv_imul C.1 C.2.1 dX10_bucketOf_12 ?_
  refine cl_aload_n C.1 C.2.1 dX10_bucketOf_13 rfl (lv_at hl_3 3 rfl) ?_
  obtain ⟨a_4, rfl, h_6⟩ := nn_some h_2
  have t_5 := f2 _ rfl
  refine cg_10_58 C G t_5 dX10_bucketOf_14 ?_
  refine lv_iadd C.1 C.2.1 dX10_bucketOf_17 ?_
  refine vt_i h_6 (fun x5_7 h_8 => ?_)
  refine lv_istore (lv' := [(5, .int x5_7), (0, .int x0), (1, .int x1), (2, .ref (c0 + a_4)), (3, cl_rf c0 x3), (4, cl_rf c0 x4)]) C.1 C.2.1 dX10_bucketOf_18 hl_3 (by decide) (by first | rfl | (cases x3 <;> cases x4 <;> rfl)) (fun ls hl_9 => ?_)
  refine lv_iload C.1 C.2.1 dX10_bucketOf_20 (lv_at hl_9 0 rfl) ?_
  refine lv_bipush (v := (31:Int32)) C.1 C.2.1 dX10_bucketOf_22 (by decide) ?_
  refine lv_imul C.1 C.2.1 dX10_bucketOf_24 ?_
  refine cl_aload_n C.1 C.2.1 dX10_bucketOf_25 rfl (lv_at hl_9 4 rfl) ?_
  obtain ⟨a_10, rfl, h_12⟩ := nn_some h_8
  have t_11 := f3 _ rfl
  refine cg_10_58 C G t_11 dX10_bucketOf_26 ?_
  refine lv_iadd C.1 C.2.1 dX10_bucketOf_29 ?_
  refine vt_i h_12 (fun x5_13 h_14 => ?_)
  refine lv_istore (lv' := [(5, .int x5_13), (0, .int x0), (1, .int x1), (2, .ref (c0 + a_4)), (3, .ref (c0 + a_10)), (4, cl_rf c0 x4)]) C.1 C.2.1 dX10_bucketOf_30 hl_9 (by decide) (by first | rfl | (cases x4 <;> rfl)) (fun ls hl_15 => ?_)
  refine lv_iload C.1 C.2.1 dX10_bucketOf_32 (lv_at hl_15 0 rfl) ?_
  refine lv_bipush (v := (31:Int32)) C.1 C.2.1 dX10_bucketOf_34 (by decide) ?_
  refine lv_imul C.1 C.2.1 dX10_bucketOf_36 ?_
  refine cl_aload C.1 C.2.1 dX10_bucketOf_37 (lv_at hl_15 5 rfl) ?_
  obtain ⟨a_16, rfl, h_18⟩ := nn_some h_14
  have t_17 := f4 _ rfl
  refine cg_10_58 C G t_17 dX10_bucketOf_39 ?_
  refine lv_iadd C.1 C.2.1 dX10_bucketOf_42 ?_
  refine vt_i h_18 (fun x5_19 h_20 => ?_)
  refine lv_istore (lv' := [(5, .int x5_19), (0, .int x0), (1, .int x1), (2, .ref (c0 + a_4)), (3, .ref (c0 + a_10)), (4, .ref (c0 + a_16))]) C.1 C.2.1 dX10_bucketOf_43 hl_15 (by decide) rfl (fun ls hl_21 => ?_)
  refine lv_iload C.1 C.2.1 dX10_bucketOf_45 (lv_at hl_21 0 rfl) ?_
  refine lv_ldc (v := (-1640531535:Int32)) C.1 C.2.1 C.2.2.2.1 (C.2.2.2.2.1 _ kc_RX10_62) dX10_bucketOf_47 ?_
  refine lv_imul C.1 C.2.1 dX10_bucketOf_49 ?_
  refine lv_bipush (v := (20:Int32)) C.1 C.2.1 dX10_bucketOf_50 (by decide) ?_
  refine lv_iushr C.1 C.2.1 dX10_bucketOf_52 rfl ?_
  exact cl_iret ⟨rfl, rfl⟩ rfl C G h_20 dX10_bucketOf_53
noncomputable def fc_X10_bucketOf (x0 : Int32) (x1 : Int32) (x2 : (Option Nat)) (x3 : (Option Nat)) (x4 : (Option Nat)) (σ : cl_S) : Option (Int32 × cl_S) := bc_X10_bucketOf_0 x0 x1 x2 x3 x4 σ
theorem kc_X10_bucketOf (l : Launch) (D : cl_D) (c0 : Nat) {r : Int32} {x0 : Int32} {x1 : Int32} {x2 : (Option Nat)} {x3 : (Option Nat)} {x4 : (Option Nat)} {σ σ' : cl_S} (h : fc_X10_bucketOf x0 x1 x2 x3 x4 σ = some (r, σ')) (f2 : cl_RT σ.2.2.2.1 x2 25) (f3 : cl_RT σ.2.2.2.1 x3 25) (f4 : cl_RT σ.2.2.2.1 x4 25) : cl_Met true l D c0 yX10_bucketOf cX10_bucketOf 6 (some .int) 0 0 [.int x0, .int x1, cl_rf c0 x2, cl_rf c0 x3, cl_rf c0 x4] σ (some (.int r)) cl_no σ' :=
  by cases x2 <;> cases x3 <;> cases x4 <;> exact cl_of (by decide) (Nat.le_of_ble_eq_true rfl) (fun p e s m args below meth c ls C hn G hl => wc_X10_bucketOf_0 C h G f2 f3 f4 hl)
abbrev cX10_find : ByteArray := prog_12_method_4_code
def yX10_find : MethodName := ⟨RX10, "find", "(IILPartHouse$Term;LPartHouse$Term;LPartHouse$Term;)LPartHouse$Term;"⟩
theorem dX10_find_0 : decode cX10_find 0 = .ok (.aload_n 0, 1) := by decide +kernel
theorem dX10_find_1 : decode cX10_find 1 = .ok (.getfield 13, 3) := by decide +kernel
theorem dX10_find_4 : decode cX10_find 4 = .ok (.iload_n 1, 1) := by decide +kernel
theorem dX10_find_5 : decode cX10_find 5 = .ok (.iload_n 2, 1) := by decide +kernel
theorem dX10_find_6 : decode cX10_find 6 = .ok (.aload_n 3, 1) := by decide +kernel
theorem dX10_find_7 : decode cX10_find 7 = .ok (.aload 4, 2) := by decide +kernel
theorem dX10_find_9 : decode cX10_find 9 = .ok (.aload 5, 2) := by decide +kernel
theorem dX10_find_11 : decode cX10_find 11 = .ok (.invokestatic 63, 3) := by decide +kernel
theorem dX10_find_14 : decode cX10_find 14 = .ok (.aaload, 1) := by decide +kernel
theorem dX10_find_15 : decode cX10_find 15 = .ok (.astore 6, 2) := by decide +kernel
theorem dX10_find_17 : decode cX10_find 17 = .ok (.aload 6, 2) := by decide +kernel
theorem dX10_find_19 : decode cX10_find 19 = .ok (.ifnull 63, 3) := by decide +kernel
theorem dX10_find_22 : decode cX10_find 22 = .ok (.aload 6, 2) := by decide +kernel
theorem dX10_find_24 : decode cX10_find 24 = .ok (.getfield 67, 3) := by decide +kernel
theorem dX10_find_27 : decode cX10_find 27 = .ok (.iload_n 1, 1) := by decide +kernel
theorem dX10_find_28 : decode cX10_find 28 = .ok (.if_icmp .ne 44, 3) := by decide +kernel
theorem dX10_find_31 : decode cX10_find 31 = .ok (.aload 6, 2) := by decide +kernel
theorem dX10_find_33 : decode cX10_find 33 = .ok (.getfield 70, 3) := by decide +kernel
theorem dX10_find_36 : decode cX10_find 36 = .ok (.iload_n 2, 1) := by decide +kernel
theorem dX10_find_37 : decode cX10_find 37 = .ok (.if_icmp .ne 35, 3) := by decide +kernel
theorem dX10_find_40 : decode cX10_find 40 = .ok (.aload 6, 2) := by decide +kernel
theorem dX10_find_42 : decode cX10_find 42 = .ok (.getfield 24, 3) := by decide +kernel
theorem dX10_find_45 : decode cX10_find 45 = .ok (.aload_n 3, 1) := by decide +kernel
theorem dX10_find_46 : decode cX10_find 46 = .ok (.if_acmp .ne 26, 3) := by decide +kernel
theorem dX10_find_49 : decode cX10_find 49 = .ok (.aload 6, 2) := by decide +kernel
theorem dX10_find_51 : decode cX10_find 51 = .ok (.getfield 27, 3) := by decide +kernel
theorem dX10_find_54 : decode cX10_find 54 = .ok (.aload 4, 2) := by decide +kernel
theorem dX10_find_56 : decode cX10_find 56 = .ok (.if_acmp .ne 16, 3) := by decide +kernel
theorem dX10_find_59 : decode cX10_find 59 = .ok (.aload 6, 2) := by decide +kernel
theorem dX10_find_61 : decode cX10_find 61 = .ok (.getfield 30, 3) := by decide +kernel
theorem dX10_find_64 : decode cX10_find 64 = .ok (.aload 5, 2) := by decide +kernel
theorem dX10_find_66 : decode cX10_find 66 = .ok (.if_acmp .ne 6, 3) := by decide +kernel
theorem dX10_find_69 : decode cX10_find 69 = .ok (.aload 6, 2) := by decide +kernel
theorem dX10_find_71 : decode cX10_find 71 = .ok (.areturn, 1) := by decide +kernel
theorem dX10_find_72 : decode cX10_find 72 = .ok (.aload 6, 2) := by decide +kernel
theorem dX10_find_74 : decode cX10_find 74 = .ok (.getfield 73, 3) := by decide +kernel
theorem dX10_find_77 : decode cX10_find 77 = .ok (.astore 6, 2) := by decide +kernel
theorem dX10_find_79 : decode cX10_find 79 = .ok (.goto (-62), 3) := by decide +kernel
theorem dX10_find_82 : decode cX10_find 82 = .ok (.aload_n 0, 1) := by decide +kernel
theorem dX10_find_83 : decode cX10_find 83 = .ok (.getfield 20, 3) := by decide +kernel
theorem dX10_find_86 : decode cX10_find 86 = .ok (.areturn, 1) := by decide +kernel
theorem cc_X10_find : Cond.code yX10_find cX10_find 7 (some (.object "PartHouse$Term")) ∈ rf_tb := rf_at 309 (by decide +kernel) (by decide +kernel)
theorem cw_RX10_63 : cl_wS RX10 yX10_bucketOf cX10_bucketOf 6 (some .int) 63 5 := ⟨⟨rf_at 294 (by decide +kernel) (by decide +kernel), rf_at 295 (by decide +kernel) (by decide +kernel), cc_X10_bucketOf, rf_at 9 (by decide +kernel) (by decide +kernel)⟩, ⟨by decide, by decide, by decide +kernel⟩⟩
noncomputable def bc_X10_find_72i17 (a : Nat) (x1 : Int32) (x2 : Int32) (x3 : (Option Nat)) (x4 : (Option Nat)) (x5 : (Option Nat)) (x6 : (Option Nat)) (σ : cl_S) : Option (((Option Nat) × cl_S) ⊕ (((Option Nat) × cl_S) ⊕ ((Option Nat) × cl_S))) := nn x6 (fun a_24 => vl (σ.2.2.1 a_24 7) (fun r_28 => some (.inl (r_28, σ))))
set_option maxHeartbeats 4000000 in
theorem wc_X10_find_72i17 (C : cl_C D p s m args meth c cX10_find 7 (some (.object "PartHouse$Term")) RX10) {r : (Option Nat)} {a : Nat} {x1 : Int32} {x2 : Int32} {x3 : (Option Nat)} {x4 : (Option Nat)} {x5 : (Option Nat)} {x6 : (Option Nat)} {σ0 σ σ' : cl_S} {T : Nat → Nat × Nat} {H : Heap} {locs : List Loc} {ls : Array Slot} {cells slots : Nat} {o : ((Option Nat) × cl_S) ⊕ (((Option Nat) × cl_S) ⊕ ((Option Nat) × cl_S))} (h : bc_X10_find_72i17 a x1 x2 x3 x4 x5 x6 σ = some o) (hP : Sum.elim (fun z : ((Option Nat) × cl_S) => ∀ (T : Nat → Nat × Nat) (H : Heap) (locs : List Loc) (ls : Array Slot) (cells slots : Nat), cl_G true D c0 ({ frames := 1, cells := σ0.2.2.2.2.2.1, slots := σ0.2.2.2.2.2.2, locals := 25 }) s σ0.2.2.2.1 T z.2 H locs cells slots → (T a).1 = 26 → cl_RT T x3 25 → cl_RT T x4 25 → cl_RT T x5 25 → cl_RT T (z.1) 25 → lv_has ls 7 [(0, .ref (c0 + a)), (1, .int x1), (2, .int x2), (3, cl_rf c0 x3), (4, cl_rf c0 x4), (5, cl_rf c0 x5), (6, cl_rf c0 (z.1))] → W p l e ({ frames := 1, cells := σ0.2.2.2.2.2.1, slots := σ0.2.2.2.2.2.2, locals := 25 }) s m args below meth c H locs cells slots (MQ below (cl_Q true D c0 (some (cl_rf c0 r)) (fun T1 => cl_RT T1 r 25) σ0 σ') args s (σ0.2.2.2.2.2.1 - σ'.2.2.2.2.2.1) (σ0.2.2.2.2.2.2 - σ'.2.2.2.2.2.2) (cl_A c0 σ0.2.2.2.1 s.heap.size)) (F0 m 17 ls [])) (Sum.elim (fun z : (Option Nat) × cl_S => z = (r, σ')) (fun z : ((Option Nat) × cl_S) => ∀ (T : Nat → Nat × Nat) (H : Heap) (locs : List Loc) (ls : Array Slot) (cells slots : Nat), cl_G true D c0 ({ frames := 1, cells := σ0.2.2.2.2.2.1, slots := σ0.2.2.2.2.2.2, locals := 25 }) s σ0.2.2.2.1 T z.2 H locs cells slots → (T a).1 = 26 → cl_RT T x3 25 → cl_RT T x4 25 → cl_RT T x5 25 → cl_RT T (z.1) 25 → lv_has ls 7 [(0, .ref (c0 + a)), (1, .int x1), (2, .int x2), (3, cl_rf c0 x3), (4, cl_rf c0 x4), (5, cl_rf c0 x5), (6, cl_rf c0 (z.1))] → W p l e ({ frames := 1, cells := σ0.2.2.2.2.2.1, slots := σ0.2.2.2.2.2.2, locals := 25 }) s m args below meth c H locs cells slots (MQ below (cl_Q true D c0 (some (cl_rf c0 r)) (fun T1 => cl_RT T1 r 25) σ0 σ') args s (σ0.2.2.2.2.2.1 - σ'.2.2.2.2.2.1) (σ0.2.2.2.2.2.2 - σ'.2.2.2.2.2.2) (cl_A c0 σ0.2.2.2.1 s.heap.size)) (F0 m 82 ls []))) o) (G : cl_G true D c0 ({ frames := 1, cells := σ0.2.2.2.2.2.1, slots := σ0.2.2.2.2.2.2, locals := 25 }) s σ0.2.2.2.1 T σ H locs cells slots) (ha : (T a).1 = 26) (f3 : cl_RT T x3 25) (f4 : cl_RT T x4 25) (f5 : cl_RT T x5 25) (f6 : cl_RT T x6 25) (hl : lv_has ls 7 [(0, .ref (c0 + a)), (1, .int x1), (2, .int x2), (3, cl_rf c0 x3), (4, cl_rf c0 x4), (5, cl_rf c0 x5), (6, cl_rf c0 x6)]) : W p l e ({ frames := 1, cells := σ0.2.2.2.2.2.1, slots := σ0.2.2.2.2.2.2, locals := 25 }) s m args below meth c H locs cells slots (MQ below (cl_Q true D c0 (some (cl_rf c0 r)) (fun T1 => cl_RT T1 r 25) σ0 σ') args s (σ0.2.2.2.2.2.1 - σ'.2.2.2.2.2.1) (σ0.2.2.2.2.2.2 - σ'.2.2.2.2.2.2) (cl_A c0 σ0.2.2.2.1 s.heap.size)) (F0 m 72 ls []) := by
  unfold bc_X10_find_72i17 at h
  refine cl_aload C.1 C.2.1 dX10_find_72 (lv_at hl 6 rfl) ?_
  obtain ⟨a_24, rfl, h_26⟩ := nn_some h
  have t_25 := f6 _ rfl
  refine cg_10_73 C G t_25 dX10_find_74 (fun t_27 => ?_)
  refine vt_r (K := 25) t_27 h_26 (fun r_28 t_29 h_30 => ?_)
  refine cl_astore (lv' := [(6, cl_rf c0 r_28), (0, .ref (c0 + a)), (1, .int x1), (2, .int x2), (3, cl_rf c0 x3), (4, cl_rf c0 x4), (5, cl_rf c0 x5)]) C.1 C.2.1 dX10_find_77 hl (by decide) (by first | rfl | (cases x3 <;> cases x4 <;> cases x5 <;> rfl)) (fun ls hl_31 => ?_)
  refine lv_goto (tgt := 17) C.1 C.2.1 dX10_find_79 (by decide) ?_
  cases h_30
  exact hP _ _ _ _ _ _ G ha f3 f4 f5 t_29 (lv_sub hl_31 [1, 2, 3, 4, 5, 6, 0] rfl)
noncomputable def lc_X10_find_17 (a : Nat) (x1 : Int32) (x2 : Int32) (x3 : (Option Nat)) (x4 : (Option Nat)) (x5 : (Option Nat)) (x6 : (Option Nat)) (σ : cl_S) : Option (((Option Nat) × cl_S) ⊕ (((Option Nat) × cl_S) ⊕ ((Option Nat) × cl_S))) := (if x6 = none then some (.inr (.inr (x6, σ))) else nn x6 (fun a_21 => (if (σ.1 a_21 0) = x1 then (if (σ.1 a_21 1) = x2 then vl (σ.2.2.1 a_21 3) (fun r_33 => (if r_33 = x3 then vl (σ.2.2.1 a_21 4) (fun r_37 => (if r_37 = x4 then vl (σ.2.2.1 a_21 5) (fun r_41 => (if r_41 = x5 then some (.inr (.inl ((some a_21), σ))) else bc_X10_find_72i17 a x1 x2 x3 x4 x5 (some a_21) σ)) else bc_X10_find_72i17 a x1 x2 x3 x4 x5 (some a_21) σ)) else bc_X10_find_72i17 a x1 x2 x3 x4 x5 (some a_21) σ)) else bc_X10_find_72i17 a x1 x2 x3 x4 x5 (some a_21) σ) else bc_X10_find_72i17 a x1 x2 x3 x4 x5 (some a_21) σ)))
noncomputable def ec_X10_find_17 (a : Nat) (x1 : Int32) (x2 : Int32) (x3 : (Option Nat)) (x4 : (Option Nat)) (x5 : (Option Nat)) (x6 : (Option Nat)) (σ : cl_S) : Option ((Option Nat) × cl_S) := vl (σ.2.2.1 a 4) (fun r_45 => some (r_45, σ))
noncomputable def bc_X10_find_17 (a : Nat) (x1 : Int32) (x2 : Int32) (x3 : (Option Nat)) (x4 : (Option Nat)) (x5 : (Option Nat)) (x6 : (Option Nat)) (σ : cl_S) : Option ((Option Nat) × cl_S) := (lp (fun z : ((Option Nat) × cl_S) => lc_X10_find_17 a x1 x2 x3 x4 x5 z.1 z.2) (x6, σ)).bind (fun y => Sum.elim (fun z => some z) (fun z => ec_X10_find_17 a x1 x2 x3 x4 x5 z.1 z.2) y)
set_option maxHeartbeats 4000000 in
theorem wc_X10_find_17 (C : cl_C D p s m args meth c cX10_find 7 (some (.object "PartHouse$Term")) RX10) {r : (Option Nat)} {a : Nat} {x1 : Int32} {x2 : Int32} {x3 : (Option Nat)} {x4 : (Option Nat)} {x5 : (Option Nat)} {x6 : (Option Nat)} {σ0 σ σ' : cl_S} {T : Nat → Nat × Nat} {H : Heap} {locs : List Loc} {ls : Array Slot} {cells slots : Nat} (h : bc_X10_find_17 a x1 x2 x3 x4 x5 x6 σ = some (r, σ')) (G : cl_G true D c0 ({ frames := 1, cells := σ0.2.2.2.2.2.1, slots := σ0.2.2.2.2.2.2, locals := 25 }) s σ0.2.2.2.1 T σ H locs cells slots) (ha : (T a).1 = 26) (f3 : cl_RT T x3 25) (f4 : cl_RT T x4 25) (f5 : cl_RT T x5 25) (f6 : cl_RT T x6 25) (hl : lv_has ls 7 [(0, .ref (c0 + a)), (1, .int x1), (2, .int x2), (3, cl_rf c0 x3), (4, cl_rf c0 x4), (5, cl_rf c0 x5), (6, cl_rf c0 x6)]) : W p l e ({ frames := 1, cells := σ0.2.2.2.2.2.1, slots := σ0.2.2.2.2.2.2, locals := 25 }) s m args below meth c H locs cells slots (MQ below (cl_Q true D c0 (some (cl_rf c0 r)) (fun T1 => cl_RT T1 r 25) σ0 σ') args s (σ0.2.2.2.2.2.1 - σ'.2.2.2.2.2.1) (σ0.2.2.2.2.2.2 - σ'.2.2.2.2.2.2) (cl_A c0 σ0.2.2.2.1 s.heap.size)) (F0 m 17 ls []) := by
  unfold bc_X10_find_17 at h
  obtain ⟨y, hy, h⟩ := bd_some h
  have hE : (Sum.elim (fun z : (Option Nat) × cl_S => z = (r, σ')) (fun z : ((Option Nat) × cl_S) => ∀ (T : Nat → Nat × Nat) (H : Heap) (locs : List Loc) (ls : Array Slot) (cells slots : Nat), cl_G true D c0 ({ frames := 1, cells := σ0.2.2.2.2.2.1, slots := σ0.2.2.2.2.2.2, locals := 25 }) s σ0.2.2.2.1 T z.2 H locs cells slots → (T a).1 = 26 → cl_RT T x3 25 → cl_RT T x4 25 → cl_RT T x5 25 → cl_RT T (z.1) 25 → lv_has ls 7 [(0, .ref (c0 + a)), (1, .int x1), (2, .int x2), (3, cl_rf c0 x3), (4, cl_rf c0 x4), (5, cl_rf c0 x5), (6, cl_rf c0 (z.1))] → W p l e ({ frames := 1, cells := σ0.2.2.2.2.2.1, slots := σ0.2.2.2.2.2.2, locals := 25 }) s m args below meth c H locs cells slots (MQ below (cl_Q true D c0 (some (cl_rf c0 r)) (fun T1 => cl_RT T1 r 25) σ0 σ') args s (σ0.2.2.2.2.2.1 - σ'.2.2.2.2.2.1) (σ0.2.2.2.2.2.2 - σ'.2.2.2.2.2.2) (cl_A c0 σ0.2.2.2.1 s.heap.size)) (F0 m 82 ls []))) y := by
    clear hy G ha f3 f4 f5 f6 hl
    cases y with
    | inl z =>
      exact Option.some.inj h
    | inr z =>
      intro T H locs ls cells slots G ha f3 f4 f5 f6 hl
      have h := se_r h
      obtain ⟨x6, σ⟩ := z
      dsimp only at h G ha f3 f4 f5 f6 hl
      unfold ec_X10_find_17 at h
      refine lv_aload_n C.1 C.2.1 dX10_find_82 rfl (lv_at hl 0 rfl) ?_
      refine cg_10_20 C G ha dX10_find_83 (fun t_44 => ?_)
      refine vt_r (K := 25) t_44 h (fun r_45 t_46 h_47 => ?_)
      exact cl_aret (v := r_45) ⟨rfl, rfl⟩ rfl C G h_47 (by first | exact Or.inl ⟨_, rfl⟩ | exact Or.inr ⟨_, rfl⟩) t_46 dX10_find_86
  refine lp_recE (fun z : ((Option Nat) × cl_S) => ∀ (T : Nat → Nat × Nat) (H : Heap) (locs : List Loc) (ls : Array Slot) (cells slots : Nat), cl_G true D c0 ({ frames := 1, cells := σ0.2.2.2.2.2.1, slots := σ0.2.2.2.2.2.2, locals := 25 }) s σ0.2.2.2.1 T z.2 H locs cells slots → (T a).1 = 26 → cl_RT T x3 25 → cl_RT T x4 25 → cl_RT T x5 25 → cl_RT T (z.1) 25 → lv_has ls 7 [(0, .ref (c0 + a)), (1, .int x1), (2, .int x2), (3, cl_rf c0 x3), (4, cl_rf c0 x4), (5, cl_rf c0 x5), (6, cl_rf c0 (z.1))] → W p l e ({ frames := 1, cells := σ0.2.2.2.2.2.1, slots := σ0.2.2.2.2.2.2, locals := 25 }) s m args below meth c H locs cells slots (MQ below (cl_Q true D c0 (some (cl_rf c0 r)) (fun T1 => cl_RT T1 r 25) σ0 σ') args s (σ0.2.2.2.2.2.1 - σ'.2.2.2.2.2.1) (σ0.2.2.2.2.2.2 - σ'.2.2.2.2.2.2) (cl_A c0 σ0.2.2.2.1 s.heap.size)) (F0 m 17 ls [])) (Sum.elim (fun z : (Option Nat) × cl_S => z = (r, σ')) (fun z : ((Option Nat) × cl_S) => ∀ (T : Nat → Nat × Nat) (H : Heap) (locs : List Loc) (ls : Array Slot) (cells slots : Nat), cl_G true D c0 ({ frames := 1, cells := σ0.2.2.2.2.2.1, slots := σ0.2.2.2.2.2.2, locals := 25 }) s σ0.2.2.2.1 T z.2 H locs cells slots → (T a).1 = 26 → cl_RT T x3 25 → cl_RT T x4 25 → cl_RT T x5 25 → cl_RT T (z.1) 25 → lv_has ls 7 [(0, .ref (c0 + a)), (1, .int x1), (2, .int x2), (3, cl_rf c0 x3), (4, cl_rf c0 x4), (5, cl_rf c0 x5), (6, cl_rf c0 (z.1))] → W p l e ({ frames := 1, cells := σ0.2.2.2.2.2.1, slots := σ0.2.2.2.2.2.2, locals := 25 }) s m args below meth c H locs cells slots (MQ below (cl_Q true D c0 (some (cl_rf c0 r)) (fun T1 => cl_RT T1 r 25) σ0 σ') args s (σ0.2.2.2.2.2.1 - σ'.2.2.2.2.2.1) (σ0.2.2.2.2.2.2 - σ'.2.2.2.2.2.2) (cl_A c0 σ0.2.2.2.1 s.heap.size)) (F0 m 82 ls []))) ?_ _ _ hy hE _ _ _ _ _ _ G ha f3 f4 f5 f6 hl
  clear hE hy G ha f3 f4 f5 f6 hl h
  intro z o h hP T H locs ls cells slots G ha f3 f4 f5 f6 hl
  obtain ⟨x6, σ⟩ := z
  dsimp only at h G ha f3 f4 f5 f6 hl
  unfold lc_X10_find_17 at h
  refine cl_aload C.1 C.2.1 dX10_find_17 (lv_at hl 6 rfl) ?_
  refine cl_ifnull (r := x6) (tgt := 82) C.1 C.2.1 dX10_find_19 (by decide) (fun hc => ?_) (fun hc => ?_)
  · rw [if_pos hc] at h
    cases h
    exact hP _ _ _ _ _ _ G ha f3 f4 f5 f6 (lv_sub hl [0, 1, 2, 3, 4, 5, 6] rfl)
  · rw [if_neg hc] at h
    refine cl_aload C.1 C.2.1 dX10_find_22 (lv_at hl 6 rfl) ?_
    obtain ⟨a_21, rfl, h_23⟩ := nn_some h
    have t_22 := f6 _ rfl
    refine cg_10_67 C G t_22 dX10_find_24 ?_
    refine lv_iload_n C.1 C.2.1 dX10_find_27 rfl (lv_at hl 1 rfl) ?_
    refine lv_icmp_ne (tgt := 72) C.1 C.2.1 dX10_find_28 (by decide) (fun hc => ?_) (fun hc => ?_)
    · rw [if_neg hc] at h_23
      exact wc_X10_find_72i17 C h_23 hP G ha f3 f4 f5 (cl_RTs t_22) (lv_sub hl [0, 1, 2, 3, 4, 5, 6] rfl)
    · rw [if_pos hc] at h_23
      refine lv_aload C.1 C.2.1 dX10_find_31 (lv_at hl 6 rfl) ?_
      refine cg_10_70 C G t_22 dX10_find_33 ?_
      refine lv_iload_n C.1 C.2.1 dX10_find_36 rfl (lv_at hl 2 rfl) ?_
      refine lv_icmp_ne (tgt := 72) C.1 C.2.1 dX10_find_37 (by decide) (fun hc => ?_) (fun hc => ?_)
      · rw [if_neg hc] at h_23
        exact wc_X10_find_72i17 C h_23 hP G ha f3 f4 f5 (cl_RTs t_22) (lv_sub hl [0, 1, 2, 3, 4, 5, 6] rfl)
      · rw [if_pos hc] at h_23
        refine lv_aload C.1 C.2.1 dX10_find_40 (lv_at hl 6 rfl) ?_
        refine cg_10_24 C G t_22 dX10_find_42 (fun t_32 => ?_)
        refine vt_r (K := 25) t_32 h_23 (fun r_33 t_34 h_35 => ?_)
        refine cl_aload_n C.1 C.2.1 dX10_find_45 rfl (lv_at hl 3 rfl) ?_
        refine cl_acmp_ne (rx := r_33) (ry := x3) (tgt := 72) C.1 C.2.1 dX10_find_46 (by decide) (fun hc => ?_) (fun hc => ?_)
        · rw [if_neg hc] at h_35
          exact wc_X10_find_72i17 C h_35 hP G ha f3 f4 f5 (cl_RTs t_22) (lv_sub hl [0, 1, 2, 3, 4, 5, 6] rfl)
        · rw [if_pos hc] at h_35
          refine lv_aload C.1 C.2.1 dX10_find_49 (lv_at hl 6 rfl) ?_
          refine cg_10_27 C G t_22 dX10_find_51 (fun t_36 => ?_)
          refine vt_r (K := 25) t_36 h_35 (fun r_37 t_38 h_39 => ?_)
          refine cl_aload C.1 C.2.1 dX10_find_54 (lv_at hl 4 rfl) ?_
          refine cl_acmp_ne (rx := r_37) (ry := x4) (tgt := 72) C.1 C.2.1 dX10_find_56 (by decide) (fun hc => ?_) (fun hc => ?_)
          · rw [if_neg hc] at h_39
            exact wc_X10_find_72i17 C h_39 hP G ha f3 f4 f5 (cl_RTs t_22) (lv_sub hl [0, 1, 2, 3, 4, 5, 6] rfl)
          · rw [if_pos hc] at h_39
            refine lv_aload C.1 C.2.1 dX10_find_59 (lv_at hl 6 rfl) ?_
            refine cg_10_30 C G t_22 dX10_find_61 (fun t_40 => ?_)
            refine vt_r (K := 25) t_40 h_39 (fun r_41 t_42 h_43 => ?_)
            refine cl_aload C.1 C.2.1 dX10_find_64 (lv_at hl 5 rfl) ?_
            refine cl_acmp_ne (rx := r_41) (ry := x5) (tgt := 72) C.1 C.2.1 dX10_find_66 (by decide) (fun hc => ?_) (fun hc => ?_)
            · rw [if_neg hc] at h_43
              exact wc_X10_find_72i17 C h_43 hP G ha f3 f4 f5 (cl_RTs t_22) (lv_sub hl [0, 1, 2, 3, 4, 5, 6] rfl)
            · rw [if_pos hc] at h_43
              refine lv_aload C.1 C.2.1 dX10_find_69 (lv_at hl 6 rfl) ?_
              cases h_43
              have hP := congrArg some hP
              exact cl_aret (v := (some a_21)) ⟨rfl, rfl⟩ rfl C G hP (by first | exact Or.inl ⟨_, rfl⟩ | exact Or.inr ⟨_, rfl⟩) (cl_RTs t_22) dX10_find_71
noncomputable def bc_X10_find_0 (a : Nat) (x1 : Int32) (x2 : Int32) (x3 : (Option Nat)) (x4 : (Option Nat)) (x5 : (Option Nat)) (σ : cl_S) : Option ((Option Nat) × cl_S) := vl (σ.2.2.1 a 0) (fun r_2 => bd2 (fc_X10_bucketOf x1 x2 x3 x4 x5 σ) (fun r_6 σ_5 => nn r_2 (fun a_11 => ix r_6 (σ_5.2.2.2.1 a_11).2 (vl (σ_5.2.2.1 a_11 r_6.toNatClampNeg) (fun r_17 => bc_X10_find_17 a x1 x2 x3 x4 x5 r_17 σ_5)))))
set_option maxHeartbeats 4000000 in
theorem wc_X10_find_0 (C : cl_C D p s m args meth c cX10_find 7 (some (.object "PartHouse$Term")) RX10) {r : (Option Nat)} {a : Nat} {x1 : Int32} {x2 : Int32} {x3 : (Option Nat)} {x4 : (Option Nat)} {x5 : (Option Nat)} {σ0 σ σ' : cl_S} {T : Nat → Nat × Nat} {H : Heap} {locs : List Loc} {ls : Array Slot} {cells slots : Nat} (h : bc_X10_find_0 a x1 x2 x3 x4 x5 σ = some (r, σ')) (G : cl_G true D c0 ({ frames := 1, cells := σ0.2.2.2.2.2.1, slots := σ0.2.2.2.2.2.2, locals := 25 }) s σ0.2.2.2.1 T σ H locs cells slots) (ha : (T a).1 = 26) (f3 : cl_RT T x3 25) (f4 : cl_RT T x4 25) (f5 : cl_RT T x5 25) (hl : lv_has ls 7 [(0, .ref (c0 + a)), (1, .int x1), (2, .int x2), (3, cl_rf c0 x3), (4, cl_rf c0 x4), (5, cl_rf c0 x5)]) : W p l e ({ frames := 1, cells := σ0.2.2.2.2.2.1, slots := σ0.2.2.2.2.2.2, locals := 25 }) s m args below meth c H locs cells slots (MQ below (cl_Q true D c0 (some (cl_rf c0 r)) (fun T1 => cl_RT T1 r 25) σ0 σ') args s (σ0.2.2.2.2.2.1 - σ'.2.2.2.2.2.1) (σ0.2.2.2.2.2.2 - σ'.2.2.2.2.2.2) (cl_A c0 σ0.2.2.2.1 s.heap.size)) (F0 m 0 ls []) := by
  unfold bc_X10_find_0 at h
  refine lv_aload_n C.1 C.2.1 dX10_find_0 rfl (lv_at hl 0 rfl) ?_
  refine cg_10_13 C G ha dX10_find_1 (fun t_1 => ?_)
  refine vt_r (K := 4) t_1 h (fun r_2 t_3 h_4 => ?_)
  refine lv_iload_n C.1 C.2.1 dX10_find_4 rfl (lv_at hl 1 rfl) ?_
  refine lv_iload_n C.1 C.2.1 dX10_find_5 rfl (lv_at hl 2 rfl) ?_
  refine cl_aload_n C.1 C.2.1 dX10_find_6 rfl (lv_at hl 3 rfl) ?_
  refine cl_aload C.1 C.2.1 dX10_find_7 (lv_at hl 4 rfl) ?_
  refine cl_aload C.1 C.2.1 dX10_find_9 (lv_at hl 5 rfl) ?_
  obtain ⟨r_6, σ_5, hq, h_7⟩ := bd2_some h_4
  refine cl_callS (rest := [cl_rf c0 r_2]) C G cw_RX10_63 [.int x1, .int x2, cl_rf c0 x3, cl_rf c0 x4, cl_rf c0 x5] _ (kc_X10_bucketOf l D c0 hq (by rw [G.1]; exact f3) (by rw [G.1]; exact f4) (by rw [G.1]; exact f5)) (Nat.le_of_ble_eq_true rfl) (Nat.le_of_ble_eq_true rfl) rfl rfl hl.1 (by cases r_2 <;> exact Nat.le_of_ble_eq_true rfl) dX10_find_11 (fun T_8 H locs cells slots t_9 hu G_10 => ?_)
  have ha := hu.kind ha (by decide)
  have f3 := f3.up hu (by decide)
  have f4 := f4.up hu (by decide)
  have f5 := f5.up hu (by decide)
  have t_3 := t_3.up hu (by decide)
  refine W.eq (g2 := F0 m 14 ls [.int r_6, cl_rf c0 r_2]) rfl ?_
  obtain ⟨a_11, rfl, h_13⟩ := nn_some h_7
  have t_12 := t_3 _ rfl
  have t_14 : T_8 a_11 = (4, (σ_5.2.2.2.1 a_11).2) := by rw [G_10.1]; exact Prod.ext t_12 rfl
  obtain ⟨hi, h_15⟩ := ix_some h_13
  refine cl_aald C G_10 t_14 (by decide) (by decide) rfl hi dX10_find_14 (fun t_16 => ?_)
  refine vt_r (K := 25) t_16 h_15 (fun r_17 t_18 h_19 => ?_)
  refine cl_astore (lv' := [(6, cl_rf c0 r_17), (0, .ref (c0 + a)), (1, .int x1), (2, .int x2), (3, cl_rf c0 x3), (4, cl_rf c0 x4), (5, cl_rf c0 x5)]) C.1 C.2.1 dX10_find_15 hl (by decide) (by first | rfl | (cases x3 <;> cases x4 <;> cases x5 <;> rfl)) (fun ls hl_20 => ?_)
  exact wc_X10_find_17 C h_19 G_10 ha f3 f4 f5 t_18 (lv_sub hl_20 [1, 2, 3, 4, 5, 6, 0] rfl)
noncomputable def fc_X10_find (a : Nat) (x1 : Int32) (x2 : Int32) (x3 : (Option Nat)) (x4 : (Option Nat)) (x5 : (Option Nat)) (σ : cl_S) : Option ((Option Nat) × cl_S) := bc_X10_find_0 a x1 x2 x3 x4 x5 σ
theorem kc_X10_find (l : Launch) (D : cl_D) (c0 : Nat) {r : (Option Nat)} {a : Nat} {x1 : Int32} {x2 : Int32} {x3 : (Option Nat)} {x4 : (Option Nat)} {x5 : (Option Nat)} {σ σ' : cl_S} (ha : (σ.2.2.2.1 a).1 = 26) (h : fc_X10_find a x1 x2 x3 x4 x5 σ = some (r, σ')) (f3 : cl_RT σ.2.2.2.1 x3 25) (f4 : cl_RT σ.2.2.2.1 x4 25) (f5 : cl_RT σ.2.2.2.1 x5 25) : cl_Met true l D c0 yX10_find cX10_find 7 (some (.object "PartHouse$Term")) 1 25 [.ref (c0 + a), .int x1, .int x2, cl_rf c0 x3, cl_rf c0 x4, cl_rf c0 x5] σ (some (cl_rf c0 r)) (fun T1 => cl_RT T1 r 25) σ' :=
  by cases x3 <;> cases x4 <;> cases x5 <;> exact cl_of (by decide) (Nat.le_of_ble_eq_true rfl) (fun p e s m args below meth c ls C hn G hl => wc_X10_find_0 C h G ha f3 f4 f5 hl)
abbrev cX9_init : ByteArray := prog_11_method_1_code
def yX9_init : MethodName := ⟨RX9, "<init>", "(IIILPartHouse$Term;)V"⟩
theorem dX9_init_0 : decode cX9_init 0 = .ok (.aload_n 0, 1) := by decide +kernel
theorem dX9_init_1 : decode cX9_init 1 = .ok (.invokespecial 1, 3) := by decide +kernel
theorem dX9_init_4 : decode cX9_init 4 = .ok (.aload_n 0, 1) := by decide +kernel
theorem dX9_init_5 : decode cX9_init 5 = .ok (.getstatic 7, 3) := by decide +kernel
theorem dX9_init_8 : decode cX9_init 8 = .ok (.putfield 13, 3) := by decide +kernel
theorem dX9_init_11 : decode cX9_init 11 = .ok (.aload_n 0, 1) := by decide +kernel
theorem dX9_init_12 : decode cX9_init 12 = .ok (.iload_n 1, 1) := by decide +kernel
theorem dX9_init_13 : decode cX9_init 13 = .ok (.putfield 16, 3) := by decide +kernel
theorem dX9_init_16 : decode cX9_init 16 = .ok (.aload_n 0, 1) := by decide +kernel
theorem dX9_init_17 : decode cX9_init 17 = .ok (.iload_n 2, 1) := by decide +kernel
theorem dX9_init_18 : decode cX9_init 18 = .ok (.putfield 20, 3) := by decide +kernel
theorem dX9_init_21 : decode cX9_init 21 = .ok (.aload_n 0, 1) := by decide +kernel
theorem dX9_init_22 : decode cX9_init 22 = .ok (.iload_n 3, 1) := by decide +kernel
theorem dX9_init_23 : decode cX9_init 23 = .ok (.putfield 23, 3) := by decide +kernel
theorem dX9_init_26 : decode cX9_init 26 = .ok (.aload_n 0, 1) := by decide +kernel
theorem dX9_init_27 : decode cX9_init 27 = .ok (.aload 4, 2) := by decide +kernel
theorem dX9_init_29 : decode cX9_init 29 = .ok (.putfield 26, 3) := by decide +kernel
theorem dX9_init_32 : decode cX9_init 32 = .ok (.return_, 1) := by decide +kernel
theorem cc_X9_init : Cond.code yX9_init cX9_init 5 none ∈ rf_tb := rf_at 206 (by decide +kernel) (by decide +kernel)
theorem oi_RX9_1 : Cond.methodLink RX9 1 Lib.objectInit ∈ rf_tb := rf_at 207 (by decide +kernel) (by decide +kernel)
theorem sw_RX9_7 : Cond.fieldLink RX9 7 "PartHouse$Term" "NO_WORDS" "[I" ∈ rf_tb := rf_at 208 (by decide +kernel) (by decide +kernel)
noncomputable def bc_X9_init_0 (a : Nat) (x1 : Int32) (x2 : Int32) (x3 : Int32) (x4 : (Option Nat)) (σ : cl_S) : Option (cl_S) := gnw σ a (vl (cl_w σ a 6 (1:Int32)) (fun σ_1 => vl (cl_w σ_1 a 0 x1) (fun σ_6 => vl (cl_w σ_6 a 1 x2) (fun σ_10 => vl (cl_w σ_10 a 2 x3) (fun σ_14 => vl (cl_wr σ_14 a 8 x4) (fun σ_18 => some σ_18))))))
set_option maxHeartbeats 4000000 in
theorem wc_X9_init_0 (C : cl_C D p s m args meth c cX9_init 5 none RX9) (hn9 : meth.name = "<init>") {a : Nat} {x1 : Int32} {x2 : Int32} {x3 : Int32} {x4 : (Option Nat)} {σ0 σ σ' : cl_S} {T : Nat → Nat × Nat} {H : Heap} {locs : List Loc} {ls : Array Slot} {cells slots : Nat} (h : bc_X9_init_0 a x1 x2 x3 x4 σ = some σ') (G : cl_G true D c0 ({ frames := 1, cells := σ0.2.2.2.2.2.1, slots := σ0.2.2.2.2.2.2, locals := 20 }) s σ0.2.2.2.1 T σ H locs cells slots) (ha : (T a).1 = 125) (f4 : cl_RT T x4 25) (hl : lv_has ls 5 [(0, .ref (c0 + a)), (1, .int x1), (2, .int x2), (3, .int x3), (4, cl_rf c0 x4)]) : W p l e ({ frames := 1, cells := σ0.2.2.2.2.2.1, slots := σ0.2.2.2.2.2.2, locals := 20 }) s m args below meth c H locs cells slots (MQ below (cl_Q true D c0 none cl_no σ0 σ') args s (σ0.2.2.2.2.2.1 - σ'.2.2.2.2.2.1) (σ0.2.2.2.2.2.2 - σ'.2.2.2.2.2.2) (cl_A c0 σ0.2.2.2.1 s.heap.size)) (F0 m 0 ls []) := by
  unfold bc_X9_init_0 at h
  refine lv_aload_n C.1 C.2.1 dX9_init_0 rfl (lv_at hl 0 rfl) ?_
  refine W.objInit (rest := []) C.1 C.2.1 C.2.2.2.1 (C.2.2.2.2.1 _ oi_RX9_1) (C.2.2.2.2.1 _ oi_i) (C.2.2.2.2.1 _ oi_c) rfl (by rw [C.2.2.1]; exact hl.1) rfl dX9_init_1 (Nat.le_of_ble_eq_true rfl) (Nat.le_of_ble_eq_true rfl) ?_
  refine W.eq (g2 := F0 m 4 ls []) rfl ?_
  refine lv_aload_n C.1 C.2.1 dX9_init_4 rfl (lv_at hl 0 rfl) ?_
  refine cl_nowords C G sw_RX9_7 dX9_init_5 ?_
  obtain ⟨hnw, h_2⟩ := gnw_some h
  refine rp_9_13 hnw C hn9 G ha dX9_init_8 (fun H locs G_3 => ?_)
  refine cl_nm G_3 h_2 (fun σ_1 G_4 h_5 => ?_)
  refine lv_aload_n C.1 C.2.1 dX9_init_11 rfl (lv_at hl 0 rfl) ?_
  refine lv_iload_n C.1 C.2.1 dX9_init_12 rfl (lv_at hl 1 rfl) ?_
  refine rp_9_16 C hn9 G_4 ha dX9_init_13 (fun H locs G_7 => ?_)
  refine cl_nm G_7 h_5 (fun σ_6 G_8 h_9 => ?_)
  refine lv_aload_n C.1 C.2.1 dX9_init_16 rfl (lv_at hl 0 rfl) ?_
  refine lv_iload_n C.1 C.2.1 dX9_init_17 rfl (lv_at hl 2 rfl) ?_
  refine rp_9_20 C hn9 G_8 ha dX9_init_18 (fun H locs G_11 => ?_)
  refine cl_nm G_11 h_9 (fun σ_10 G_12 h_13 => ?_)
  refine lv_aload_n C.1 C.2.1 dX9_init_21 rfl (lv_at hl 0 rfl) ?_
  refine lv_iload_n C.1 C.2.1 dX9_init_22 rfl (lv_at hl 3 rfl) ?_
  refine rp_9_23 C hn9 G_12 ha dX9_init_23 (fun H locs G_15 => ?_)
  refine cl_nm G_15 h_13 (fun σ_14 G_16 h_17 => ?_)
  refine lv_aload_n C.1 C.2.1 dX9_init_26 rfl (lv_at hl 0 rfl) ?_
  refine cl_aload C.1 C.2.1 dX9_init_27 (lv_at hl 4 rfl) ?_
  refine rp_9_26 (x := x4) C hn9 G_16 ha f4 dX9_init_29 (fun H locs G_19 => ?_)
  refine cl_nm G_19 h_17 (fun σ_18 G_20 h_21 => ?_)
  exact cl_vret ⟨rfl, rfl⟩ rfl C G_20 h_21 dX9_init_32
noncomputable def fc_X9_init (a : Nat) (x1 : Int32) (x2 : Int32) (x3 : Int32) (x4 : (Option Nat)) (σ : cl_S) : Option (cl_S) := bc_X9_init_0 a x1 x2 x3 x4 σ
theorem kc_X9_init (l : Launch) (D : cl_D) (c0 : Nat) {a : Nat} {x1 : Int32} {x2 : Int32} {x3 : Int32} {x4 : (Option Nat)} {σ σ' : cl_S} (ha : (σ.2.2.2.1 a).1 = 125) (h : fc_X9_init a x1 x2 x3 x4 σ = some σ') (f4 : cl_RT σ.2.2.2.1 x4 25) : cl_Met true l D c0 yX9_init cX9_init 5 none 1 20 [.ref (c0 + a), .int x1, .int x2, .int x3, cl_rf c0 x4] σ none cl_no σ' :=
  by cases x4 <;> exact cl_of (by decide) (Nat.le_of_ble_eq_true rfl) (fun p e s m args below meth c ls C hn G hl => wc_X9_init_0 C hn h G ha f4 hl)
abbrev cX10_noteUser : ByteArray := prog_12_method_6_code
def yX10_noteUser : MethodName := ⟨RX10, "noteUser", "(LPartHouse$Term;)V"⟩
theorem dX10_noteUser_0 : decode cX10_noteUser 0 = .ok (.aload_n 1, 1) := by decide +kernel
theorem dX10_noteUser_1 : decode cX10_noteUser 1 = .ok (.aload_n 1, 1) := by decide +kernel
theorem dX10_noteUser_2 : decode cX10_noteUser 2 = .ok (.getfield 24, 3) := by decide +kernel
theorem dX10_noteUser_5 : decode cX10_noteUser 5 = .ok (.getfield 89, 3) := by decide +kernel
theorem dX10_noteUser_8 : decode cX10_noteUser 8 = .ok (.putfield 92, 3) := by decide +kernel
theorem dX10_noteUser_11 : decode cX10_noteUser 11 = .ok (.aload_n 1, 1) := by decide +kernel
theorem dX10_noteUser_12 : decode cX10_noteUser 12 = .ok (.getfield 24, 3) := by decide +kernel
theorem dX10_noteUser_15 : decode cX10_noteUser 15 = .ok (.aload_n 1, 1) := by decide +kernel
theorem dX10_noteUser_16 : decode cX10_noteUser 16 = .ok (.putfield 89, 3) := by decide +kernel
theorem dX10_noteUser_19 : decode cX10_noteUser 19 = .ok (.aload_n 1, 1) := by decide +kernel
theorem dX10_noteUser_20 : decode cX10_noteUser 20 = .ok (.getfield 27, 3) := by decide +kernel
theorem dX10_noteUser_23 : decode cX10_noteUser 23 = .ok (.aload_n 1, 1) := by decide +kernel
theorem dX10_noteUser_24 : decode cX10_noteUser 24 = .ok (.getfield 24, 3) := by decide +kernel
theorem dX10_noteUser_27 : decode cX10_noteUser 27 = .ok (.if_acmp .eq 22, 3) := by decide +kernel
theorem dX10_noteUser_30 : decode cX10_noteUser 30 = .ok (.aload_n 1, 1) := by decide +kernel
theorem dX10_noteUser_31 : decode cX10_noteUser 31 = .ok (.aload_n 1, 1) := by decide +kernel
theorem dX10_noteUser_32 : decode cX10_noteUser 32 = .ok (.getfield 27, 3) := by decide +kernel
theorem dX10_noteUser_35 : decode cX10_noteUser 35 = .ok (.getfield 89, 3) := by decide +kernel
theorem dX10_noteUser_38 : decode cX10_noteUser 38 = .ok (.putfield 95, 3) := by decide +kernel
theorem dX10_noteUser_41 : decode cX10_noteUser 41 = .ok (.aload_n 1, 1) := by decide +kernel
theorem dX10_noteUser_42 : decode cX10_noteUser 42 = .ok (.getfield 27, 3) := by decide +kernel
theorem dX10_noteUser_45 : decode cX10_noteUser 45 = .ok (.aload_n 1, 1) := by decide +kernel
theorem dX10_noteUser_46 : decode cX10_noteUser 46 = .ok (.putfield 89, 3) := by decide +kernel
theorem dX10_noteUser_49 : decode cX10_noteUser 49 = .ok (.aload_n 1, 1) := by decide +kernel
theorem dX10_noteUser_50 : decode cX10_noteUser 50 = .ok (.getfield 30, 3) := by decide +kernel
theorem dX10_noteUser_53 : decode cX10_noteUser 53 = .ok (.aload_n 1, 1) := by decide +kernel
theorem dX10_noteUser_54 : decode cX10_noteUser 54 = .ok (.getfield 24, 3) := by decide +kernel
theorem dX10_noteUser_57 : decode cX10_noteUser 57 = .ok (.if_acmp .eq 33, 3) := by decide +kernel
theorem dX10_noteUser_60 : decode cX10_noteUser 60 = .ok (.aload_n 1, 1) := by decide +kernel
theorem dX10_noteUser_61 : decode cX10_noteUser 61 = .ok (.getfield 30, 3) := by decide +kernel
theorem dX10_noteUser_64 : decode cX10_noteUser 64 = .ok (.aload_n 1, 1) := by decide +kernel
theorem dX10_noteUser_65 : decode cX10_noteUser 65 = .ok (.getfield 27, 3) := by decide +kernel
theorem dX10_noteUser_68 : decode cX10_noteUser 68 = .ok (.if_acmp .eq 22, 3) := by decide +kernel
theorem dX10_noteUser_71 : decode cX10_noteUser 71 = .ok (.aload_n 1, 1) := by decide +kernel
theorem dX10_noteUser_72 : decode cX10_noteUser 72 = .ok (.aload_n 1, 1) := by decide +kernel
theorem dX10_noteUser_73 : decode cX10_noteUser 73 = .ok (.getfield 30, 3) := by decide +kernel
theorem dX10_noteUser_76 : decode cX10_noteUser 76 = .ok (.getfield 89, 3) := by decide +kernel
theorem dX10_noteUser_79 : decode cX10_noteUser 79 = .ok (.putfield 98, 3) := by decide +kernel
theorem dX10_noteUser_82 : decode cX10_noteUser 82 = .ok (.aload_n 1, 1) := by decide +kernel
theorem dX10_noteUser_83 : decode cX10_noteUser 83 = .ok (.getfield 30, 3) := by decide +kernel
theorem dX10_noteUser_86 : decode cX10_noteUser 86 = .ok (.aload_n 1, 1) := by decide +kernel
theorem dX10_noteUser_87 : decode cX10_noteUser 87 = .ok (.putfield 89, 3) := by decide +kernel
theorem dX10_noteUser_90 : decode cX10_noteUser 90 = .ok (.return_, 1) := by decide +kernel
theorem cc_X10_noteUser : Cond.code yX10_noteUser cX10_noteUser 2 none ∈ rf_tb := rf_at 301 (by decide +kernel) (by decide +kernel)
noncomputable def bc_X10_noteUser_49 (x1 : (Option Nat)) (σ : cl_S) : Option (cl_S) := nn x1 (fun a_38 => vl (σ.2.2.1 a_38 5) (fun r_42 => vl (σ.2.2.1 a_38 3) (fun r_46 => (if r_42 = r_46 then some σ else vl (σ.2.2.1 a_38 5) (fun r_50 => vl (σ.2.2.1 a_38 4) (fun r_54 => (if r_50 = r_54 then some σ else vl (σ.2.2.1 a_38 5) (fun r_58 => nn r_58 (fun a_61 => vl (σ.2.2.1 a_61 12) (fun r_65 => vl (cl_wr σ a_38 15 r_65) (fun σ_68 => vl (σ_68.2.2.1 a_38 5) (fun r_73 => nn r_73 (fun a_76 => vl (cl_wr σ_68 a_76 12 (some a_38)) (fun σ_79 => some σ_79))))))))))))))
set_option maxHeartbeats 4000000 in
theorem wc_X10_noteUser_49 (C : cl_C D p s m args meth c cX10_noteUser 2 none RX10) {x1 : (Option Nat)} {σ0 σ σ' : cl_S} {T : Nat → Nat × Nat} {H : Heap} {locs : List Loc} {ls : Array Slot} {cells slots : Nat} (h : bc_X10_noteUser_49 x1 σ = some σ') (G : cl_G true D c0 ({ frames := 0, cells := σ0.2.2.2.2.2.1, slots := σ0.2.2.2.2.2.2, locals := 0 }) s σ0.2.2.2.1 T σ H locs cells slots) (f1 : cl_RT T x1 25) (hl : lv_has ls 2 [(1, cl_rf c0 x1)]) : W p l e ({ frames := 0, cells := σ0.2.2.2.2.2.1, slots := σ0.2.2.2.2.2.2, locals := 0 }) s m args below meth c H locs cells slots (MQ below (cl_Q true D c0 none cl_no σ0 σ') args s (σ0.2.2.2.2.2.1 - σ'.2.2.2.2.2.1) (σ0.2.2.2.2.2.2 - σ'.2.2.2.2.2.2) (cl_A c0 σ0.2.2.2.1 s.heap.size)) (F0 m 49 ls []) := by
  unfold bc_X10_noteUser_49 at h
  refine cl_aload_n C.1 C.2.1 dX10_noteUser_49 rfl (lv_at hl 0 rfl) ?_
  obtain ⟨a_38, rfl, h_40⟩ := nn_some h
  have t_39 := f1 _ rfl
  refine cg_10_30 C G t_39 dX10_noteUser_50 (fun t_41 => ?_)
  refine vt_r (K := 25) t_41 h_40 (fun r_42 t_43 h_44 => ?_)
  refine lv_aload_n C.1 C.2.1 dX10_noteUser_53 rfl (lv_at hl 0 rfl) ?_
  refine cg_10_24 C G t_39 dX10_noteUser_54 (fun t_45 => ?_)
  refine vt_r (K := 25) t_45 h_44 (fun r_46 t_47 h_48 => ?_)
  refine cl_acmp_eq (rx := r_42) (ry := r_46) (tgt := 90) C.1 C.2.1 dX10_noteUser_57 (by decide) (fun hc => ?_) (fun hc => ?_)
  · rw [if_pos hc] at h_48
    exact cl_vret ⟨rfl, rfl⟩ rfl C G h_48 dX10_noteUser_90
  · rw [if_neg hc] at h_48
    refine lv_aload_n C.1 C.2.1 dX10_noteUser_60 rfl (lv_at hl 0 rfl) ?_
    refine cg_10_30 C G t_39 dX10_noteUser_61 (fun t_49 => ?_)
    refine vt_r (K := 25) t_49 h_48 (fun r_50 t_51 h_52 => ?_)
    refine lv_aload_n C.1 C.2.1 dX10_noteUser_64 rfl (lv_at hl 0 rfl) ?_
    refine cg_10_27 C G t_39 dX10_noteUser_65 (fun t_53 => ?_)
    refine vt_r (K := 25) t_53 h_52 (fun r_54 t_55 h_56 => ?_)
    refine cl_acmp_eq (rx := r_50) (ry := r_54) (tgt := 90) C.1 C.2.1 dX10_noteUser_68 (by decide) (fun hc => ?_) (fun hc => ?_)
    · rw [if_pos hc] at h_56
      exact cl_vret ⟨rfl, rfl⟩ rfl C G h_56 dX10_noteUser_90
    · rw [if_neg hc] at h_56
      refine lv_aload_n C.1 C.2.1 dX10_noteUser_71 rfl (lv_at hl 0 rfl) ?_
      refine lv_aload_n C.1 C.2.1 dX10_noteUser_72 rfl (lv_at hl 0 rfl) ?_
      refine cg_10_30 C G t_39 dX10_noteUser_73 (fun t_57 => ?_)
      refine vt_r (K := 25) t_57 h_56 (fun r_58 t_59 h_60 => ?_)
      obtain ⟨a_61, rfl, h_63⟩ := nn_some h_60
      have t_62 := t_59 _ rfl
      refine cg_10_89 C G t_62 dX10_noteUser_76 (fun t_64 => ?_)
      refine vt_r (K := 25) t_64 h_63 (fun r_65 t_66 h_67 => ?_)
      refine cp_10_98 (x := r_65) C G t_39 t_66 dX10_noteUser_79 (fun H locs G_69 => ?_)
      refine cl_nm G_69 h_67 (fun σ_68 G_70 h_71 => ?_)
      refine lv_aload_n C.1 C.2.1 dX10_noteUser_82 rfl (lv_at hl 0 rfl) ?_
      refine cg_10_30 C G_70 t_39 dX10_noteUser_83 (fun t_72 => ?_)
      refine vt_r (K := 25) t_72 h_71 (fun r_73 t_74 h_75 => ?_)
      refine lv_aload_n C.1 C.2.1 dX10_noteUser_86 rfl (lv_at hl 0 rfl) ?_
      obtain ⟨a_76, rfl, h_78⟩ := nn_some h_75
      have t_77 := t_74 _ rfl
      refine cp_10_89 (x := (some a_38)) C G_70 t_77 (cl_RTs t_39) dX10_noteUser_87 (fun H locs G_80 => ?_)
      refine cl_nm G_80 h_78 (fun σ_79 G_81 h_82 => ?_)
      exact cl_vret ⟨rfl, rfl⟩ rfl C G_81 h_82 dX10_noteUser_90
noncomputable def bc_X10_noteUser_0 (a : Nat) (x1 : (Option Nat)) (σ : cl_S) : Option (cl_S) := nn x1 (fun a_1 => vl (σ.2.2.1 a_1 3) (fun r_5 => nn r_5 (fun a_8 => vl (σ.2.2.1 a_8 12) (fun r_12 => vl (cl_wr σ a_1 13 r_12) (fun σ_15 => vl (σ_15.2.2.1 a_1 3) (fun r_20 => nn r_20 (fun a_23 => vl (cl_wr σ_15 a_23 12 (some a_1)) (fun σ_26 => vl (σ_26.2.2.1 a_1 4) (fun r_31 => vl (σ_26.2.2.1 a_1 3) (fun r_35 => (if r_31 = r_35 then bc_X10_noteUser_49 (some a_1) σ_26 else vl (σ_26.2.2.1 a_1 4) (fun r_84 => nn r_84 (fun a_87 => vl (σ_26.2.2.1 a_87 12) (fun r_91 => vl (cl_wr σ_26 a_1 14 r_91) (fun σ_94 => vl (σ_94.2.2.1 a_1 4) (fun r_99 => nn r_99 (fun a_102 => vl (cl_wr σ_94 a_102 12 (some a_1)) (fun σ_105 => bc_X10_noteUser_49 (some a_1) σ_105))))))))))))))))))
set_option maxHeartbeats 4000000 in
theorem wc_X10_noteUser_0 (C : cl_C D p s m args meth c cX10_noteUser 2 none RX10) {a : Nat} {x1 : (Option Nat)} {σ0 σ σ' : cl_S} {T : Nat → Nat × Nat} {H : Heap} {locs : List Loc} {ls : Array Slot} {cells slots : Nat} (h : bc_X10_noteUser_0 a x1 σ = some σ') (G : cl_G true D c0 ({ frames := 0, cells := σ0.2.2.2.2.2.1, slots := σ0.2.2.2.2.2.2, locals := 0 }) s σ0.2.2.2.1 T σ H locs cells slots) (ha : (T a).1 = 26) (f1 : cl_RT T x1 25) (hl : lv_has ls 2 [(0, .ref (c0 + a)), (1, cl_rf c0 x1)]) : W p l e ({ frames := 0, cells := σ0.2.2.2.2.2.1, slots := σ0.2.2.2.2.2.2, locals := 0 }) s m args below meth c H locs cells slots (MQ below (cl_Q true D c0 none cl_no σ0 σ') args s (σ0.2.2.2.2.2.1 - σ'.2.2.2.2.2.1) (σ0.2.2.2.2.2.2 - σ'.2.2.2.2.2.2) (cl_A c0 σ0.2.2.2.1 s.heap.size)) (F0 m 0 ls []) := by
  unfold bc_X10_noteUser_0 at h
  refine cl_aload_n C.1 C.2.1 dX10_noteUser_0 rfl (lv_at hl 1 rfl) ?_
  refine cl_aload_n C.1 C.2.1 dX10_noteUser_1 rfl (lv_at hl 1 rfl) ?_
  obtain ⟨a_1, rfl, h_3⟩ := nn_some h
  have t_2 := f1 _ rfl
  refine cg_10_24 C G t_2 dX10_noteUser_2 (fun t_4 => ?_)
  refine vt_r (K := 25) t_4 h_3 (fun r_5 t_6 h_7 => ?_)
  obtain ⟨a_8, rfl, h_10⟩ := nn_some h_7
  have t_9 := t_6 _ rfl
  refine cg_10_89 C G t_9 dX10_noteUser_5 (fun t_11 => ?_)
  refine vt_r (K := 25) t_11 h_10 (fun r_12 t_13 h_14 => ?_)
  refine cp_10_92 (x := r_12) C G t_2 t_13 dX10_noteUser_8 (fun H locs G_16 => ?_)
  refine cl_nm G_16 h_14 (fun σ_15 G_17 h_18 => ?_)
  refine lv_aload_n C.1 C.2.1 dX10_noteUser_11 rfl (lv_at hl 1 rfl) ?_
  refine cg_10_24 C G_17 t_2 dX10_noteUser_12 (fun t_19 => ?_)
  refine vt_r (K := 25) t_19 h_18 (fun r_20 t_21 h_22 => ?_)
  refine lv_aload_n C.1 C.2.1 dX10_noteUser_15 rfl (lv_at hl 1 rfl) ?_
  obtain ⟨a_23, rfl, h_25⟩ := nn_some h_22
  have t_24 := t_21 _ rfl
  refine cp_10_89 (x := (some a_1)) C G_17 t_24 (cl_RTs t_2) dX10_noteUser_16 (fun H locs G_27 => ?_)
  refine cl_nm G_27 h_25 (fun σ_26 G_28 h_29 => ?_)
  refine lv_aload_n C.1 C.2.1 dX10_noteUser_19 rfl (lv_at hl 1 rfl) ?_
  refine cg_10_27 C G_28 t_2 dX10_noteUser_20 (fun t_30 => ?_)
  refine vt_r (K := 25) t_30 h_29 (fun r_31 t_32 h_33 => ?_)
  refine lv_aload_n C.1 C.2.1 dX10_noteUser_23 rfl (lv_at hl 1 rfl) ?_
  refine cg_10_24 C G_28 t_2 dX10_noteUser_24 (fun t_34 => ?_)
  refine vt_r (K := 25) t_34 h_33 (fun r_35 t_36 h_37 => ?_)
  refine cl_acmp_eq (rx := r_31) (ry := r_35) (tgt := 49) C.1 C.2.1 dX10_noteUser_27 (by decide) (fun hc => ?_) (fun hc => ?_)
  · rw [if_pos hc] at h_37
    exact wc_X10_noteUser_49 C h_37 G_28 (cl_RTs t_2) (lv_sub hl [1] rfl)
  · rw [if_neg hc] at h_37
    refine lv_aload_n C.1 C.2.1 dX10_noteUser_30 rfl (lv_at hl 1 rfl) ?_
    refine lv_aload_n C.1 C.2.1 dX10_noteUser_31 rfl (lv_at hl 1 rfl) ?_
    refine cg_10_27 C G_28 t_2 dX10_noteUser_32 (fun t_83 => ?_)
    refine vt_r (K := 25) t_83 h_37 (fun r_84 t_85 h_86 => ?_)
    obtain ⟨a_87, rfl, h_89⟩ := nn_some h_86
    have t_88 := t_85 _ rfl
    refine cg_10_89 C G_28 t_88 dX10_noteUser_35 (fun t_90 => ?_)
    refine vt_r (K := 25) t_90 h_89 (fun r_91 t_92 h_93 => ?_)
    refine cp_10_95 (x := r_91) C G_28 t_2 t_92 dX10_noteUser_38 (fun H locs G_95 => ?_)
    refine cl_nm G_95 h_93 (fun σ_94 G_96 h_97 => ?_)
    refine lv_aload_n C.1 C.2.1 dX10_noteUser_41 rfl (lv_at hl 1 rfl) ?_
    refine cg_10_27 C G_96 t_2 dX10_noteUser_42 (fun t_98 => ?_)
    refine vt_r (K := 25) t_98 h_97 (fun r_99 t_100 h_101 => ?_)
    refine lv_aload_n C.1 C.2.1 dX10_noteUser_45 rfl (lv_at hl 1 rfl) ?_
    obtain ⟨a_102, rfl, h_104⟩ := nn_some h_101
    have t_103 := t_100 _ rfl
    refine cp_10_89 (x := (some a_1)) C G_96 t_103 (cl_RTs t_2) dX10_noteUser_46 (fun H locs G_106 => ?_)
    refine cl_nm G_106 h_104 (fun σ_105 G_107 h_108 => ?_)
    exact wc_X10_noteUser_49 C h_108 G_107 (cl_RTs t_2) (lv_sub hl [1] rfl)
noncomputable def fc_X10_noteUser (a : Nat) (x1 : (Option Nat)) (σ : cl_S) : Option (cl_S) := bc_X10_noteUser_0 a x1 σ
theorem kc_X10_noteUser (l : Launch) (D : cl_D) (c0 : Nat) {a : Nat} {x1 : (Option Nat)} {σ σ' : cl_S} (ha : (σ.2.2.2.1 a).1 = 26) (h : fc_X10_noteUser a x1 σ = some σ') (f1 : cl_RT σ.2.2.2.1 x1 25) : cl_Met true l D c0 yX10_noteUser cX10_noteUser 2 none 0 0 [.ref (c0 + a), cl_rf c0 x1] σ none cl_no σ' :=
  by cases x1 <;> exact cl_of (by decide) (Nat.le_of_ble_eq_true rfl) (fun p e s m args below meth c ls C hn G hl => wc_X10_noteUser_0 C h G ha f1 hl)
end CQ8
