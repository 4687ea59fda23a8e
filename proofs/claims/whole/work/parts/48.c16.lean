section CQ15
variable {p : Program} {l : Launch} {e : Env} {s : State} {m : MethodId} {args : Array Value} {below : List Frame} {meth : Method} {c : Code} {D : cl_D} {c0 : Nat}
abbrev cX11_inputTerm : ByteArray := prog_1_method_18_code
def yX11_inputTerm : MethodName := ⟨RX11, "inputTerm", "(II)I"⟩
theorem dX11_inputTerm_0 : decode cX11_inputTerm 0 = .ok (.aload_n 0, 1) := by decide +kernel
theorem dX11_inputTerm_1 : decode cX11_inputTerm 1 = .ok (.iload_n 1, 1) := by decide +kernel
theorem dX11_inputTerm_2 : decode cX11_inputTerm 2 = .ok (.invokevirtual 219, 3) := by decide +kernel
theorem dX11_inputTerm_5 : decode cX11_inputTerm 5 = .ok (.ifCond .eq 14, 3) := by decide +kernel
theorem dX11_inputTerm_8 : decode cX11_inputTerm 8 = .ok (.aload_n 0, 1) := by decide +kernel
theorem dX11_inputTerm_9 : decode cX11_inputTerm 9 = .ok (.getfield 56, 3) := by decide +kernel
theorem dX11_inputTerm_12 : decode cX11_inputTerm 12 = .ok (.iload_n 2, 1) := by decide +kernel
theorem dX11_inputTerm_13 : decode cX11_inputTerm 13 = .ok (.invokevirtual 230, 3) := by decide +kernel
theorem dX11_inputTerm_16 : decode cX11_inputTerm 16 = .ok (.ifCond .ne 5, 3) := by decide +kernel
theorem dX11_inputTerm_19 : decode cX11_inputTerm 19 = .ok (.iconst (-1), 1) := by decide +kernel
theorem dX11_inputTerm_20 : decode cX11_inputTerm 20 = .ok (.ireturn, 1) := by decide +kernel
theorem dX11_inputTerm_21 : decode cX11_inputTerm 21 = .ok (.aload_n 0, 1) := by decide +kernel
theorem dX11_inputTerm_22 : decode cX11_inputTerm 22 = .ok (.getfield 81, 3) := by decide +kernel
theorem dX11_inputTerm_25 : decode cX11_inputTerm 25 = .ok (.getfield 137, 3) := by decide +kernel
theorem dX11_inputTerm_28 : decode cX11_inputTerm 28 = .ok (.ifCond .ne 6, 3) := by decide +kernel
theorem dX11_inputTerm_31 : decode cX11_inputTerm 31 = .ok (.bipush (-3), 2) := by decide +kernel
theorem dX11_inputTerm_33 : decode cX11_inputTerm 33 = .ok (.ireturn, 1) := by decide +kernel
theorem dX11_inputTerm_34 : decode cX11_inputTerm 34 = .ok (.aload_n 0, 1) := by decide +kernel
theorem dX11_inputTerm_35 : decode cX11_inputTerm 35 = .ok (.getfield 56, 3) := by decide +kernel
theorem dX11_inputTerm_38 : decode cX11_inputTerm 38 = .ok (.iload_n 2, 1) := by decide +kernel
theorem dX11_inputTerm_39 : decode cX11_inputTerm 39 = .ok (.invokevirtual 233, 3) := by decide +kernel
theorem dX11_inputTerm_42 : decode cX11_inputTerm 42 = .ok (.astore_n 3, 1) := by decide +kernel
theorem dX11_inputTerm_43 : decode cX11_inputTerm 43 = .ok (.aload_n 0, 1) := by decide +kernel
theorem dX11_inputTerm_44 : decode cX11_inputTerm 44 = .ok (.getfield 81, 3) := by decide +kernel
theorem dX11_inputTerm_47 : decode cX11_inputTerm 47 = .ok (.getfield 175, 3) := by decide +kernel
theorem dX11_inputTerm_50 : decode cX11_inputTerm 50 = .ok (.iload_n 1, 1) := by decide +kernel
theorem dX11_inputTerm_51 : decode cX11_inputTerm 51 = .ok (.aaload, 1) := by decide +kernel
theorem dX11_inputTerm_52 : decode cX11_inputTerm 52 = .ok (.aload_n 3, 1) := by decide +kernel
theorem dX11_inputTerm_53 : decode cX11_inputTerm 53 = .ok (.invokevirtual 237, 3) := by decide +kernel
theorem dX11_inputTerm_56 : decode cX11_inputTerm 56 = .ok (.istore 4, 2) := by decide +kernel
theorem dX11_inputTerm_58 : decode cX11_inputTerm 58 = .ok (.iload 4, 2) := by decide +kernel
theorem dX11_inputTerm_60 : decode cX11_inputTerm 60 = .ok (.ifCond .le 13, 3) := by decide +kernel
theorem dX11_inputTerm_63 : decode cX11_inputTerm 63 = .ok (.aload_n 0, 1) := by decide +kernel
theorem dX11_inputTerm_64 : decode cX11_inputTerm 64 = .ok (.getfield 81, 3) := by decide +kernel
theorem dX11_inputTerm_67 : decode cX11_inputTerm 67 = .ok (.iload_n 1, 1) := by decide +kernel
theorem dX11_inputTerm_68 : decode cX11_inputTerm 68 = .ok (.iconst 0, 1) := by decide +kernel
theorem dX11_inputTerm_69 : decode cX11_inputTerm 69 = .ok (.aload_n 3, 1) := by decide +kernel
theorem dX11_inputTerm_70 : decode cX11_inputTerm 70 = .ok (.invokevirtual 226, 3) := by decide +kernel
theorem dX11_inputTerm_73 : decode cX11_inputTerm 73 = .ok (.iload 4, 2) := by decide +kernel
theorem dX11_inputTerm_75 : decode cX11_inputTerm 75 = .ok (.ireturn, 1) := by decide +kernel
theorem cc_X11_inputTerm : Cond.code yX11_inputTerm cX11_inputTerm 5 (some .int) ∈ rf_tb := rf_at 1349 (by decide +kernel) (by decide +kernel)
theorem cw_RX11_230 : cl_wV RX11 RX8 yX8_has cX8_has 2 (some .boolean) 230 1 := ⟨⟨rf_at 1350 (by decide +kernel) (by decide +kernel), rf_at 1164 (by decide +kernel) (by decide +kernel), rf_at 1165 (by decide +kernel) (by decide +kernel), cc_X8_has, rf_at 11 (by decide +kernel) (by decide +kernel)⟩, ⟨by decide, by decide, by decide +kernel⟩⟩
theorem cw_RX11_233 : cl_wV RX11 RX8 yX8_at cX8_at 2 (some (.object "PartHouse$Term")) 233 1 := ⟨⟨rf_at 1351 (by decide +kernel) (by decide +kernel), rf_at 1160 (by decide +kernel) (by decide +kernel), rf_at 1161 (by decide +kernel) (by decide +kernel), cc_X8_at, rf_at 11 (by decide +kernel) (by decide +kernel)⟩, ⟨by decide, by decide, by decide +kernel⟩⟩
theorem cw_RX11_237 : cl_wV RX11 RX6 yX6_waitTerm cX6_waitTerm 2 (some .int) 237 1 := ⟨⟨rf_at 1352 (by decide +kernel) (by decide +kernel), rf_at 1353 (by decide +kernel) (by decide +kernel), rf_at 1354 (by decide +kernel) (by decide +kernel), cc_X6_waitTerm, rf_at 15 (by decide +kernel) (by decide +kernel)⟩, ⟨by decide, by decide, by decide +kernel⟩⟩
noncomputable def bc_X11_inputTerm_0 (a : Nat) (x1 : Int32) (x2 : Int32) (σ : cl_S) : Option (Int32 × cl_S) := bd2 (fc_X11_isPartition a x1 σ) (fun r_2 σ_1 => (if r_2 = 0 then some ((-1:Int32), σ_1) else bd2 (fc_X8_has 38 x2 σ_1) (fun r_9 σ_8 => (if r_9 = 0 then some ((-1:Int32), σ_8) else (if (σ_8.1 47 8) = 0 then some ((-3:Int32), σ_8) else bd2 (fc_X8_at 38 x2 σ_8) (fun r_17 σ_16 => ix x1 8 (vl (σ_16.2.2.1 (47 + 12 + cl_md 47) x1.toNatClampNeg) (fun r_27 => nn r_27 (fun a_30 => bd2 (fc_X6_waitTerm a_30 r_17 σ_16) (fun r_34 σ_33 => (if r_34 ≤ 0 then some (r_34, σ_33) else bd1 (fc_X5_noteInput 47 x1 (0:Int32) r_17 σ_33) (fun σ_41 => some (r_34, σ_41)))))))))))))
set_option maxHeartbeats 4000000 in
theorem wc_X11_inputTerm_0 (C : cl_C D p s m args meth c cX11_inputTerm 5 (some .int) RX11) {r : Int32} {a : Nat} {x1 : Int32} {x2 : Int32} {σ0 σ σ' : cl_S} {T : Nat → Nat × Nat} {H : Heap} {locs : List Loc} {ls : Array Slot} {cells slots : Nat} (h : bc_X11_inputTerm_0 a x1 x2 σ = some (r, σ')) (G : cl_G true D c0 ({ frames := 2, cells := σ0.2.2.2.2.2.1, slots := σ0.2.2.2.2.2.2, locals := 42 }) s σ0.2.2.2.1 T σ H locs cells slots) (ha : (T a).1 = 27) (hl : lv_has ls 5 [(0, .ref (c0 + a)), (1, .int x1), (2, .int x2)]) : W p l e ({ frames := 2, cells := σ0.2.2.2.2.2.1, slots := σ0.2.2.2.2.2.2, locals := 42 }) s m args below meth c H locs cells slots (MQ below (cl_Q true D c0 (some (.int r)) cl_no σ0 σ') args s (σ0.2.2.2.2.2.1 - σ'.2.2.2.2.2.1) (σ0.2.2.2.2.2.2 - σ'.2.2.2.2.2.2) (cl_A c0 σ0.2.2.2.1 s.heap.size)) (F0 m 0 ls []) := by
  unfold bc_X11_inputTerm_0 at h
  refine lv_aload_n C.1 C.2.1 dX11_inputTerm_0 rfl (lv_at hl 0 rfl) ?_
  refine lv_iload_n C.1 C.2.1 dX11_inputTerm_1 rfl (lv_at hl 1 rfl) ?_
  obtain ⟨r_2, σ_1, hq, h_3⟩ := bd2_some h
  refine cl_callV (ci := 11) (rest := []) C G rfl ha cw_RX11_219 [.int x1] _ (kc_X11_isPartition l D c0 (by rw [G.1]; exact ha) hq) (Nat.le_of_ble_eq_true rfl) (Nat.le_of_ble_eq_true rfl) rfl rfl hl.1 (Nat.le_of_ble_eq_true rfl) dX11_inputTerm_2 (fun T_4 H locs cells slots t_5 hu G_6 => ?_)
  have ha := hu.kind ha (by decide)
  refine W.eq (g2 := F0 m 5 ls [.int r_2]) rfl ?_
  refine lv_if_eq (tgt := 19) C.1 C.2.1 dX11_inputTerm_5 (by decide) (fun hc => ?_) (fun hc => ?_)
  · rw [if_pos hc] at h_3
    refine lv_iconst (v := (-1:Int32)) C.1 C.2.1 dX11_inputTerm_19 (by decide) ?_
    exact cl_iret ⟨rfl, rfl⟩ rfl C G_6 h_3 dX11_inputTerm_20
  · rw [if_neg hc] at h_3
    refine lv_aload_n C.1 C.2.1 dX11_inputTerm_8 rfl (lv_at hl 0 rfl) ?_
    refine cg_11_56 C G_6 ha dX11_inputTerm_9 (fun t_7 => ?_)
    have t_7 : (T_4 38).1 = 24 := by rw [t_7]
    refine lv_iload_n C.1 C.2.1 dX11_inputTerm_12 rfl (lv_at hl 2 rfl) ?_
    obtain ⟨r_9, σ_8, hq, h_10⟩ := bd2_some h_3
    refine cl_callV (ci := 8) (rest := []) C G_6 rfl t_7 cw_RX11_230 [.int x2] _ (kc_X8_has l D c0 (by rw [G_6.1]; exact t_7) hq) (Nat.le_of_ble_eq_true rfl) (Nat.le_of_ble_eq_true rfl) rfl rfl hl.1 (Nat.le_of_ble_eq_true rfl) dX11_inputTerm_13 (fun T_11 H locs cells slots t_12 hu G_13 => ?_)
    have ha := hu.kind ha (by decide)
    refine W.eq (g2 := F0 m 16 ls [.int r_9]) rfl ?_
    refine lv_if_ne (tgt := 21) C.1 C.2.1 dX11_inputTerm_16 (by decide) (fun hc => ?_) (fun hc => ?_)
    · rw [if_neg hc] at h_10
      refine lv_aload_n C.1 C.2.1 dX11_inputTerm_21 rfl (lv_at hl 0 rfl) ?_
      refine cg_11_81 C G_13 ha dX11_inputTerm_22 (fun t_14 => ?_)
      have t_14 : (T_11 47).1 = 21 := by rw [t_14]
      refine cg_11_137 C G_13 t_14 dX11_inputTerm_25 ?_
      refine lv_if_ne (tgt := 34) C.1 C.2.1 dX11_inputTerm_28 (by decide) (fun hc => ?_) (fun hc => ?_)
      · rw [if_neg hc] at h_10
        refine lv_aload_n C.1 C.2.1 dX11_inputTerm_34 rfl (lv_at hl 0 rfl) ?_
        refine cg_11_56 C G_13 ha dX11_inputTerm_35 (fun t_15 => ?_)
        have t_15 : (T_11 38).1 = 24 := by rw [t_15]
        refine lv_iload_n C.1 C.2.1 dX11_inputTerm_38 rfl (lv_at hl 2 rfl) ?_
        obtain ⟨r_17, σ_16, hq, h_18⟩ := bd2_some h_10
        refine cl_callV (ci := 8) (rest := []) C G_13 rfl t_15 cw_RX11_233 [.int x2] _ (kc_X8_at l D c0 (by rw [G_13.1]; exact t_15) hq) (Nat.le_of_ble_eq_true rfl) (Nat.le_of_ble_eq_true rfl) rfl rfl hl.1 (Nat.le_of_ble_eq_true rfl) dX11_inputTerm_39 (fun T_19 H locs cells slots t_20 hu G_21 => ?_)
        have ha := hu.kind ha (by decide)
        refine W.eq (g2 := F0 m 42 ls [cl_rf c0 r_17]) rfl ?_
        refine cl_astore_n (lv' := [(3, cl_rf c0 r_17), (0, .ref (c0 + a)), (1, .int x1), (2, .int x2)]) C.1 C.2.1 dX11_inputTerm_42 rfl hl (by decide) rfl (fun ls hl_22 => ?_)
        refine lv_aload_n C.1 C.2.1 dX11_inputTerm_43 rfl (lv_at hl_22 1 rfl) ?_
        refine cg_11_81 C G_21 ha dX11_inputTerm_44 (fun t_23 => ?_)
        have t_23 : (T_19 47).1 = 21 := by rw [t_23]
        refine cg_11_175 C G_21 t_23 dX11_inputTerm_47 (fun t_24 => ?_)
        refine lv_iload_n C.1 C.2.1 dX11_inputTerm_50 rfl (lv_at hl_22 2 rfl) ?_
        obtain ⟨hi, h_25⟩ := ix_some h_18
        refine cl_aald C G_21 t_24 (by decide) (by decide) rfl hi dX11_inputTerm_51 (fun t_26 => ?_)
        refine vt_r (K := 22) t_26 h_25 (fun r_27 t_28 h_29 => ?_)
        refine cl_aload_n C.1 C.2.1 dX11_inputTerm_52 rfl (lv_at hl_22 0 rfl) ?_
        obtain ⟨a_30, rfl, h_32⟩ := nn_some h_29
        have t_31 := t_28 _ rfl
        obtain ⟨r_34, σ_33, hq, h_35⟩ := bd2_some h_32
        refine cl_callV (ci := 6) (rest := []) C G_21 rfl t_31 cw_RX11_237 [cl_rf c0 r_17] _ (kc_X6_waitTerm l D c0 (by rw [G_21.1]; exact t_31) hq (by rw [G_21.1]; exact t_20)) (Nat.le_of_ble_eq_true rfl) (Nat.le_of_ble_eq_true rfl) rfl rfl hl_22.1 (Nat.le_of_ble_eq_true rfl) dX11_inputTerm_53 (fun T_36 H locs cells slots t_37 hu G_38 => ?_)
        have t_20 := t_20.up hu (by decide)
        have ha := hu.kind ha (by decide)
        refine W.eq (g2 := F0 m 56 ls [.int r_34]) rfl ?_
        refine lv_istore (lv' := [(4, .int r_34), (3, cl_rf c0 r_17), (0, .ref (c0 + a)), (1, .int x1), (2, .int x2)]) C.1 C.2.1 dX11_inputTerm_56 hl_22 (by decide) (by first | rfl | (cases r_17 <;> rfl)) (fun ls hl_39 => ?_)
        refine lv_iload C.1 C.2.1 dX11_inputTerm_58 (lv_at hl_39 0 rfl) ?_
        refine lv_if_le (tgt := 73) C.1 C.2.1 dX11_inputTerm_60 (by decide) (fun hc => ?_) (fun hc => ?_)
        · rw [if_pos hc] at h_35
          refine lv_iload C.1 C.2.1 dX11_inputTerm_73 (lv_at hl_39 0 rfl) ?_
          exact cl_iret ⟨rfl, rfl⟩ rfl C G_38 h_35 dX11_inputTerm_75
        · rw [if_neg hc] at h_35
          refine lv_aload_n C.1 C.2.1 dX11_inputTerm_63 rfl (lv_at hl_39 2 rfl) ?_
          refine cg_11_81 C G_38 ha dX11_inputTerm_64 (fun t_40 => ?_)
          have t_40 : (T_36 47).1 = 21 := by rw [t_40]
          refine lv_iload_n C.1 C.2.1 dX11_inputTerm_67 rfl (lv_at hl_39 3 rfl) ?_
          refine lv_iconst (v := (0:Int32)) C.1 C.2.1 dX11_inputTerm_68 (by decide) ?_
          refine cl_aload_n C.1 C.2.1 dX11_inputTerm_69 rfl (lv_at hl_39 1 rfl) ?_
          obtain ⟨σ_41, hq, h_42⟩ := bd1_some h_35
          refine cl_callV (ci := 5) (rest := []) C G_38 rfl t_40 cw_RX11_226 [.int x1, .int (0:Int32), cl_rf c0 r_17] _ (kc_X5_noteInput l D c0 (by rw [G_38.1]; exact t_40) hq (by rw [G_38.1]; exact t_20)) (Nat.le_of_ble_eq_true rfl) (Nat.le_of_ble_eq_true rfl) rfl rfl hl_39.1 (Nat.le_of_ble_eq_true rfl) dX11_inputTerm_70 (fun T_43 H locs cells slots t_44 hu G_45 => ?_)
          have t_20 := t_20.up hu (by decide)
          have ha := hu.kind ha (by decide)
          refine W.eq (g2 := F0 m 73 ls []) rfl ?_
          refine lv_iload C.1 C.2.1 dX11_inputTerm_73 (lv_at hl_39 0 rfl) ?_
          exact cl_iret ⟨rfl, rfl⟩ rfl C G_45 h_42 dX11_inputTerm_75
      · rw [if_pos hc] at h_10
        refine lv_bipush (v := (-3:Int32)) C.1 C.2.1 dX11_inputTerm_31 (by decide) ?_
        exact cl_iret ⟨rfl, rfl⟩ rfl C G_13 h_10 dX11_inputTerm_33
    · rw [if_pos hc] at h_10
      refine lv_iconst (v := (-1:Int32)) C.1 C.2.1 dX11_inputTerm_19 (by decide) ?_
      exact cl_iret ⟨rfl, rfl⟩ rfl C G_13 h_10 dX11_inputTerm_20
noncomputable def fc_X11_inputTerm (a : Nat) (x1 : Int32) (x2 : Int32) (σ : cl_S) : Option (Int32 × cl_S) := bc_X11_inputTerm_0 a x1 x2 σ
theorem kc_X11_inputTerm (l : Launch) (D : cl_D) (c0 : Nat) {r : Int32} {a : Nat} {x1 : Int32} {x2 : Int32} {σ σ' : cl_S} (ha : (σ.2.2.2.1 a).1 = 27) (h : fc_X11_inputTerm a x1 x2 σ = some (r, σ')) : cl_Met true l D c0 yX11_inputTerm cX11_inputTerm 5 (some .int) 2 42 [.ref (c0 + a), .int x1, .int x2] σ (some (.int r)) cl_no σ' :=
  cl_of (by decide) (Nat.le_of_ble_eq_true rfl) (fun p e s m args below meth c ls C hn G hl => wc_X11_inputTerm_0 C h G ha hl)
abbrev cX11_output : ByteArray := prog_1_method_19_code
def yX11_output : MethodName := ⟨RX11, "output", "(III)I"⟩
theorem dX11_output_0 : decode cX11_output 0 = .ok (.aload_n 0, 1) := by decide +kernel
theorem dX11_output_1 : decode cX11_output 1 = .ok (.iload_n 1, 1) := by decide +kernel
theorem dX11_output_2 : decode cX11_output 2 = .ok (.invokevirtual 219, 3) := by decide +kernel
theorem dX11_output_5 : decode cX11_output 5 = .ok (.ifCond .eq 23, 3) := by decide +kernel
theorem dX11_output_8 : decode cX11_output 8 = .ok (.iload_n 2, 1) := by decide +kernel
theorem dX11_output_9 : decode cX11_output 9 = .ok (.ifCond .lt 19, 3) := by decide +kernel
theorem dX11_output_12 : decode cX11_output 12 = .ok (.iload_n 2, 1) := by decide +kernel
theorem dX11_output_13 : decode cX11_output 13 = .ok (.aload_n 0, 1) := by decide +kernel
theorem dX11_output_14 : decode cX11_output 14 = .ok (.getfield 81, 3) := by decide +kernel
theorem dX11_output_17 : decode cX11_output 17 = .ok (.getfield 175, 3) := by decide +kernel
theorem dX11_output_20 : decode cX11_output 20 = .ok (.iload_n 1, 1) := by decide +kernel
theorem dX11_output_21 : decode cX11_output 21 = .ok (.aaload, 1) := by decide +kernel
theorem dX11_output_22 : decode cX11_output 22 = .ok (.getfield 241, 3) := by decide +kernel
theorem dX11_output_25 : decode cX11_output 25 = .ok (.if_icmp .lt 5, 3) := by decide +kernel
theorem dX11_output_28 : decode cX11_output 28 = .ok (.iconst (-1), 1) := by decide +kernel
theorem dX11_output_29 : decode cX11_output 29 = .ok (.ireturn, 1) := by decide +kernel
theorem dX11_output_30 : decode cX11_output 30 = .ok (.iload_n 3, 1) := by decide +kernel
theorem dX11_output_31 : decode cX11_output 31 = .ok (.ifCond .lt 8, 3) := by decide +kernel
theorem dX11_output_34 : decode cX11_output 34 = .ok (.iload_n 3, 1) := by decide +kernel
theorem dX11_output_35 : decode cX11_output 35 = .ok (.iconst 1, 1) := by decide +kernel
theorem dX11_output_36 : decode cX11_output 36 = .ok (.if_icmp .le 6, 3) := by decide +kernel
theorem dX11_output_39 : decode cX11_output 39 = .ok (.bipush (-2), 2) := by decide +kernel
theorem dX11_output_41 : decode cX11_output 41 = .ok (.ireturn, 1) := by decide +kernel
theorem dX11_output_42 : decode cX11_output 42 = .ok (.aload_n 0, 1) := by decide +kernel
theorem dX11_output_43 : decode cX11_output 43 = .ok (.getfield 81, 3) := by decide +kernel
theorem dX11_output_46 : decode cX11_output 46 = .ok (.getfield 175, 3) := by decide +kernel
theorem dX11_output_49 : decode cX11_output 49 = .ok (.iload_n 1, 1) := by decide +kernel
theorem dX11_output_50 : decode cX11_output 50 = .ok (.aaload, 1) := by decide +kernel
theorem dX11_output_51 : decode cX11_output 51 = .ok (.getfield 244, 3) := by decide +kernel
theorem dX11_output_54 : decode cX11_output 54 = .ok (.iload_n 2, 1) := by decide +kernel
theorem dX11_output_55 : decode cX11_output 55 = .ok (.aaload, 1) := by decide +kernel
theorem dX11_output_56 : decode cX11_output 56 = .ok (.astore 4, 2) := by decide +kernel
theorem dX11_output_58 : decode cX11_output 58 = .ok (.iload_n 3, 1) := by decide +kernel
theorem dX11_output_59 : decode cX11_output 59 = .ok (.ifCond .ne 21, 3) := by decide +kernel
theorem dX11_output_62 : decode cX11_output 62 = .ok (.aload 4, 2) := by decide +kernel
theorem dX11_output_64 : decode cX11_output 64 = .ok (.aload_n 0, 1) := by decide +kernel
theorem dX11_output_65 : decode cX11_output 65 = .ok (.getfield 47, 3) := by decide +kernel
theorem dX11_output_68 : decode cX11_output 68 = .ok (.getfield 62, 3) := by decide +kernel
theorem dX11_output_71 : decode cX11_output 71 = .ok (.if_acmp .ne 7, 3) := by decide +kernel
theorem dX11_output_74 : decode cX11_output 74 = .ok (.iconst 0, 1) := by decide +kernel
theorem dX11_output_75 : decode cX11_output 75 = .ok (.goto 4, 3) := by decide +kernel
theorem dX11_output_78 : decode cX11_output 78 = .ok (.iconst 1, 1) := by decide +kernel
theorem dX11_output_79 : decode cX11_output 79 = .ok (.ireturn, 1) := by decide +kernel
theorem dX11_output_80 : decode cX11_output 80 = .ok (.aload 4, 2) := by decide +kernel
theorem dX11_output_82 : decode cX11_output 82 = .ok (.aload_n 0, 1) := by decide +kernel
theorem dX11_output_83 : decode cX11_output 83 = .ok (.getfield 47, 3) := by decide +kernel
theorem dX11_output_86 : decode cX11_output 86 = .ok (.getfield 62, 3) := by decide +kernel
theorem dX11_output_89 : decode cX11_output 89 = .ok (.if_acmp .ne 20, 3) := by decide +kernel
theorem dX11_output_92 : decode cX11_output 92 = .ok (.aload_n 0, 1) := by decide +kernel
theorem dX11_output_93 : decode cX11_output 93 = .ok (.getfield 81, 3) := by decide +kernel
theorem dX11_output_96 : decode cX11_output 96 = .ok (.getfield 175, 3) := by decide +kernel
theorem dX11_output_99 : decode cX11_output 99 = .ok (.iload_n 1, 1) := by decide +kernel
theorem dX11_output_100 : decode cX11_output 100 = .ok (.aaload, 1) := by decide +kernel
theorem dX11_output_101 : decode cX11_output 101 = .ok (.getfield 248, 3) := by decide +kernel
theorem dX11_output_104 : decode cX11_output 104 = .ok (.iload_n 2, 1) := by decide +kernel
theorem dX11_output_105 : decode cX11_output 105 = .ok (.iaload, 1) := by decide +kernel
theorem dX11_output_106 : decode cX11_output 106 = .ok (.goto 12, 3) := by decide +kernel
theorem dX11_output_109 : decode cX11_output 109 = .ok (.aload_n 0, 1) := by decide +kernel
theorem dX11_output_110 : decode cX11_output 110 = .ok (.getfield 56, 3) := by decide +kernel
theorem dX11_output_113 : decode cX11_output 113 = .ok (.aload 4, 2) := by decide +kernel
theorem dX11_output_115 : decode cX11_output 115 = .ok (.invokevirtual 251, 3) := by decide +kernel
theorem dX11_output_118 : decode cX11_output 118 = .ok (.ireturn, 1) := by decide +kernel
theorem cc_X11_output : Cond.code yX11_output cX11_output 5 (some .int) ∈ rf_tb := rf_at 1359 (by decide +kernel) (by decide +kernel)
theorem cw_RX11_251 : cl_wV RX11 RX8 yX8_comeIn cX8_comeIn 3 (some .int) 251 1 := ⟨⟨rf_at 1360 (by decide +kernel) (by decide +kernel), rf_at 1214 (by decide +kernel) (by decide +kernel), rf_at 1215 (by decide +kernel) (by decide +kernel), cc_X8_comeIn, rf_at 11 (by decide +kernel) (by decide +kernel)⟩, ⟨by decide, by decide, by decide +kernel⟩⟩
noncomputable def bc_X11_output_0 (a : Nat) (x1 : Int32) (x2 : Int32) (x3 : Int32) (σ : cl_S) : Option (Int32 × cl_S) := bd2 (fc_X11_isPartition a x1 σ) (fun r_2 σ_1 => (if r_2 = 0 then some ((-1:Int32), σ_1) else (if x2 < 0 then some ((-1:Int32), σ_1) else ix x1 8 (vl (σ_1.2.2.1 (47 + 12 + cl_md 47) x1.toNatClampNeg) (fun r_11 => nn r_11 (fun a_14 => (if x2 < (σ_1.1 a_14 6) then (if x3 < 0 then some ((-2:Int32), σ_1) else (if x3 ≤ (1:Int32) then ix x1 8 (vl (σ_1.2.2.1 (47 + 12 + cl_md 47) x1.toNatClampNeg) (fun r_21 => nn r_21 (fun a_24 => ix x2 200 (vl (σ_1.2.2.1 (a_24 + 5) x2.toNatClampNeg) (fun r_30 => (if x3 = 0 then vl (σ_1.2.2.1 31 4) (fun r_60 => (if r_30 = r_60 then some ((0:Int32), σ_1) else some ((1:Int32), σ_1))) else vl (σ_1.2.2.1 31 4) (fun r_36 => (if r_30 = r_36 then ix x1 8 (vl (σ_1.2.2.1 (47 + 12 + cl_md 47) x1.toNatClampNeg) (fun r_50 => nn r_50 (fun a_53 => ix x2 200 (some ((σ_1.1 (a_53 + 4) x2.toNatClampNeg), σ_1))))) else bd2 (fc_X8_comeIn 38 r_30 σ_1) (fun r_41 σ_40 => some (r_41, σ_40)))))))))) else some ((-2:Int32), σ_1))) else some ((-1:Int32), σ_1))))))))
set_option maxHeartbeats 4000000 in
theorem wc_X11_output_0 (C : cl_C D p s m args meth c cX11_output 5 (some .int) RX11) {r : Int32} {a : Nat} {x1 : Int32} {x2 : Int32} {x3 : Int32} {σ0 σ σ' : cl_S} {T : Nat → Nat × Nat} {H : Heap} {locs : List Loc} {ls : Array Slot} {cells slots : Nat} (h : bc_X11_output_0 a x1 x2 x3 σ = some (r, σ')) (G : cl_G true D c0 ({ frames := 2, cells := σ0.2.2.2.2.2.1, slots := σ0.2.2.2.2.2.2, locals := 45 }) s σ0.2.2.2.1 T σ H locs cells slots) (ha : (T a).1 = 27) (hl : lv_has ls 5 [(0, .ref (c0 + a)), (1, .int x1), (2, .int x2), (3, .int x3)]) : W p l e ({ frames := 2, cells := σ0.2.2.2.2.2.1, slots := σ0.2.2.2.2.2.2, locals := 45 }) s m args below meth c H locs cells slots (MQ below (cl_Q true D c0 (some (.int r)) cl_no σ0 σ') args s (σ0.2.2.2.2.2.1 - σ'.2.2.2.2.2.1) (σ0.2.2.2.2.2.2 - σ'.2.2.2.2.2.2) (cl_A c0 σ0.2.2.2.1 s.heap.size)) (F0 m 0 ls []) := by
  unfold bc_X11_output_0 at h
  refine lv_aload_n C.1 C.2.1 dX11_output_0 rfl (lv_at hl 0 rfl) ?_
  refine lv_iload_n C.1 C.2.1 dX11_output_1 rfl (lv_at hl 1 rfl) ?_
  obtain ⟨r_2, σ_1, hq, h_3⟩ := bd2_some h
  refine cl_callV (ci := 11) (rest := []) C G rfl ha cw_RX11_219 [.int x1] _ (kc_X11_isPartition l D c0 (by rw [G.1]; exact ha) hq) (Nat.le_of_ble_eq_true rfl) (Nat.le_of_ble_eq_true rfl) rfl rfl hl.1 (Nat.le_of_ble_eq_true rfl) dX11_output_2 (fun T_4 H locs cells slots t_5 hu G_6 => ?_)
  have ha := hu.kind ha (by decide)
  refine W.eq (g2 := F0 m 5 ls [.int r_2]) rfl ?_
  refine lv_if_eq (tgt := 28) C.1 C.2.1 dX11_output_5 (by decide) (fun hc => ?_) (fun hc => ?_)
  · rw [if_pos hc] at h_3
    refine lv_iconst (v := (-1:Int32)) C.1 C.2.1 dX11_output_28 (by decide) ?_
    exact cl_iret ⟨rfl, rfl⟩ rfl C G_6 h_3 dX11_output_29
  · rw [if_neg hc] at h_3
    refine lv_iload_n C.1 C.2.1 dX11_output_8 rfl (lv_at hl 2 rfl) ?_
    refine lv_if_lt (tgt := 28) C.1 C.2.1 dX11_output_9 (by decide) (fun hc => ?_) (fun hc => ?_)
    · rw [if_pos hc] at h_3
      refine lv_iconst (v := (-1:Int32)) C.1 C.2.1 dX11_output_28 (by decide) ?_
      exact cl_iret ⟨rfl, rfl⟩ rfl C G_6 h_3 dX11_output_29
    · rw [if_neg hc] at h_3
      refine lv_iload_n C.1 C.2.1 dX11_output_12 rfl (lv_at hl 2 rfl) ?_
      refine lv_aload_n C.1 C.2.1 dX11_output_13 rfl (lv_at hl 0 rfl) ?_
      refine cg_11_81 C G_6 ha dX11_output_14 (fun t_7 => ?_)
      have t_7 : (T_4 47).1 = 21 := by rw [t_7]
      refine cg_11_175 C G_6 t_7 dX11_output_17 (fun t_8 => ?_)
      refine lv_iload_n C.1 C.2.1 dX11_output_20 rfl (lv_at hl 1 rfl) ?_
      obtain ⟨hi, h_9⟩ := ix_some h_3
      refine cl_aald C G_6 t_8 (by decide) (by decide) rfl hi dX11_output_21 (fun t_10 => ?_)
      refine vt_r (K := 22) t_10 h_9 (fun r_11 t_12 h_13 => ?_)
      obtain ⟨a_14, rfl, h_16⟩ := nn_some h_13
      have t_15 := t_12 _ rfl
      refine cg_11_241 C G_6 t_15 dX11_output_22 ?_
      refine lv_icmp_lt (tgt := 30) C.1 C.2.1 dX11_output_25 (by decide) (fun hc => ?_) (fun hc => ?_)
      · rw [if_pos hc] at h_16
        refine lv_iload_n C.1 C.2.1 dX11_output_30 rfl (lv_at hl 3 rfl) ?_
        refine lv_if_lt (tgt := 39) C.1 C.2.1 dX11_output_31 (by decide) (fun hc => ?_) (fun hc => ?_)
        · rw [if_pos hc] at h_16
          refine lv_bipush (v := (-2:Int32)) C.1 C.2.1 dX11_output_39 (by decide) ?_
          exact cl_iret ⟨rfl, rfl⟩ rfl C G_6 h_16 dX11_output_41
        · rw [if_neg hc] at h_16
          refine lv_iload_n C.1 C.2.1 dX11_output_34 rfl (lv_at hl 3 rfl) ?_
          refine lv_iconst (v := (1:Int32)) C.1 C.2.1 dX11_output_35 (by decide) ?_
          refine lv_icmp_le (tgt := 42) C.1 C.2.1 dX11_output_36 (by decide) (fun hc => ?_) (fun hc => ?_)
          · rw [if_pos hc] at h_16
            refine lv_aload_n C.1 C.2.1 dX11_output_42 rfl (lv_at hl 0 rfl) ?_
            refine cg_11_81 C G_6 ha dX11_output_43 (fun t_17 => ?_)
            have t_17 : (T_4 47).1 = 21 := by rw [t_17]
            refine cg_11_175 C G_6 t_17 dX11_output_46 (fun t_18 => ?_)
            refine lv_iload_n C.1 C.2.1 dX11_output_49 rfl (lv_at hl 1 rfl) ?_
            obtain ⟨hi, h_19⟩ := ix_some h_16
            refine cl_aald C G_6 t_18 (by decide) (by decide) rfl hi dX11_output_50 (fun t_20 => ?_)
            refine vt_r (K := 22) t_20 h_19 (fun r_21 t_22 h_23 => ?_)
            obtain ⟨a_24, rfl, h_26⟩ := nn_some h_23
            have t_25 := t_22 _ rfl
            refine cg_11_244 C G_6 t_25 dX11_output_51 (fun t_27 => ?_)
            refine lv_iload_n C.1 C.2.1 dX11_output_54 rfl (lv_at hl 2 rfl) ?_
            obtain ⟨hi, h_28⟩ := ix_some h_26
            refine cl_aald C G_6 t_27 (by decide) (by decide) rfl hi dX11_output_55 (fun t_29 => ?_)
            refine vt_r (K := 25) t_29 h_28 (fun r_30 t_31 h_32 => ?_)
            refine cl_astore (lv' := [(4, cl_rf c0 r_30), (0, .ref (c0 + a)), (1, .int x1), (2, .int x2), (3, .int x3)]) C.1 C.2.1 dX11_output_56 hl (by decide) rfl (fun ls hl_33 => ?_)
            refine lv_iload_n C.1 C.2.1 dX11_output_58 rfl (lv_at hl_33 4 rfl) ?_
            refine lv_if_ne (tgt := 80) C.1 C.2.1 dX11_output_59 (by decide) (fun hc => ?_) (fun hc => ?_)
            · rw [if_neg hc] at h_32
              refine cl_aload C.1 C.2.1 dX11_output_80 (lv_at hl_33 0 rfl) ?_
              refine lv_aload_n C.1 C.2.1 dX11_output_82 rfl (lv_at hl_33 1 rfl) ?_
              refine cg_11_47 C G_6 ha dX11_output_83 (fun t_34 => ?_)
              have t_34 : (T_4 31).1 = 26 := by rw [t_34]
              refine cg_11_62 C G_6 t_34 dX11_output_86 (fun t_35 => ?_)
              refine vt_r (K := 25) t_35 h_32 (fun r_36 t_37 h_38 => ?_)
              refine cl_acmp_ne (rx := r_30) (ry := r_36) (tgt := 109) C.1 C.2.1 dX11_output_89 (by decide) (fun hc => ?_) (fun hc => ?_)
              · rw [if_neg hc] at h_38
                refine lv_aload_n C.1 C.2.1 dX11_output_109 rfl (lv_at hl_33 1 rfl) ?_
                refine cg_11_56 C G_6 ha dX11_output_110 (fun t_39 => ?_)
                have t_39 : (T_4 38).1 = 24 := by rw [t_39]
                refine cl_aload C.1 C.2.1 dX11_output_113 (lv_at hl_33 0 rfl) ?_
                obtain ⟨r_41, σ_40, hq, h_42⟩ := bd2_some h_38
                refine cl_callV (ci := 8) (rest := []) C G_6 rfl t_39 cw_RX11_251 [cl_rf c0 r_30] _ (kc_X8_comeIn l D c0 (by rw [G_6.1]; exact t_39) hq (by rw [G_6.1]; exact t_31)) (Nat.le_of_ble_eq_true rfl) (Nat.le_of_ble_eq_true rfl) rfl rfl hl_33.1 (Nat.le_of_ble_eq_true rfl) dX11_output_115 (fun T_43 H locs cells slots t_44 hu G_45 => ?_)
                have t_31 := t_31.up hu (by decide)
                have ha := hu.kind ha (by decide)
                refine W.eq (g2 := F0 m 118 ls [.int r_41]) rfl ?_
                exact cl_iret ⟨rfl, rfl⟩ rfl C G_45 h_42 dX11_output_118
              · rw [if_pos hc] at h_38
                refine lv_aload_n C.1 C.2.1 dX11_output_92 rfl (lv_at hl_33 1 rfl) ?_
                refine cg_11_81 C G_6 ha dX11_output_93 (fun t_46 => ?_)
                have t_46 : (T_4 47).1 = 21 := by rw [t_46]
                refine cg_11_175 C G_6 t_46 dX11_output_96 (fun t_47 => ?_)
                refine lv_iload_n C.1 C.2.1 dX11_output_99 rfl (lv_at hl_33 2 rfl) ?_
                obtain ⟨hi, h_48⟩ := ix_some h_38
                refine cl_aald C G_6 t_47 (by decide) (by decide) rfl hi dX11_output_100 (fun t_49 => ?_)
                refine vt_r (K := 22) t_49 h_48 (fun r_50 t_51 h_52 => ?_)
                obtain ⟨a_53, rfl, h_55⟩ := nn_some h_52
                have t_54 := t_51 _ rfl
                refine cg_11_248 C G_6 t_54 dX11_output_101 (fun t_56 => ?_)
                refine lv_iload_n C.1 C.2.1 dX11_output_104 rfl (lv_at hl_33 3 rfl) ?_
                obtain ⟨hi, h_57⟩ := ix_some h_55
                refine cl_iald C G_6 t_56 hi dX11_output_105 ?_
                refine lv_goto (tgt := 118) C.1 C.2.1 dX11_output_106 (by decide) ?_
                exact cl_iret ⟨rfl, rfl⟩ rfl C G_6 h_57 dX11_output_118
            · rw [if_pos hc] at h_32
              refine cl_aload C.1 C.2.1 dX11_output_62 (lv_at hl_33 0 rfl) ?_
              refine lv_aload_n C.1 C.2.1 dX11_output_64 rfl (lv_at hl_33 1 rfl) ?_
              refine cg_11_47 C G_6 ha dX11_output_65 (fun t_58 => ?_)
              have t_58 : (T_4 31).1 = 26 := by rw [t_58]
              refine cg_11_62 C G_6 t_58 dX11_output_68 (fun t_59 => ?_)
              refine vt_r (K := 25) t_59 h_32 (fun r_60 t_61 h_62 => ?_)
              refine cl_acmp_ne (rx := r_30) (ry := r_60) (tgt := 78) C.1 C.2.1 dX11_output_71 (by decide) (fun hc => ?_) (fun hc => ?_)
              · rw [if_neg hc] at h_62
                refine lv_iconst (v := (1:Int32)) C.1 C.2.1 dX11_output_78 (by decide) ?_
                exact cl_iret ⟨rfl, rfl⟩ rfl C G_6 h_62 dX11_output_79
              · rw [if_pos hc] at h_62
                refine lv_iconst (v := (0:Int32)) C.1 C.2.1 dX11_output_74 (by decide) ?_
                refine lv_goto (tgt := 79) C.1 C.2.1 dX11_output_75 (by decide) ?_
                exact cl_iret ⟨rfl, rfl⟩ rfl C G_6 h_62 dX11_output_79
          · rw [if_neg hc] at h_16
            refine lv_bipush (v := (-2:Int32)) C.1 C.2.1 dX11_output_39 (by decide) ?_
            exact cl_iret ⟨rfl, rfl⟩ rfl C G_6 h_16 dX11_output_41
      · rw [if_neg hc] at h_16
        refine lv_iconst (v := (-1:Int32)) C.1 C.2.1 dX11_output_28 (by decide) ?_
        exact cl_iret ⟨rfl, rfl⟩ rfl C G_6 h_16 dX11_output_29
noncomputable def fc_X11_output (a : Nat) (x1 : Int32) (x2 : Int32) (x3 : Int32) (σ : cl_S) : Option (Int32 × cl_S) := bc_X11_output_0 a x1 x2 x3 σ
theorem kc_X11_output (l : Launch) (D : cl_D) (c0 : Nat) {r : Int32} {a : Nat} {x1 : Int32} {x2 : Int32} {x3 : Int32} {σ σ' : cl_S} (ha : (σ.2.2.2.1 a).1 = 27) (h : fc_X11_output a x1 x2 x3 σ = some (r, σ')) : cl_Met true l D c0 yX11_output cX11_output 5 (some .int) 2 45 [.ref (c0 + a), .int x1, .int x2, .int x3] σ (some (.int r)) cl_no σ' :=
  cl_of (by decide) (Nat.le_of_ble_eq_true rfl) (fun p e s m args below meth c ls C hn G hl => wc_X11_output_0 C h G ha hl)
abbrev cX11_state : ByteArray := prog_1_method_20_code
def yX11_state : MethodName := ⟨RX11, "state", "(II)I"⟩
theorem dX11_state_0 : decode cX11_state 0 = .ok (.aload_n 0, 1) := by decide +kernel
theorem dX11_state_1 : decode cX11_state 1 = .ok (.iload_n 1, 1) := by decide +kernel
theorem dX11_state_2 : decode cX11_state 2 = .ok (.invokevirtual 219, 3) := by decide +kernel
theorem dX11_state_5 : decode cX11_state 5 = .ok (.ifCond .ne 5, 3) := by decide +kernel
theorem dX11_state_8 : decode cX11_state 8 = .ok (.iconst (-1), 1) := by decide +kernel
theorem dX11_state_9 : decode cX11_state 9 = .ok (.ireturn, 1) := by decide +kernel
theorem dX11_state_10 : decode cX11_state 10 = .ok (.aload_n 0, 1) := by decide +kernel
theorem dX11_state_11 : decode cX11_state 11 = .ok (.getfield 81, 3) := by decide +kernel
theorem dX11_state_14 : decode cX11_state 14 = .ok (.getfield 175, 3) := by decide +kernel
theorem dX11_state_17 : decode cX11_state 17 = .ok (.iload_n 1, 1) := by decide +kernel
theorem dX11_state_18 : decode cX11_state 18 = .ok (.aaload, 1) := by decide +kernel
theorem dX11_state_19 : decode cX11_state 19 = .ok (.astore_n 3, 1) := by decide +kernel
theorem dX11_state_20 : decode cX11_state 20 = .ok (.iload_n 2, 1) := by decide +kernel
theorem dX11_state_21 : decode cX11_state 21 = .ok (.tableswitch 151 0 10 #[59, 67, 83, 91, 99, 115, 123, 131, 136, 141, 146], 59) := by decide +kernel
theorem dX11_state_80 : decode cX11_state 80 = .ok (.aload_n 3, 1) := by decide +kernel
theorem dX11_state_81 : decode cX11_state 81 = .ok (.getfield 196, 3) := by decide +kernel
theorem dX11_state_84 : decode cX11_state 84 = .ok (.getfield 254, 3) := by decide +kernel
theorem dX11_state_87 : decode cX11_state 87 = .ok (.ireturn, 1) := by decide +kernel
theorem dX11_state_88 : decode cX11_state 88 = .ok (.aload_n 3, 1) := by decide +kernel
theorem dX11_state_89 : decode cX11_state 89 = .ok (.getfield 196, 3) := by decide +kernel
theorem dX11_state_92 : decode cX11_state 92 = .ok (.getfield 257, 3) := by decide +kernel
theorem dX11_state_95 : decode cX11_state 95 = .ok (.ifCond .eq 7, 3) := by decide +kernel
theorem dX11_state_98 : decode cX11_state 98 = .ok (.iconst 1, 1) := by decide +kernel
theorem dX11_state_99 : decode cX11_state 99 = .ok (.goto 4, 3) := by decide +kernel
theorem dX11_state_102 : decode cX11_state 102 = .ok (.iconst 0, 1) := by decide +kernel
theorem dX11_state_103 : decode cX11_state 103 = .ok (.ireturn, 1) := by decide +kernel
theorem dX11_state_104 : decode cX11_state 104 = .ok (.aload_n 3, 1) := by decide +kernel
theorem dX11_state_105 : decode cX11_state 105 = .ok (.getfield 196, 3) := by decide +kernel
theorem dX11_state_108 : decode cX11_state 108 = .ok (.getfield 260, 3) := by decide +kernel
theorem dX11_state_111 : decode cX11_state 111 = .ok (.ireturn, 1) := by decide +kernel
theorem dX11_state_112 : decode cX11_state 112 = .ok (.aload_n 3, 1) := by decide +kernel
theorem dX11_state_113 : decode cX11_state 113 = .ok (.getfield 196, 3) := by decide +kernel
theorem dX11_state_116 : decode cX11_state 116 = .ok (.getfield 263, 3) := by decide +kernel
theorem dX11_state_119 : decode cX11_state 119 = .ok (.ireturn, 1) := by decide +kernel
theorem dX11_state_120 : decode cX11_state 120 = .ok (.aload_n 3, 1) := by decide +kernel
theorem dX11_state_121 : decode cX11_state 121 = .ok (.getfield 196, 3) := by decide +kernel
theorem dX11_state_124 : decode cX11_state 124 = .ok (.getfield 266, 3) := by decide +kernel
theorem dX11_state_127 : decode cX11_state 127 = .ok (.ifCond .eq 7, 3) := by decide +kernel
theorem dX11_state_130 : decode cX11_state 130 = .ok (.iconst 1, 1) := by decide +kernel
theorem dX11_state_131 : decode cX11_state 131 = .ok (.goto 4, 3) := by decide +kernel
theorem dX11_state_134 : decode cX11_state 134 = .ok (.iconst 0, 1) := by decide +kernel
theorem dX11_state_135 : decode cX11_state 135 = .ok (.ireturn, 1) := by decide +kernel
theorem dX11_state_136 : decode cX11_state 136 = .ok (.aload_n 3, 1) := by decide +kernel
theorem dX11_state_137 : decode cX11_state 137 = .ok (.getfield 196, 3) := by decide +kernel
theorem dX11_state_140 : decode cX11_state 140 = .ok (.getfield 269, 3) := by decide +kernel
theorem dX11_state_143 : decode cX11_state 143 = .ok (.ireturn, 1) := by decide +kernel
theorem dX11_state_144 : decode cX11_state 144 = .ok (.aload_n 3, 1) := by decide +kernel
theorem dX11_state_145 : decode cX11_state 145 = .ok (.getfield 272, 3) := by decide +kernel
theorem dX11_state_148 : decode cX11_state 148 = .ok (.getfield 275, 3) := by decide +kernel
theorem dX11_state_151 : decode cX11_state 151 = .ok (.ireturn, 1) := by decide +kernel
theorem dX11_state_152 : decode cX11_state 152 = .ok (.aload_n 3, 1) := by decide +kernel
theorem dX11_state_153 : decode cX11_state 153 = .ok (.getfield 241, 3) := by decide +kernel
theorem dX11_state_156 : decode cX11_state 156 = .ok (.ireturn, 1) := by decide +kernel
theorem dX11_state_157 : decode cX11_state 157 = .ok (.aload_n 3, 1) := by decide +kernel
theorem dX11_state_158 : decode cX11_state 158 = .ok (.getfield 276, 3) := by decide +kernel
theorem dX11_state_161 : decode cX11_state 161 = .ok (.ireturn, 1) := by decide +kernel
theorem dX11_state_162 : decode cX11_state 162 = .ok (.aload_n 3, 1) := by decide +kernel
theorem dX11_state_163 : decode cX11_state 163 = .ok (.getfield 279, 3) := by decide +kernel
theorem dX11_state_166 : decode cX11_state 166 = .ok (.ireturn, 1) := by decide +kernel
theorem dX11_state_167 : decode cX11_state 167 = .ok (.aload_n 3, 1) := by decide +kernel
theorem dX11_state_168 : decode cX11_state 168 = .ok (.getfield 282, 3) := by decide +kernel
theorem dX11_state_171 : decode cX11_state 171 = .ok (.ireturn, 1) := by decide +kernel
theorem dX11_state_172 : decode cX11_state 172 = .ok (.bipush (-2), 2) := by decide +kernel
theorem dX11_state_174 : decode cX11_state 174 = .ok (.ireturn, 1) := by decide +kernel
theorem cc_X11_state : Cond.code yX11_state cX11_state 4 (some .int) ∈ rf_tb := rf_at 1364 (by decide +kernel) (by decide +kernel)
noncomputable def bc_X11_state_0 (a : Nat) (x1 : Int32) (x2 : Int32) (σ : cl_S) : Option (Int32 × cl_S) := bd2 (fc_X11_isPartition a x1 σ) (fun r_2 σ_1 => (if r_2 = 0 then some ((-1:Int32), σ_1) else ix x1 8 (vl (σ_1.2.2.1 (47 + 12 + cl_md 47) x1.toNatClampNeg) (fun r_11 => (if x2 = (0:Int32) then nn r_11 (fun a_15 => some ((σ_1.1 (a_15 + 1) 3), σ_1)) else if x2 = (1:Int32) then nn r_11 (fun a_19 => (if (σ_1.1 (a_19 + 1) 7) = 0 then some ((0:Int32), σ_1) else some ((1:Int32), σ_1))) else if x2 = (2:Int32) then nn r_11 (fun a_23 => some ((σ_1.1 (a_23 + 1) 5), σ_1)) else if x2 = (3:Int32) then nn r_11 (fun a_27 => some ((σ_1.1 (a_27 + 1) 6), σ_1)) else if x2 = (4:Int32) then nn r_11 (fun a_31 => (if (σ_1.1 (a_31 + 1) 8) = 0 then some ((0:Int32), σ_1) else some ((1:Int32), σ_1))) else if x2 = (5:Int32) then nn r_11 (fun a_35 => some ((σ_1.1 (a_35 + 1) 4), σ_1)) else if x2 = (6:Int32) then nn r_11 (fun a_39 => some ((σ_1.1 (a_39 + 9) 5), σ_1)) else if x2 = (7:Int32) then nn r_11 (fun a_43 => some ((σ_1.1 a_43 6), σ_1)) else if x2 = (8:Int32) then nn r_11 (fun a_46 => some ((σ_1.1 a_46 8), σ_1)) else if x2 = (9:Int32) then nn r_11 (fun a_49 => some ((σ_1.1 a_49 10), σ_1)) else if x2 = (10:Int32) then nn r_11 (fun a_52 => some ((σ_1.1 a_52 14), σ_1)) else some ((-2:Int32), σ_1))))))
set_option maxHeartbeats 4000000 in
theorem wc_X11_state_0 (C : cl_C D p s m args meth c cX11_state 4 (some .int) RX11) {r : Int32} {a : Nat} {x1 : Int32} {x2 : Int32} {σ0 σ σ' : cl_S} {T : Nat → Nat × Nat} {H : Heap} {locs : List Loc} {ls : Array Slot} {cells slots : Nat} (h : bc_X11_state_0 a x1 x2 σ = some (r, σ')) (G : cl_G true D c0 ({ frames := 1, cells := σ0.2.2.2.2.2.1, slots := σ0.2.2.2.2.2.2, locals := 21 }) s σ0.2.2.2.1 T σ H locs cells slots) (ha : (T a).1 = 27) (hl : lv_has ls 4 [(0, .ref (c0 + a)), (1, .int x1), (2, .int x2)]) : W p l e ({ frames := 1, cells := σ0.2.2.2.2.2.1, slots := σ0.2.2.2.2.2.2, locals := 21 }) s m args below meth c H locs cells slots (MQ below (cl_Q true D c0 (some (.int r)) cl_no σ0 σ') args s (σ0.2.2.2.2.2.1 - σ'.2.2.2.2.2.1) (σ0.2.2.2.2.2.2 - σ'.2.2.2.2.2.2) (cl_A c0 σ0.2.2.2.1 s.heap.size)) (F0 m 0 ls []) := by
  unfold bc_X11_state_0 at h
  refine lv_aload_n C.1 C.2.1 dX11_state_0 rfl (lv_at hl 0 rfl) ?_
  refine lv_iload_n C.1 C.2.1 dX11_state_1 rfl (lv_at hl 1 rfl) ?_
  obtain ⟨r_2, σ_1, hq, h_3⟩ := bd2_some h
  refine cl_callV (ci := 11) (rest := []) C G rfl ha cw_RX11_219 [.int x1] _ (kc_X11_isPartition l D c0 (by rw [G.1]; exact ha) hq) (Nat.le_of_ble_eq_true rfl) (Nat.le_of_ble_eq_true rfl) rfl rfl hl.1 (Nat.le_of_ble_eq_true rfl) dX11_state_2 (fun T_4 H locs cells slots t_5 hu G_6 => ?_)
  have ha := hu.kind ha (by decide)
  refine W.eq (g2 := F0 m 5 ls [.int r_2]) rfl ?_
  refine lv_if_ne (tgt := 10) C.1 C.2.1 dX11_state_5 (by decide) (fun hc => ?_) (fun hc => ?_)
  · rw [if_neg hc] at h_3
    refine lv_aload_n C.1 C.2.1 dX11_state_10 rfl (lv_at hl 0 rfl) ?_
    refine cg_11_81 C G_6 ha dX11_state_11 (fun t_7 => ?_)
    have t_7 : (T_4 47).1 = 21 := by rw [t_7]
    refine cg_11_175 C G_6 t_7 dX11_state_14 (fun t_8 => ?_)
    refine lv_iload_n C.1 C.2.1 dX11_state_17 rfl (lv_at hl 1 rfl) ?_
    obtain ⟨hi, h_9⟩ := ix_some h_3
    refine cl_aald C G_6 t_8 (by decide) (by decide) rfl hi dX11_state_18 (fun t_10 => ?_)
    refine vt_r (K := 22) t_10 h_9 (fun r_11 t_12 h_13 => ?_)
    refine cl_astore_n (lv' := [(3, cl_rf c0 r_11), (0, .ref (c0 + a)), (1, .int x1), (2, .int x2)]) C.1 C.2.1 dX11_state_19 rfl hl (by decide) rfl (fun ls hl_14 => ?_)
    refine lv_iload_n C.1 C.2.1 dX11_state_20 rfl (lv_at hl_14 3 rfl) ?_
    by_cases hk0 : x2 = (0:Int32)
    · rw [if_pos hk0] at h_13
      refine lv_tableIn (tgt := 80) C.1 C.2.1 dX11_state_21 (by rw [hk0]; decide) (by rw [hk0]; decide) (by rw [hk0]; rfl) (by decide) ?_
      refine cl_aload_n C.1 C.2.1 dX11_state_80 rfl (lv_at hl_14 0 rfl) ?_
      obtain ⟨a_15, rfl, h_17⟩ := nn_some h_13
      have t_16 := t_12 _ rfl
      refine cg_11_196 C G_6 t_16 dX11_state_81 (fun t_18 => ?_)
      have t_18 : (T_4 (a_15 + 1)).1 = 18 := by rw [t_18]
      refine cg_11_254 C G_6 t_18 dX11_state_84 ?_
      exact cl_iret ⟨rfl, rfl⟩ rfl C G_6 h_17 dX11_state_87
    rw [if_neg hk0] at h_13
    by_cases hk1 : x2 = (1:Int32)
    · rw [if_pos hk1] at h_13
      refine lv_tableIn (tgt := 88) C.1 C.2.1 dX11_state_21 (by rw [hk1]; decide) (by rw [hk1]; decide) (by rw [hk1]; rfl) (by decide) ?_
      refine cl_aload_n C.1 C.2.1 dX11_state_88 rfl (lv_at hl_14 0 rfl) ?_
      obtain ⟨a_19, rfl, h_21⟩ := nn_some h_13
      have t_20 := t_12 _ rfl
      refine cg_11_196 C G_6 t_20 dX11_state_89 (fun t_22 => ?_)
      have t_22 : (T_4 (a_19 + 1)).1 = 18 := by rw [t_22]
      refine cg_11_257 C G_6 t_22 dX11_state_92 ?_
      refine lv_if_eq (tgt := 102) C.1 C.2.1 dX11_state_95 (by decide) (fun hc => ?_) (fun hc => ?_)
      · rw [if_pos hc] at h_21
        refine lv_iconst (v := (0:Int32)) C.1 C.2.1 dX11_state_102 (by decide) ?_
        exact cl_iret ⟨rfl, rfl⟩ rfl C G_6 h_21 dX11_state_103
      · rw [if_neg hc] at h_21
        refine lv_iconst (v := (1:Int32)) C.1 C.2.1 dX11_state_98 (by decide) ?_
        refine lv_goto (tgt := 103) C.1 C.2.1 dX11_state_99 (by decide) ?_
        exact cl_iret ⟨rfl, rfl⟩ rfl C G_6 h_21 dX11_state_103
    rw [if_neg hk1] at h_13
    by_cases hk2 : x2 = (2:Int32)
    · rw [if_pos hk2] at h_13
      refine lv_tableIn (tgt := 104) C.1 C.2.1 dX11_state_21 (by rw [hk2]; decide) (by rw [hk2]; decide) (by rw [hk2]; rfl) (by decide) ?_
      refine cl_aload_n C.1 C.2.1 dX11_state_104 rfl (lv_at hl_14 0 rfl) ?_
      obtain ⟨a_23, rfl, h_25⟩ := nn_some h_13
      have t_24 := t_12 _ rfl
      refine cg_11_196 C G_6 t_24 dX11_state_105 (fun t_26 => ?_)
      have t_26 : (T_4 (a_23 + 1)).1 = 18 := by rw [t_26]
      refine cg_11_260 C G_6 t_26 dX11_state_108 ?_
      exact cl_iret ⟨rfl, rfl⟩ rfl C G_6 h_25 dX11_state_111
    rw [if_neg hk2] at h_13
    by_cases hk3 : x2 = (3:Int32)
    · rw [if_pos hk3] at h_13
      refine lv_tableIn (tgt := 112) C.1 C.2.1 dX11_state_21 (by rw [hk3]; decide) (by rw [hk3]; decide) (by rw [hk3]; rfl) (by decide) ?_
      refine cl_aload_n C.1 C.2.1 dX11_state_112 rfl (lv_at hl_14 0 rfl) ?_
      obtain ⟨a_27, rfl, h_29⟩ := nn_some h_13
      have t_28 := t_12 _ rfl
      refine cg_11_196 C G_6 t_28 dX11_state_113 (fun t_30 => ?_)
      have t_30 : (T_4 (a_27 + 1)).1 = 18 := by rw [t_30]
      refine cg_11_263 C G_6 t_30 dX11_state_116 ?_
      exact cl_iret ⟨rfl, rfl⟩ rfl C G_6 h_29 dX11_state_119
    rw [if_neg hk3] at h_13
    by_cases hk4 : x2 = (4:Int32)
    · rw [if_pos hk4] at h_13
      refine lv_tableIn (tgt := 120) C.1 C.2.1 dX11_state_21 (by rw [hk4]; decide) (by rw [hk4]; decide) (by rw [hk4]; rfl) (by decide) ?_
      refine cl_aload_n C.1 C.2.1 dX11_state_120 rfl (lv_at hl_14 0 rfl) ?_
      obtain ⟨a_31, rfl, h_33⟩ := nn_some h_13
      have t_32 := t_12 _ rfl
      refine cg_11_196 C G_6 t_32 dX11_state_121 (fun t_34 => ?_)
      have t_34 : (T_4 (a_31 + 1)).1 = 18 := by rw [t_34]
      refine cg_11_266 C G_6 t_34 dX11_state_124 ?_
      refine lv_if_eq (tgt := 134) C.1 C.2.1 dX11_state_127 (by decide) (fun hc => ?_) (fun hc => ?_)
      · rw [if_pos hc] at h_33
        refine lv_iconst (v := (0:Int32)) C.1 C.2.1 dX11_state_134 (by decide) ?_
        exact cl_iret ⟨rfl, rfl⟩ rfl C G_6 h_33 dX11_state_135
      · rw [if_neg hc] at h_33
        refine lv_iconst (v := (1:Int32)) C.1 C.2.1 dX11_state_130 (by decide) ?_
        refine lv_goto (tgt := 135) C.1 C.2.1 dX11_state_131 (by decide) ?_
        exact cl_iret ⟨rfl, rfl⟩ rfl C G_6 h_33 dX11_state_135
    rw [if_neg hk4] at h_13
    by_cases hk5 : x2 = (5:Int32)
    · rw [if_pos hk5] at h_13
      refine lv_tableIn (tgt := 136) C.1 C.2.1 dX11_state_21 (by rw [hk5]; decide) (by rw [hk5]; decide) (by rw [hk5]; rfl) (by decide) ?_
      refine cl_aload_n C.1 C.2.1 dX11_state_136 rfl (lv_at hl_14 0 rfl) ?_
      obtain ⟨a_35, rfl, h_37⟩ := nn_some h_13
      have t_36 := t_12 _ rfl
      refine cg_11_196 C G_6 t_36 dX11_state_137 (fun t_38 => ?_)
      have t_38 : (T_4 (a_35 + 1)).1 = 18 := by rw [t_38]
      refine cg_11_269 C G_6 t_38 dX11_state_140 ?_
      exact cl_iret ⟨rfl, rfl⟩ rfl C G_6 h_37 dX11_state_143
    rw [if_neg hk5] at h_13
    by_cases hk6 : x2 = (6:Int32)
    · rw [if_pos hk6] at h_13
      refine lv_tableIn (tgt := 144) C.1 C.2.1 dX11_state_21 (by rw [hk6]; decide) (by rw [hk6]; decide) (by rw [hk6]; rfl) (by decide) ?_
      refine cl_aload_n C.1 C.2.1 dX11_state_144 rfl (lv_at hl_14 0 rfl) ?_
      obtain ⟨a_39, rfl, h_41⟩ := nn_some h_13
      have t_40 := t_12 _ rfl
      refine cg_11_272 C G_6 t_40 dX11_state_145 (fun t_42 => ?_)
      have t_42 : (T_4 (a_39 + 9)).1 = 24 := by rw [t_42]
      refine cg_11_275 C G_6 t_42 dX11_state_148 ?_
      exact cl_iret ⟨rfl, rfl⟩ rfl C G_6 h_41 dX11_state_151
    rw [if_neg hk6] at h_13
    by_cases hk7 : x2 = (7:Int32)
    · rw [if_pos hk7] at h_13
      refine lv_tableIn (tgt := 152) C.1 C.2.1 dX11_state_21 (by rw [hk7]; decide) (by rw [hk7]; decide) (by rw [hk7]; rfl) (by decide) ?_
      refine cl_aload_n C.1 C.2.1 dX11_state_152 rfl (lv_at hl_14 0 rfl) ?_
      obtain ⟨a_43, rfl, h_45⟩ := nn_some h_13
      have t_44 := t_12 _ rfl
      refine cg_11_241 C G_6 t_44 dX11_state_153 ?_
      exact cl_iret ⟨rfl, rfl⟩ rfl C G_6 h_45 dX11_state_156
    rw [if_neg hk7] at h_13
    by_cases hk8 : x2 = (8:Int32)
    · rw [if_pos hk8] at h_13
      refine lv_tableIn (tgt := 157) C.1 C.2.1 dX11_state_21 (by rw [hk8]; decide) (by rw [hk8]; decide) (by rw [hk8]; rfl) (by decide) ?_
      refine cl_aload_n C.1 C.2.1 dX11_state_157 rfl (lv_at hl_14 0 rfl) ?_
      obtain ⟨a_46, rfl, h_48⟩ := nn_some h_13
      have t_47 := t_12 _ rfl
      refine cg_11_276 C G_6 t_47 dX11_state_158 ?_
      exact cl_iret ⟨rfl, rfl⟩ rfl C G_6 h_48 dX11_state_161
    rw [if_neg hk8] at h_13
    by_cases hk9 : x2 = (9:Int32)
    · rw [if_pos hk9] at h_13
      refine lv_tableIn (tgt := 162) C.1 C.2.1 dX11_state_21 (by rw [hk9]; decide) (by rw [hk9]; decide) (by rw [hk9]; rfl) (by decide) ?_
      refine cl_aload_n C.1 C.2.1 dX11_state_162 rfl (lv_at hl_14 0 rfl) ?_
      obtain ⟨a_49, rfl, h_51⟩ := nn_some h_13
      have t_50 := t_12 _ rfl
      refine cg_11_279 C G_6 t_50 dX11_state_163 ?_
      exact cl_iret ⟨rfl, rfl⟩ rfl C G_6 h_51 dX11_state_166
    rw [if_neg hk9] at h_13
    by_cases hk10 : x2 = (10:Int32)
    · rw [if_pos hk10] at h_13
      refine lv_tableIn (tgt := 167) C.1 C.2.1 dX11_state_21 (by rw [hk10]; decide) (by rw [hk10]; decide) (by rw [hk10]; rfl) (by decide) ?_
      refine cl_aload_n C.1 C.2.1 dX11_state_167 rfl (lv_at hl_14 0 rfl) ?_
      obtain ⟨a_52, rfl, h_54⟩ := nn_some h_13
      have t_53 := t_12 _ rfl
      refine cg_11_282 C G_6 t_53 dX11_state_168 ?_
      exact cl_iret ⟨rfl, rfl⟩ rfl C G_6 h_54 dX11_state_171
    rw [if_neg hk10] at h_13
    refine lv_tableOut (tgt := 172) C.1 C.2.1 dX11_state_21 ?_ (by decide) ?_
    · rcases Int.lt_or_le x2.toInt 0 with q | q
      · exact Or.inl q
      · rcases Int.lt_or_le 10 x2.toInt with q2 | q2
        · exact Or.inr q2
        · exfalso
          have hd : x2.toInt = (0 : Int) ∨ x2.toInt = (1 : Int) ∨ x2.toInt = (2 : Int) ∨ x2.toInt = (3 : Int) ∨ x2.toInt = (4 : Int) ∨ x2.toInt = (5 : Int) ∨ x2.toInt = (6 : Int) ∨ x2.toInt = (7 : Int) ∨ x2.toInt = (8 : Int) ∨ x2.toInt = (9 : Int) ∨ x2.toInt = (10 : Int) := by omega
          rcases hd with e | e | e | e | e | e | e | e | e | e | e
          · exact hk0 (Int32.toInt_inj.mp (e.trans (by decide)))
          · exact hk1 (Int32.toInt_inj.mp (e.trans (by decide)))
          · exact hk2 (Int32.toInt_inj.mp (e.trans (by decide)))
          · exact hk3 (Int32.toInt_inj.mp (e.trans (by decide)))
          · exact hk4 (Int32.toInt_inj.mp (e.trans (by decide)))
          · exact hk5 (Int32.toInt_inj.mp (e.trans (by decide)))
          · exact hk6 (Int32.toInt_inj.mp (e.trans (by decide)))
          · exact hk7 (Int32.toInt_inj.mp (e.trans (by decide)))
          · exact hk8 (Int32.toInt_inj.mp (e.trans (by decide)))
          · exact hk9 (Int32.toInt_inj.mp (e.trans (by decide)))
          · exact hk10 (Int32.toInt_inj.mp (e.trans (by decide)))
    · refine lv_bipush (v := (-2:Int32)) C.1 C.2.1 dX11_state_172 (by decide) ?_
      exact cl_iret ⟨rfl, rfl⟩ rfl C G_6 h_13 dX11_state_174
  · rw [if_pos hc] at h_3
    refine lv_iconst (v := (-1:Int32)) C.1 C.2.1 dX11_state_8 (by decide) ?_
    exact cl_iret ⟨rfl, rfl⟩ rfl C G_6 h_3 dX11_state_9
noncomputable def fc_X11_state (a : Nat) (x1 : Int32) (x2 : Int32) (σ : cl_S) : Option (Int32 × cl_S) := bc_X11_state_0 a x1 x2 σ
theorem kc_X11_state (l : Launch) (D : cl_D) (c0 : Nat) {r : Int32} {a : Nat} {x1 : Int32} {x2 : Int32} {σ σ' : cl_S} (ha : (σ.2.2.2.1 a).1 = 27) (h : fc_X11_state a x1 x2 σ = some (r, σ')) : cl_Met true l D c0 yX11_state cX11_state 4 (some .int) 1 21 [.ref (c0 + a), .int x1, .int x2] σ (some (.int r)) cl_no σ' :=
  cl_of (by decide) (Nat.le_of_ble_eq_true rfl) (fun p e s m args below meth c ls C hn G hl => wc_X11_state_0 C h G ha hl)
abbrev cX11_register : ByteArray := prog_1_method_21_code
def yX11_register : MethodName := ⟨RX11, "register", "(II)I"⟩
theorem dX11_register_0 : decode cX11_register 0 = .ok (.aload_n 0, 1) := by decide +kernel
theorem dX11_register_1 : decode cX11_register 1 = .ok (.iload_n 1, 1) := by decide +kernel
theorem dX11_register_2 : decode cX11_register 2 = .ok (.invokevirtual 219, 3) := by decide +kernel
theorem dX11_register_5 : decode cX11_register 5 = .ok (.ifCond .eq 33, 3) := by decide +kernel
theorem dX11_register_8 : decode cX11_register 8 = .ok (.iload_n 2, 1) := by decide +kernel
theorem dX11_register_9 : decode cX11_register 9 = .ok (.ifCond .lt 29, 3) := by decide +kernel
theorem dX11_register_12 : decode cX11_register 12 = .ok (.iload_n 2, 1) := by decide +kernel
theorem dX11_register_13 : decode cX11_register 13 = .ok (.bipush 16, 2) := by decide +kernel
theorem dX11_register_15 : decode cX11_register 15 = .ok (.if_icmp .ge 23, 3) := by decide +kernel
theorem dX11_register_18 : decode cX11_register 18 = .ok (.aload_n 0, 1) := by decide +kernel
theorem dX11_register_19 : decode cX11_register 19 = .ok (.getfield 81, 3) := by decide +kernel
theorem dX11_register_22 : decode cX11_register 22 = .ok (.getfield 175, 3) := by decide +kernel
theorem dX11_register_25 : decode cX11_register 25 = .ok (.iload_n 1, 1) := by decide +kernel
theorem dX11_register_26 : decode cX11_register 26 = .ok (.aaload, 1) := by decide +kernel
theorem dX11_register_27 : decode cX11_register 27 = .ok (.getfield 196, 3) := by decide +kernel
theorem dX11_register_30 : decode cX11_register 30 = .ok (.getfield 285, 3) := by decide +kernel
theorem dX11_register_33 : decode cX11_register 33 = .ok (.iload_n 2, 1) := by decide +kernel
theorem dX11_register_34 : decode cX11_register 34 = .ok (.iaload, 1) := by decide +kernel
theorem dX11_register_35 : decode cX11_register 35 = .ok (.goto 4, 3) := by decide +kernel
theorem dX11_register_38 : decode cX11_register 38 = .ok (.iconst 0, 1) := by decide +kernel
theorem dX11_register_39 : decode cX11_register 39 = .ok (.ireturn, 1) := by decide +kernel
theorem cc_X11_register : Cond.code yX11_register cX11_register 3 (some .int) ∈ rf_tb := rf_at 1368 (by decide +kernel) (by decide +kernel)
noncomputable def bc_X11_register_0 (a : Nat) (x1 : Int32) (x2 : Int32) (σ : cl_S) : Option (Int32 × cl_S) := bd2 (fc_X11_isPartition a x1 σ) (fun r_2 σ_1 => (if r_2 = 0 then some ((0:Int32), σ_1) else (if x2 < 0 then some ((0:Int32), σ_1) else (if (16:Int32) ≤ x2 then some ((0:Int32), σ_1) else ix x1 8 (vl (σ_1.2.2.1 (47 + 12 + cl_md 47) x1.toNatClampNeg) (fun r_11 => nn r_11 (fun a_14 => ix x2 16 (some ((σ_1.1 ((a_14 + 1) + 2) x2.toNatClampNeg), σ_1)))))))))
set_option maxHeartbeats 4000000 in
theorem wc_X11_register_0 (C : cl_C D p s m args meth c cX11_register 3 (some .int) RX11) {r : Int32} {a : Nat} {x1 : Int32} {x2 : Int32} {σ0 σ σ' : cl_S} {T : Nat → Nat × Nat} {H : Heap} {locs : List Loc} {ls : Array Slot} {cells slots : Nat} (h : bc_X11_register_0 a x1 x2 σ = some (r, σ')) (G : cl_G true D c0 ({ frames := 1, cells := σ0.2.2.2.2.2.1, slots := σ0.2.2.2.2.2.2, locals := 21 }) s σ0.2.2.2.1 T σ H locs cells slots) (ha : (T a).1 = 27) (hl : lv_has ls 3 [(0, .ref (c0 + a)), (1, .int x1), (2, .int x2)]) : W p l e ({ frames := 1, cells := σ0.2.2.2.2.2.1, slots := σ0.2.2.2.2.2.2, locals := 21 }) s m args below meth c H locs cells slots (MQ below (cl_Q true D c0 (some (.int r)) cl_no σ0 σ') args s (σ0.2.2.2.2.2.1 - σ'.2.2.2.2.2.1) (σ0.2.2.2.2.2.2 - σ'.2.2.2.2.2.2) (cl_A c0 σ0.2.2.2.1 s.heap.size)) (F0 m 0 ls []) := by
  unfold bc_X11_register_0 at h
  refine lv_aload_n C.1 C.2.1 dX11_register_0 rfl (lv_at hl 0 rfl) ?_
  refine lv_iload_n C.1 C.2.1 dX11_register_1 rfl (lv_at hl 1 rfl) ?_
  obtain ⟨r_2, σ_1, hq, h_3⟩ := bd2_some h
  refine cl_callV (ci := 11) (rest := []) C G rfl ha cw_RX11_219 [.int x1] _ (kc_X11_isPartition l D c0 (by rw [G.1]; exact ha) hq) (Nat.le_of_ble_eq_true rfl) (Nat.le_of_ble_eq_true rfl) rfl rfl hl.1 (Nat.le_of_ble_eq_true rfl) dX11_register_2 (fun T_4 H locs cells slots t_5 hu G_6 => ?_)
  have ha := hu.kind ha (by decide)
  refine W.eq (g2 := F0 m 5 ls [.int r_2]) rfl ?_
  refine lv_if_eq (tgt := 38) C.1 C.2.1 dX11_register_5 (by decide) (fun hc => ?_) (fun hc => ?_)
  · rw [if_pos hc] at h_3
    refine lv_iconst (v := (0:Int32)) C.1 C.2.1 dX11_register_38 (by decide) ?_
    exact cl_iret ⟨rfl, rfl⟩ rfl C G_6 h_3 dX11_register_39
  · rw [if_neg hc] at h_3
    refine lv_iload_n C.1 C.2.1 dX11_register_8 rfl (lv_at hl 2 rfl) ?_
    refine lv_if_lt (tgt := 38) C.1 C.2.1 dX11_register_9 (by decide) (fun hc => ?_) (fun hc => ?_)
    · rw [if_pos hc] at h_3
      refine lv_iconst (v := (0:Int32)) C.1 C.2.1 dX11_register_38 (by decide) ?_
      exact cl_iret ⟨rfl, rfl⟩ rfl C G_6 h_3 dX11_register_39
    · rw [if_neg hc] at h_3
      refine lv_iload_n C.1 C.2.1 dX11_register_12 rfl (lv_at hl 2 rfl) ?_
      refine lv_bipush (v := (16:Int32)) C.1 C.2.1 dX11_register_13 (by decide) ?_
      refine lv_icmp_ge (tgt := 38) C.1 C.2.1 dX11_register_15 (by decide) (fun hc => ?_) (fun hc => ?_)
      · rw [if_pos hc] at h_3
        refine lv_iconst (v := (0:Int32)) C.1 C.2.1 dX11_register_38 (by decide) ?_
        exact cl_iret ⟨rfl, rfl⟩ rfl C G_6 h_3 dX11_register_39
      · rw [if_neg hc] at h_3
        refine lv_aload_n C.1 C.2.1 dX11_register_18 rfl (lv_at hl 0 rfl) ?_
        refine cg_11_81 C G_6 ha dX11_register_19 (fun t_7 => ?_)
        have t_7 : (T_4 47).1 = 21 := by rw [t_7]
        refine cg_11_175 C G_6 t_7 dX11_register_22 (fun t_8 => ?_)
        refine lv_iload_n C.1 C.2.1 dX11_register_25 rfl (lv_at hl 1 rfl) ?_
        obtain ⟨hi, h_9⟩ := ix_some h_3
        refine cl_aald C G_6 t_8 (by decide) (by decide) rfl hi dX11_register_26 (fun t_10 => ?_)
        refine vt_r (K := 22) t_10 h_9 (fun r_11 t_12 h_13 => ?_)
        obtain ⟨a_14, rfl, h_16⟩ := nn_some h_13
        have t_15 := t_12 _ rfl
        refine cg_11_196 C G_6 t_15 dX11_register_27 (fun t_17 => ?_)
        have t_17 : (T_4 (a_14 + 1)).1 = 18 := by rw [t_17]
        refine cg_11_285 C G_6 t_17 dX11_register_30 (fun t_18 => ?_)
        refine lv_iload_n C.1 C.2.1 dX11_register_33 rfl (lv_at hl 2 rfl) ?_
        obtain ⟨hi, h_19⟩ := ix_some h_16
        refine cl_iald C G_6 t_18 hi dX11_register_34 ?_
        refine lv_goto (tgt := 39) C.1 C.2.1 dX11_register_35 (by decide) ?_
        exact cl_iret ⟨rfl, rfl⟩ rfl C G_6 h_19 dX11_register_39
noncomputable def fc_X11_register (a : Nat) (x1 : Int32) (x2 : Int32) (σ : cl_S) : Option (Int32 × cl_S) := bc_X11_register_0 a x1 x2 σ
theorem kc_X11_register (l : Launch) (D : cl_D) (c0 : Nat) {r : Int32} {a : Nat} {x1 : Int32} {x2 : Int32} {σ σ' : cl_S} (ha : (σ.2.2.2.1 a).1 = 27) (h : fc_X11_register a x1 x2 σ = some (r, σ')) : cl_Met true l D c0 yX11_register cX11_register 3 (some .int) 1 21 [.ref (c0 + a), .int x1, .int x2] σ (some (.int r)) cl_no σ' :=
  cl_of (by decide) (Nat.le_of_ble_eq_true rfl) (fun p e s m args below meth c ls C hn G hl => wc_X11_register_0 C h G ha hl)
abbrev cX11_memory : ByteArray := prog_1_method_22_code
def yX11_memory : MethodName := ⟨RX11, "memory", "(II)I"⟩
theorem dX11_memory_0 : decode cX11_memory 0 = .ok (.aload_n 0, 1) := by decide +kernel
theorem dX11_memory_1 : decode cX11_memory 1 = .ok (.iload_n 1, 1) := by decide +kernel
theorem dX11_memory_2 : decode cX11_memory 2 = .ok (.invokevirtual 219, 3) := by decide +kernel
theorem dX11_memory_5 : decode cX11_memory 5 = .ok (.ifCond .eq 26, 3) := by decide +kernel
theorem dX11_memory_8 : decode cX11_memory 8 = .ok (.iload_n 2, 1) := by decide +kernel
theorem dX11_memory_9 : decode cX11_memory 9 = .ok (.ifCond .lt 22, 3) := by decide +kernel
theorem dX11_memory_12 : decode cX11_memory 12 = .ok (.iload_n 2, 1) := by decide +kernel
theorem dX11_memory_13 : decode cX11_memory 13 = .ok (.aload_n 0, 1) := by decide +kernel
theorem dX11_memory_14 : decode cX11_memory 14 = .ok (.getfield 81, 3) := by decide +kernel
theorem dX11_memory_17 : decode cX11_memory 17 = .ok (.getfield 175, 3) := by decide +kernel
theorem dX11_memory_20 : decode cX11_memory 20 = .ok (.iload_n 1, 1) := by decide +kernel
theorem dX11_memory_21 : decode cX11_memory 21 = .ok (.aaload, 1) := by decide +kernel
theorem dX11_memory_22 : decode cX11_memory 22 = .ok (.getfield 196, 3) := by decide +kernel
theorem dX11_memory_25 : decode cX11_memory 25 = .ok (.getfield 288, 3) := by decide +kernel
theorem dX11_memory_28 : decode cX11_memory 28 = .ok (.if_icmp .lt 5, 3) := by decide +kernel
theorem dX11_memory_31 : decode cX11_memory 31 = .ok (.iconst 0, 1) := by decide +kernel
theorem dX11_memory_32 : decode cX11_memory 32 = .ok (.ireturn, 1) := by decide +kernel
theorem dX11_memory_33 : decode cX11_memory 33 = .ok (.aload_n 0, 1) := by decide +kernel
theorem dX11_memory_34 : decode cX11_memory 34 = .ok (.getfield 81, 3) := by decide +kernel
theorem dX11_memory_37 : decode cX11_memory 37 = .ok (.getfield 175, 3) := by decide +kernel
theorem dX11_memory_40 : decode cX11_memory 40 = .ok (.iload_n 1, 1) := by decide +kernel
theorem dX11_memory_41 : decode cX11_memory 41 = .ok (.aaload, 1) := by decide +kernel
theorem dX11_memory_42 : decode cX11_memory 42 = .ok (.getfield 196, 3) := by decide +kernel
theorem dX11_memory_45 : decode cX11_memory 45 = .ok (.getfield 290, 3) := by decide +kernel
theorem dX11_memory_48 : decode cX11_memory 48 = .ok (.iload_n 2, 1) := by decide +kernel
theorem dX11_memory_49 : decode cX11_memory 49 = .ok (.iaload, 1) := by decide +kernel
theorem dX11_memory_50 : decode cX11_memory 50 = .ok (.ireturn, 1) := by decide +kernel
theorem cc_X11_memory : Cond.code yX11_memory cX11_memory 3 (some .int) ∈ rf_tb := rf_at 1372 (by decide +kernel) (by decide +kernel)
noncomputable def bc_X11_memory_0 (a : Nat) (x1 : Int32) (x2 : Int32) (σ : cl_S) : Option (Int32 × cl_S) := bd2 (fc_X11_isPartition a x1 σ) (fun r_2 σ_1 => (if r_2 = 0 then some ((0:Int32), σ_1) else (if x2 < 0 then some ((0:Int32), σ_1) else ix x1 8 (vl (σ_1.2.2.1 (47 + 12 + cl_md 47) x1.toNatClampNeg) (fun r_11 => nn r_11 (fun a_14 => (if x2 < (σ_1.1 (a_14 + 1) 2) then ix x1 8 (vl (σ_1.2.2.1 (47 + 12 + cl_md 47) x1.toNatClampNeg) (fun r_22 => nn r_22 (fun a_25 => ix x2 2048 (some ((σ_1.1 ((a_25 + 1) + 1) x2.toNatClampNeg), σ_1))))) else some ((0:Int32), σ_1))))))))
set_option maxHeartbeats 4000000 in
theorem wc_X11_memory_0 (C : cl_C D p s m args meth c cX11_memory 3 (some .int) RX11) {r : Int32} {a : Nat} {x1 : Int32} {x2 : Int32} {σ0 σ σ' : cl_S} {T : Nat → Nat × Nat} {H : Heap} {locs : List Loc} {ls : Array Slot} {cells slots : Nat} (h : bc_X11_memory_0 a x1 x2 σ = some (r, σ')) (G : cl_G true D c0 ({ frames := 1, cells := σ0.2.2.2.2.2.1, slots := σ0.2.2.2.2.2.2, locals := 21 }) s σ0.2.2.2.1 T σ H locs cells slots) (ha : (T a).1 = 27) (hl : lv_has ls 3 [(0, .ref (c0 + a)), (1, .int x1), (2, .int x2)]) : W p l e ({ frames := 1, cells := σ0.2.2.2.2.2.1, slots := σ0.2.2.2.2.2.2, locals := 21 }) s m args below meth c H locs cells slots (MQ below (cl_Q true D c0 (some (.int r)) cl_no σ0 σ') args s (σ0.2.2.2.2.2.1 - σ'.2.2.2.2.2.1) (σ0.2.2.2.2.2.2 - σ'.2.2.2.2.2.2) (cl_A c0 σ0.2.2.2.1 s.heap.size)) (F0 m 0 ls []) := by
  unfold bc_X11_memory_0 at h
  refine lv_aload_n C.1 C.2.1 dX11_memory_0 rfl (lv_at hl 0 rfl) ?_
  refine lv_iload_n C.1 C.2.1 dX11_memory_1 rfl (lv_at hl 1 rfl) ?_
  obtain ⟨r_2, σ_1, hq, h_3⟩ := bd2_some h
  refine cl_callV (ci := 11) (rest := []) C G rfl ha cw_RX11_219 [.int x1] _ (kc_X11_isPartition l D c0 (by rw [G.1]; exact ha) hq) (Nat.le_of_ble_eq_true rfl) (Nat.le_of_ble_eq_true rfl) rfl rfl hl.1 (Nat.le_of_ble_eq_true rfl) dX11_memory_2 (fun T_4 H locs cells slots t_5 hu G_6 => ?_)
  have ha := hu.kind ha (by decide)
  refine W.eq (g2 := F0 m 5 ls [.int r_2]) rfl ?_
  refine lv_if_eq (tgt := 31) C.1 C.2.1 dX11_memory_5 (by decide) (fun hc => ?_) (fun hc => ?_)
  · rw [if_pos hc] at h_3
    refine lv_iconst (v := (0:Int32)) C.1 C.2.1 dX11_memory_31 (by decide) ?_
    exact cl_iret ⟨rfl, rfl⟩ rfl C G_6 h_3 dX11_memory_32
  · rw [if_neg hc] at h_3
    refine lv_iload_n C.1 C.2.1 dX11_memory_8 rfl (lv_at hl 2 rfl) ?_
    refine lv_if_lt (tgt := 31) C.1 C.2.1 dX11_memory_9 (by decide) (fun hc => ?_) (fun hc => ?_)
    · rw [if_pos hc] at h_3
      refine lv_iconst (v := (0:Int32)) C.1 C.2.1 dX11_memory_31 (by decide) ?_
      exact cl_iret ⟨rfl, rfl⟩ rfl C G_6 h_3 dX11_memory_32
    · rw [if_neg hc] at h_3
      refine lv_iload_n C.1 C.2.1 dX11_memory_12 rfl (lv_at hl 2 rfl) ?_
      refine lv_aload_n C.1 C.2.1 dX11_memory_13 rfl (lv_at hl 0 rfl) ?_
      refine cg_11_81 C G_6 ha dX11_memory_14 (fun t_7 => ?_)
      have t_7 : (T_4 47).1 = 21 := by rw [t_7]
      refine cg_11_175 C G_6 t_7 dX11_memory_17 (fun t_8 => ?_)
      refine lv_iload_n C.1 C.2.1 dX11_memory_20 rfl (lv_at hl 1 rfl) ?_
      obtain ⟨hi, h_9⟩ := ix_some h_3
      refine cl_aald C G_6 t_8 (by decide) (by decide) rfl hi dX11_memory_21 (fun t_10 => ?_)
      refine vt_r (K := 22) t_10 h_9 (fun r_11 t_12 h_13 => ?_)
      obtain ⟨a_14, rfl, h_16⟩ := nn_some h_13
      have t_15 := t_12 _ rfl
      refine cg_11_196 C G_6 t_15 dX11_memory_22 (fun t_17 => ?_)
      have t_17 : (T_4 (a_14 + 1)).1 = 18 := by rw [t_17]
      refine cg_11_288 C G_6 t_17 dX11_memory_25 ?_
      refine lv_icmp_lt (tgt := 33) C.1 C.2.1 dX11_memory_28 (by decide) (fun hc => ?_) (fun hc => ?_)
      · rw [if_pos hc] at h_16
        refine lv_aload_n C.1 C.2.1 dX11_memory_33 rfl (lv_at hl 0 rfl) ?_
        refine cg_11_81 C G_6 ha dX11_memory_34 (fun t_18 => ?_)
        have t_18 : (T_4 47).1 = 21 := by rw [t_18]
        refine cg_11_175 C G_6 t_18 dX11_memory_37 (fun t_19 => ?_)
        refine lv_iload_n C.1 C.2.1 dX11_memory_40 rfl (lv_at hl 1 rfl) ?_
        obtain ⟨hi, h_20⟩ := ix_some h_16
        refine cl_aald C G_6 t_19 (by decide) (by decide) rfl hi dX11_memory_41 (fun t_21 => ?_)
        refine vt_r (K := 22) t_21 h_20 (fun r_22 t_23 h_24 => ?_)
        obtain ⟨a_25, rfl, h_27⟩ := nn_some h_24
        have t_26 := t_23 _ rfl
        refine cg_11_196 C G_6 t_26 dX11_memory_42 (fun t_28 => ?_)
        have t_28 : (T_4 (a_25 + 1)).1 = 18 := by rw [t_28]
        refine cg_11_290 C G_6 t_28 dX11_memory_45 (fun t_29 => ?_)
        refine lv_iload_n C.1 C.2.1 dX11_memory_48 rfl (lv_at hl 2 rfl) ?_
        obtain ⟨hi, h_30⟩ := ix_some h_27
        refine cl_iald C G_6 t_29 hi dX11_memory_49 ?_
        exact cl_iret ⟨rfl, rfl⟩ rfl C G_6 h_30 dX11_memory_50
      · rw [if_neg hc] at h_16
        refine lv_iconst (v := (0:Int32)) C.1 C.2.1 dX11_memory_31 (by decide) ?_
        exact cl_iret ⟨rfl, rfl⟩ rfl C G_6 h_16 dX11_memory_32
noncomputable def fc_X11_memory (a : Nat) (x1 : Int32) (x2 : Int32) (σ : cl_S) : Option (Int32 × cl_S) := bc_X11_memory_0 a x1 x2 σ
theorem kc_X11_memory (l : Launch) (D : cl_D) (c0 : Nat) {r : Int32} {a : Nat} {x1 : Int32} {x2 : Int32} {σ σ' : cl_S} (ha : (σ.2.2.2.1 a).1 = 27) (h : fc_X11_memory a x1 x2 σ = some (r, σ')) : cl_Met true l D c0 yX11_memory cX11_memory 3 (some .int) 1 21 [.ref (c0 + a), .int x1, .int x2] σ (some (.int r)) cl_no σ' :=
  cl_of (by decide) (Nat.le_of_ble_eq_true rfl) (fun p e s m args below meth c ls C hn G hl => wc_X11_memory_0 C h G ha hl)
abbrev cX11_channel : ByteArray := prog_1_method_23_code
def yX11_channel : MethodName := ⟨RX11, "channel", "(II)I"⟩
theorem dX11_channel_0 : decode cX11_channel 0 = .ok (.aload_n 0, 1) := by decide +kernel
theorem dX11_channel_1 : decode cX11_channel 1 = .ok (.getfield 81, 3) := by decide +kernel
theorem dX11_channel_4 : decode cX11_channel 4 = .ok (.getfield 157, 3) := by decide +kernel
theorem dX11_channel_7 : decode cX11_channel 7 = .ok (.astore_n 3, 1) := by decide +kernel
theorem dX11_channel_8 : decode cX11_channel 8 = .ok (.iload_n 1, 1) := by decide +kernel
theorem dX11_channel_9 : decode cX11_channel 9 = .ok (.ifCond .lt 11, 3) := by decide +kernel
theorem dX11_channel_12 : decode cX11_channel 12 = .ok (.iload_n 1, 1) := by decide +kernel
theorem dX11_channel_13 : decode cX11_channel 13 = .ok (.aload_n 3, 1) := by decide +kernel
theorem dX11_channel_14 : decode cX11_channel 14 = .ok (.getfield 293, 3) := by decide +kernel
theorem dX11_channel_17 : decode cX11_channel 17 = .ok (.if_icmp .lt 5, 3) := by decide +kernel
theorem dX11_channel_20 : decode cX11_channel 20 = .ok (.iconst (-1), 1) := by decide +kernel
theorem dX11_channel_21 : decode cX11_channel 21 = .ok (.ireturn, 1) := by decide +kernel
theorem dX11_channel_22 : decode cX11_channel 22 = .ok (.iload_n 2, 1) := by decide +kernel
theorem dX11_channel_23 : decode cX11_channel 23 = .ok (.ifCond .lt 9, 3) := by decide +kernel
theorem dX11_channel_26 : decode cX11_channel 26 = .ok (.iload_n 2, 1) := by decide +kernel
theorem dX11_channel_27 : decode cX11_channel 27 = .ok (.bipush 20, 2) := by decide +kernel
theorem dX11_channel_29 : decode cX11_channel 29 = .ok (.if_icmp .le 6, 3) := by decide +kernel
theorem dX11_channel_32 : decode cX11_channel 32 = .ok (.bipush (-2), 2) := by decide +kernel
theorem dX11_channel_34 : decode cX11_channel 34 = .ok (.ireturn, 1) := by decide +kernel
theorem dX11_channel_35 : decode cX11_channel 35 = .ok (.iload_n 2, 1) := by decide +kernel
theorem dX11_channel_36 : decode cX11_channel 36 = .ok (.tableswitch 92 0 4 #[36, 43, 50, 57, 67], 36) := by decide +kernel
theorem dX11_channel_72 : decode cX11_channel 72 = .ok (.aload_n 3, 1) := by decide +kernel
theorem dX11_channel_73 : decode cX11_channel 73 = .ok (.getfield 296, 3) := by decide +kernel
theorem dX11_channel_76 : decode cX11_channel 76 = .ok (.iload_n 1, 1) := by decide +kernel
theorem dX11_channel_77 : decode cX11_channel 77 = .ok (.iaload, 1) := by decide +kernel
theorem dX11_channel_78 : decode cX11_channel 78 = .ok (.ireturn, 1) := by decide +kernel
theorem dX11_channel_79 : decode cX11_channel 79 = .ok (.aload_n 3, 1) := by decide +kernel
theorem dX11_channel_80 : decode cX11_channel 80 = .ok (.getfield 299, 3) := by decide +kernel
theorem dX11_channel_83 : decode cX11_channel 83 = .ok (.iload_n 1, 1) := by decide +kernel
theorem dX11_channel_84 : decode cX11_channel 84 = .ok (.iaload, 1) := by decide +kernel
theorem dX11_channel_85 : decode cX11_channel 85 = .ok (.ireturn, 1) := by decide +kernel
theorem dX11_channel_86 : decode cX11_channel 86 = .ok (.aload_n 3, 1) := by decide +kernel
theorem dX11_channel_87 : decode cX11_channel 87 = .ok (.getfield 302, 3) := by decide +kernel
theorem dX11_channel_90 : decode cX11_channel 90 = .ok (.iload_n 1, 1) := by decide +kernel
theorem dX11_channel_91 : decode cX11_channel 91 = .ok (.iaload, 1) := by decide +kernel
theorem dX11_channel_92 : decode cX11_channel 92 = .ok (.ireturn, 1) := by decide +kernel
theorem dX11_channel_93 : decode cX11_channel 93 = .ok (.aload_n 0, 1) := by decide +kernel
theorem dX11_channel_94 : decode cX11_channel 94 = .ok (.getfield 81, 3) := by decide +kernel
theorem dX11_channel_97 : decode cX11_channel 97 = .ok (.getfield 305, 3) := by decide +kernel
theorem dX11_channel_100 : decode cX11_channel 100 = .ok (.iload_n 1, 1) := by decide +kernel
theorem dX11_channel_101 : decode cX11_channel 101 = .ok (.iaload, 1) := by decide +kernel
theorem dX11_channel_102 : decode cX11_channel 102 = .ok (.ireturn, 1) := by decide +kernel
theorem dX11_channel_103 : decode cX11_channel 103 = .ok (.aload_n 0, 1) := by decide +kernel
theorem dX11_channel_104 : decode cX11_channel 104 = .ok (.getfield 81, 3) := by decide +kernel
theorem dX11_channel_107 : decode cX11_channel 107 = .ok (.getfield 308, 3) := by decide +kernel
theorem dX11_channel_110 : decode cX11_channel 110 = .ok (.iload_n 1, 1) := by decide +kernel
theorem dX11_channel_111 : decode cX11_channel 111 = .ok (.aaload, 1) := by decide +kernel
theorem dX11_channel_112 : decode cX11_channel 112 = .ok (.aload_n 0, 1) := by decide +kernel
theorem dX11_channel_113 : decode cX11_channel 113 = .ok (.getfield 47, 3) := by decide +kernel
theorem dX11_channel_116 : decode cX11_channel 116 = .ok (.getfield 62, 3) := by decide +kernel
theorem dX11_channel_119 : decode cX11_channel 119 = .ok (.if_acmp .ne 7, 3) := by decide +kernel
theorem dX11_channel_122 : decode cX11_channel 122 = .ok (.iconst 0, 1) := by decide +kernel
theorem dX11_channel_123 : decode cX11_channel 123 = .ok (.goto 4, 3) := by decide +kernel
theorem dX11_channel_126 : decode cX11_channel 126 = .ok (.iconst 1, 1) := by decide +kernel
theorem dX11_channel_127 : decode cX11_channel 127 = .ok (.ireturn, 1) := by decide +kernel
theorem dX11_channel_128 : decode cX11_channel 128 = .ok (.aload_n 0, 1) := by decide +kernel
theorem dX11_channel_129 : decode cX11_channel 129 = .ok (.getfield 81, 3) := by decide +kernel
theorem dX11_channel_132 : decode cX11_channel 132 = .ok (.getfield 311, 3) := by decide +kernel
theorem dX11_channel_135 : decode cX11_channel 135 = .ok (.iload_n 1, 1) := by decide +kernel
theorem dX11_channel_136 : decode cX11_channel 136 = .ok (.aaload, 1) := by decide +kernel
theorem dX11_channel_137 : decode cX11_channel 137 = .ok (.iload_n 2, 1) := by decide +kernel
theorem dX11_channel_138 : decode cX11_channel 138 = .ok (.iconst 5, 1) := by decide +kernel
theorem dX11_channel_139 : decode cX11_channel 139 = .ok (.isub, 1) := by decide +kernel
theorem dX11_channel_140 : decode cX11_channel 140 = .ok (.iaload, 1) := by decide +kernel
theorem dX11_channel_141 : decode cX11_channel 141 = .ok (.ireturn, 1) := by decide +kernel
theorem cc_X11_channel : Cond.code yX11_channel cX11_channel 4 (some .int) ∈ rf_tb := rf_at 1376 (by decide +kernel) (by decide +kernel)
noncomputable def bc_X11_channel_0 (a : Nat) (x1 : Int32) (x2 : Int32) (σ : cl_S) : Option (Int32 × cl_S) := vl (σ.2.2.1 47 3) (fun r_3 => (if x1 < 0 then some ((-1:Int32), σ) else nn r_3 (fun a_7 => (if x1 < (σ.1 a_7 5) then (if x2 < 0 then some ((-2:Int32), σ) else (if x2 ≤ (20:Int32) then (if x2 = (0:Int32) then ix x1 16 (some ((σ.1 (a_7 + 5) x1.toNatClampNeg), σ)) else if x2 = (1:Int32) then ix x1 16 (some ((σ.1 (a_7 + 6) x1.toNatClampNeg), σ)) else if x2 = (2:Int32) then ix x1 16 (some ((σ.1 (a_7 + 7) x1.toNatClampNeg), σ)) else if x2 = (3:Int32) then ix x1 16 (some ((σ.1 (47 + 30 + cl_md 47) x1.toNatClampNeg), σ)) else if x2 = (4:Int32) then ix x1 16 (vl (σ.2.2.1 (47 + 31 + cl_md 47) x1.toNatClampNeg) (fun r_23 => vl (σ.2.2.1 31 4) (fun r_28 => (if r_23 = r_28 then some ((0:Int32), σ) else some ((1:Int32), σ))))) else ix x1 16 (vl (σ.2.2.1 (47 + 13 + cl_md 47) x1.toNatClampNeg) (fun r_35 => nn r_35 (fun a_38 => ix (x2 - (5:Int32)) (σ.2.2.2.1 a_38).2 (some ((σ.1 a_38 (x2 - (5:Int32)).toNatClampNeg), σ)))))) else some ((-2:Int32), σ))) else some ((-1:Int32), σ)))))
set_option maxHeartbeats 4000000 in
theorem wc_X11_channel_0 (C : cl_C D p s m args meth c cX11_channel 4 (some .int) RX11) {r : Int32} {a : Nat} {x1 : Int32} {x2 : Int32} {σ0 σ σ' : cl_S} {T : Nat → Nat × Nat} {H : Heap} {locs : List Loc} {ls : Array Slot} {cells slots : Nat} (h : bc_X11_channel_0 a x1 x2 σ = some (r, σ')) (G : cl_G true D c0 ({ frames := 0, cells := σ0.2.2.2.2.2.1, slots := σ0.2.2.2.2.2.2, locals := 0 }) s σ0.2.2.2.1 T σ H locs cells slots) (ha : (T a).1 = 27) (hl : lv_has ls 4 [(0, .ref (c0 + a)), (1, .int x1), (2, .int x2)]) : W p l e ({ frames := 0, cells := σ0.2.2.2.2.2.1, slots := σ0.2.2.2.2.2.2, locals := 0 }) s m args below meth c H locs cells slots (MQ below (cl_Q true D c0 (some (.int r)) cl_no σ0 σ') args s (σ0.2.2.2.2.2.1 - σ'.2.2.2.2.2.1) (σ0.2.2.2.2.2.2 - σ'.2.2.2.2.2.2) (cl_A c0 σ0.2.2.2.1 s.heap.size)) (F0 m 0 ls []) := by
  unfold bc_X11_channel_0 at h
  refine lv_aload_n C.1 C.2.1 dX11_channel_0 rfl (lv_at hl 0 rfl) ?_
  refine cg_11_81 C G ha dX11_channel_1 (fun t_1 => ?_)
  have t_1 : (T 47).1 = 21 := by rw [t_1]
  refine cg_11_157 C G t_1 dX11_channel_4 (fun t_2 => ?_)
  refine vt_r (K := 17) t_2 h (fun r_3 t_4 h_5 => ?_)
  refine cl_astore_n (lv' := [(3, cl_rf c0 r_3), (0, .ref (c0 + a)), (1, .int x1), (2, .int x2)]) C.1 C.2.1 dX11_channel_7 rfl hl (by decide) rfl (fun ls hl_6 => ?_)
  refine lv_iload_n C.1 C.2.1 dX11_channel_8 rfl (lv_at hl_6 2 rfl) ?_
  refine lv_if_lt (tgt := 20) C.1 C.2.1 dX11_channel_9 (by decide) (fun hc => ?_) (fun hc => ?_)
  · rw [if_pos hc] at h_5
    refine lv_iconst (v := (-1:Int32)) C.1 C.2.1 dX11_channel_20 (by decide) ?_
    exact cl_iret ⟨rfl, rfl⟩ rfl C G h_5 dX11_channel_21
  · rw [if_neg hc] at h_5
    refine lv_iload_n C.1 C.2.1 dX11_channel_12 rfl (lv_at hl_6 2 rfl) ?_
    refine cl_aload_n C.1 C.2.1 dX11_channel_13 rfl (lv_at hl_6 0 rfl) ?_
    obtain ⟨a_7, rfl, h_9⟩ := nn_some h_5
    have t_8 := t_4 _ rfl
    refine cg_11_293 C G t_8 dX11_channel_14 ?_
    refine lv_icmp_lt (tgt := 22) C.1 C.2.1 dX11_channel_17 (by decide) (fun hc => ?_) (fun hc => ?_)
    · rw [if_pos hc] at h_9
      refine lv_iload_n C.1 C.2.1 dX11_channel_22 rfl (lv_at hl_6 3 rfl) ?_
      refine lv_if_lt (tgt := 32) C.1 C.2.1 dX11_channel_23 (by decide) (fun hc => ?_) (fun hc => ?_)
      · rw [if_pos hc] at h_9
        refine lv_bipush (v := (-2:Int32)) C.1 C.2.1 dX11_channel_32 (by decide) ?_
        exact cl_iret ⟨rfl, rfl⟩ rfl C G h_9 dX11_channel_34
      · rw [if_neg hc] at h_9
        refine lv_iload_n C.1 C.2.1 dX11_channel_26 rfl (lv_at hl_6 3 rfl) ?_
        refine lv_bipush (v := (20:Int32)) C.1 C.2.1 dX11_channel_27 (by decide) ?_
        refine lv_icmp_le (tgt := 35) C.1 C.2.1 dX11_channel_29 (by decide) (fun hc => ?_) (fun hc => ?_)
        · rw [if_pos hc] at h_9
          refine lv_iload_n C.1 C.2.1 dX11_channel_35 rfl (lv_at hl_6 3 rfl) ?_
          by_cases hk0 : x2 = (0:Int32)
          · rw [if_pos hk0] at h_9
            refine lv_tableIn (tgt := 72) C.1 C.2.1 dX11_channel_36 (by rw [hk0]; decide) (by rw [hk0]; decide) (by rw [hk0]; rfl) (by decide) ?_
            refine lv_aload_n C.1 C.2.1 dX11_channel_72 rfl (lv_at hl_6 0 rfl) ?_
            refine cg_11_296 C G t_8 dX11_channel_73 (fun t_10 => ?_)
            refine lv_iload_n C.1 C.2.1 dX11_channel_76 rfl (lv_at hl_6 2 rfl) ?_
            obtain ⟨hi, h_11⟩ := ix_some h_9
            refine cl_iald C G t_10 hi dX11_channel_77 ?_
            exact cl_iret ⟨rfl, rfl⟩ rfl C G h_11 dX11_channel_78
          rw [if_neg hk0] at h_9
          by_cases hk1 : x2 = (1:Int32)
          · rw [if_pos hk1] at h_9
            refine lv_tableIn (tgt := 79) C.1 C.2.1 dX11_channel_36 (by rw [hk1]; decide) (by rw [hk1]; decide) (by rw [hk1]; rfl) (by decide) ?_
            refine lv_aload_n C.1 C.2.1 dX11_channel_79 rfl (lv_at hl_6 0 rfl) ?_
            refine cg_11_299 C G t_8 dX11_channel_80 (fun t_12 => ?_)
            refine lv_iload_n C.1 C.2.1 dX11_channel_83 rfl (lv_at hl_6 2 rfl) ?_
            obtain ⟨hi, h_13⟩ := ix_some h_9
            refine cl_iald C G t_12 hi dX11_channel_84 ?_
            exact cl_iret ⟨rfl, rfl⟩ rfl C G h_13 dX11_channel_85
          rw [if_neg hk1] at h_9
          by_cases hk2 : x2 = (2:Int32)
          · rw [if_pos hk2] at h_9
            refine lv_tableIn (tgt := 86) C.1 C.2.1 dX11_channel_36 (by rw [hk2]; decide) (by rw [hk2]; decide) (by rw [hk2]; rfl) (by decide) ?_
            refine lv_aload_n C.1 C.2.1 dX11_channel_86 rfl (lv_at hl_6 0 rfl) ?_
            refine cg_11_302 C G t_8 dX11_channel_87 (fun t_14 => ?_)
            refine lv_iload_n C.1 C.2.1 dX11_channel_90 rfl (lv_at hl_6 2 rfl) ?_
            obtain ⟨hi, h_15⟩ := ix_some h_9
            refine cl_iald C G t_14 hi dX11_channel_91 ?_
            exact cl_iret ⟨rfl, rfl⟩ rfl C G h_15 dX11_channel_92
          rw [if_neg hk2] at h_9
          by_cases hk3 : x2 = (3:Int32)
          · rw [if_pos hk3] at h_9
            refine lv_tableIn (tgt := 93) C.1 C.2.1 dX11_channel_36 (by rw [hk3]; decide) (by rw [hk3]; decide) (by rw [hk3]; rfl) (by decide) ?_
            refine lv_aload_n C.1 C.2.1 dX11_channel_93 rfl (lv_at hl_6 1 rfl) ?_
            refine cg_11_81 C G ha dX11_channel_94 (fun t_16 => ?_)
            have t_16 : (T 47).1 = 21 := by rw [t_16]
            refine cg_11_305 C G t_16 dX11_channel_97 (fun t_17 => ?_)
            refine lv_iload_n C.1 C.2.1 dX11_channel_100 rfl (lv_at hl_6 2 rfl) ?_
            obtain ⟨hi, h_18⟩ := ix_some h_9
            refine cl_iald C G t_17 hi dX11_channel_101 ?_
            exact cl_iret ⟨rfl, rfl⟩ rfl C G h_18 dX11_channel_102
          rw [if_neg hk3] at h_9
          by_cases hk4 : x2 = (4:Int32)
          · rw [if_pos hk4] at h_9
            refine lv_tableIn (tgt := 103) C.1 C.2.1 dX11_channel_36 (by rw [hk4]; decide) (by rw [hk4]; decide) (by rw [hk4]; rfl) (by decide) ?_
            refine lv_aload_n C.1 C.2.1 dX11_channel_103 rfl (lv_at hl_6 1 rfl) ?_
            refine cg_11_81 C G ha dX11_channel_104 (fun t_19 => ?_)
            have t_19 : (T 47).1 = 21 := by rw [t_19]
            refine cg_11_308 C G t_19 dX11_channel_107 (fun t_20 => ?_)
            refine lv_iload_n C.1 C.2.1 dX11_channel_110 rfl (lv_at hl_6 2 rfl) ?_
            obtain ⟨hi, h_21⟩ := ix_some h_9
            refine cl_aald C G t_20 (by decide) (by decide) rfl hi dX11_channel_111 (fun t_22 => ?_)
            refine vt_r (K := 25) t_22 h_21 (fun r_23 t_24 h_25 => ?_)
            refine lv_aload_n C.1 C.2.1 dX11_channel_112 rfl (lv_at hl_6 1 rfl) ?_
            refine cg_11_47 C G ha dX11_channel_113 (fun t_26 => ?_)
            have t_26 : (T 31).1 = 26 := by rw [t_26]
            refine cg_11_62 C G t_26 dX11_channel_116 (fun t_27 => ?_)
            refine vt_r (K := 25) t_27 h_25 (fun r_28 t_29 h_30 => ?_)
            refine cl_acmp_ne (rx := r_23) (ry := r_28) (tgt := 126) C.1 C.2.1 dX11_channel_119 (by decide) (fun hc => ?_) (fun hc => ?_)
            · rw [if_neg hc] at h_30
              refine lv_iconst (v := (1:Int32)) C.1 C.2.1 dX11_channel_126 (by decide) ?_
              exact cl_iret ⟨rfl, rfl⟩ rfl C G h_30 dX11_channel_127
            · rw [if_pos hc] at h_30
              refine lv_iconst (v := (0:Int32)) C.1 C.2.1 dX11_channel_122 (by decide) ?_
              refine lv_goto (tgt := 127) C.1 C.2.1 dX11_channel_123 (by decide) ?_
              exact cl_iret ⟨rfl, rfl⟩ rfl C G h_30 dX11_channel_127
          rw [if_neg hk4] at h_9
          refine lv_tableOut (tgt := 128) C.1 C.2.1 dX11_channel_36 ?_ (by decide) ?_
          · rcases Int.lt_or_le x2.toInt 0 with q | q
            · exact Or.inl q
            · rcases Int.lt_or_le 4 x2.toInt with q2 | q2
              · exact Or.inr q2
              · exfalso
                have hd : x2.toInt = (0 : Int) ∨ x2.toInt = (1 : Int) ∨ x2.toInt = (2 : Int) ∨ x2.toInt = (3 : Int) ∨ x2.toInt = (4 : Int) := by omega
                rcases hd with e | e | e | e | e
                · exact hk0 (Int32.toInt_inj.mp (e.trans (by decide)))
                · exact hk1 (Int32.toInt_inj.mp (e.trans (by decide)))
                · exact hk2 (Int32.toInt_inj.mp (e.trans (by decide)))
                · exact hk3 (Int32.toInt_inj.mp (e.trans (by decide)))
                · exact hk4 (Int32.toInt_inj.mp (e.trans (by decide)))
          · refine lv_aload_n C.1 C.2.1 dX11_channel_128 rfl (lv_at hl_6 1 rfl) ?_
            refine cg_11_81 C G ha dX11_channel_129 (fun t_31 => ?_)
            have t_31 : (T 47).1 = 21 := by rw [t_31]
            refine cg_11_311 C G t_31 dX11_channel_132 (fun t_32 => ?_)
            refine lv_iload_n C.1 C.2.1 dX11_channel_135 rfl (lv_at hl_6 2 rfl) ?_
            obtain ⟨hi, h_33⟩ := ix_some h_9
            refine cl_aald C G t_32 (by decide) (by decide) rfl hi dX11_channel_136 (fun t_34 => ?_)
            refine vt_r (K := 1) t_34 h_33 (fun r_35 t_36 h_37 => ?_)
            refine lv_iload_n C.1 C.2.1 dX11_channel_137 rfl (lv_at hl_6 3 rfl) ?_
            refine lv_iconst (v := (5:Int32)) C.1 C.2.1 dX11_channel_138 (by decide) ?_
            refine lv_isub C.1 C.2.1 dX11_channel_139 ?_
            obtain ⟨a_38, rfl, h_40⟩ := nn_some h_37
            have t_39 := t_36 _ rfl
            have t_41 : T a_38 = (1, (σ.2.2.2.1 a_38).2) := by rw [G.1]; exact Prod.ext t_39 rfl
            obtain ⟨hi, h_42⟩ := ix_some h_40
            refine cl_iald C G t_41 hi dX11_channel_140 ?_
            exact cl_iret ⟨rfl, rfl⟩ rfl C G h_42 dX11_channel_141
        · rw [if_neg hc] at h_9
          refine lv_bipush (v := (-2:Int32)) C.1 C.2.1 dX11_channel_32 (by decide) ?_
          exact cl_iret ⟨rfl, rfl⟩ rfl C G h_9 dX11_channel_34
    · rw [if_neg hc] at h_9
      refine lv_iconst (v := (-1:Int32)) C.1 C.2.1 dX11_channel_20 (by decide) ?_
      exact cl_iret ⟨rfl, rfl⟩ rfl C G h_9 dX11_channel_21
noncomputable def fc_X11_channel (a : Nat) (x1 : Int32) (x2 : Int32) (σ : cl_S) : Option (Int32 × cl_S) := bc_X11_channel_0 a x1 x2 σ
theorem kc_X11_channel (l : Launch) (D : cl_D) (c0 : Nat) {r : Int32} {a : Nat} {x1 : Int32} {x2 : Int32} {σ σ' : cl_S} (ha : (σ.2.2.2.1 a).1 = 27) (h : fc_X11_channel a x1 x2 σ = some (r, σ')) : cl_Met true l D c0 yX11_channel cX11_channel 4 (some .int) 0 0 [.ref (c0 + a), .int x1, .int x2] σ (some (.int r)) cl_no σ' :=
  cl_of (by decide) (Nat.le_of_ble_eq_true rfl) (fun p e s m args below meth c ls C hn G hl => wc_X11_channel_0 C h G ha hl)
abbrev cX11_block : ByteArray := prog_1_method_24_code
def yX11_block : MethodName := ⟨RX11, "block", "(II)I"⟩
theorem dX11_block_0 : decode cX11_block 0 = .ok (.iload_n 1, 1) := by decide +kernel
theorem dX11_block_1 : decode cX11_block 1 = .ok (.ifCond .lt 9, 3) := by decide +kernel
theorem dX11_block_4 : decode cX11_block 4 = .ok (.iload_n 1, 1) := by decide +kernel
theorem dX11_block_5 : decode cX11_block 5 = .ok (.bipush 64, 2) := by decide +kernel
theorem dX11_block_7 : decode cX11_block 7 = .ok (.if_icmp .lt 5, 3) := by decide +kernel
theorem dX11_block_10 : decode cX11_block 10 = .ok (.iconst (-1), 1) := by decide +kernel
theorem dX11_block_11 : decode cX11_block 11 = .ok (.ireturn, 1) := by decide +kernel
theorem dX11_block_12 : decode cX11_block 12 = .ok (.iload_n 2, 1) := by decide +kernel
theorem dX11_block_13 : decode cX11_block 13 = .ok (.ifCond .lt 8, 3) := by decide +kernel
theorem dX11_block_16 : decode cX11_block 16 = .ok (.iload_n 2, 1) := by decide +kernel
theorem dX11_block_17 : decode cX11_block 17 = .ok (.iconst 1, 1) := by decide +kernel
theorem dX11_block_18 : decode cX11_block 18 = .ok (.if_icmp .le 6, 3) := by decide +kernel
theorem dX11_block_21 : decode cX11_block 21 = .ok (.bipush (-2), 2) := by decide +kernel
theorem dX11_block_23 : decode cX11_block 23 = .ok (.ireturn, 1) := by decide +kernel
theorem dX11_block_24 : decode cX11_block 24 = .ok (.iload_n 2, 1) := by decide +kernel
theorem dX11_block_25 : decode cX11_block 25 = .ok (.ifCond .eq 22, 3) := by decide +kernel
theorem dX11_block_28 : decode cX11_block 28 = .ok (.aload_n 0, 1) := by decide +kernel
theorem dX11_block_29 : decode cX11_block 29 = .ok (.getfield 69, 3) := by decide +kernel
theorem dX11_block_32 : decode cX11_block 32 = .ok (.getfield 314, 3) := by decide +kernel
theorem dX11_block_35 : decode cX11_block 35 = .ok (.iload_n 1, 1) := by decide +kernel
theorem dX11_block_36 : decode cX11_block 36 = .ok (.aaload, 1) := by decide +kernel
theorem dX11_block_37 : decode cX11_block 37 = .ok (.aload_n 0, 1) := by decide +kernel
theorem dX11_block_38 : decode cX11_block 38 = .ok (.getfield 47, 3) := by decide +kernel
theorem dX11_block_41 : decode cX11_block 41 = .ok (.getfield 62, 3) := by decide +kernel
theorem dX11_block_44 : decode cX11_block 44 = .ok (.if_acmp .ne 13, 3) := by decide +kernel
theorem dX11_block_47 : decode cX11_block 47 = .ok (.aload_n 0, 1) := by decide +kernel
theorem dX11_block_48 : decode cX11_block 48 = .ok (.getfield 69, 3) := by decide +kernel
theorem dX11_block_51 : decode cX11_block 51 = .ok (.getfield 317, 3) := by decide +kernel
theorem dX11_block_54 : decode cX11_block 54 = .ok (.iload_n 1, 1) := by decide +kernel
theorem dX11_block_55 : decode cX11_block 55 = .ok (.iaload, 1) := by decide +kernel
theorem dX11_block_56 : decode cX11_block 56 = .ok (.ireturn, 1) := by decide +kernel
theorem dX11_block_57 : decode cX11_block 57 = .ok (.aload_n 0, 1) := by decide +kernel
theorem dX11_block_58 : decode cX11_block 58 = .ok (.getfield 56, 3) := by decide +kernel
theorem dX11_block_61 : decode cX11_block 61 = .ok (.aload_n 0, 1) := by decide +kernel
theorem dX11_block_62 : decode cX11_block 62 = .ok (.getfield 69, 3) := by decide +kernel
theorem dX11_block_65 : decode cX11_block 65 = .ok (.getfield 314, 3) := by decide +kernel
theorem dX11_block_68 : decode cX11_block 68 = .ok (.iload_n 1, 1) := by decide +kernel
theorem dX11_block_69 : decode cX11_block 69 = .ok (.aaload, 1) := by decide +kernel
theorem dX11_block_70 : decode cX11_block 70 = .ok (.invokevirtual 251, 3) := by decide +kernel
theorem dX11_block_73 : decode cX11_block 73 = .ok (.ireturn, 1) := by decide +kernel
theorem cc_X11_block : Cond.code yX11_block cX11_block 3 (some .int) ∈ rf_tb := rf_at 1380 (by decide +kernel) (by decide +kernel)
noncomputable def bc_X11_block_47 (a : Nat) (x1 : Int32) (σ : cl_S) : Option (Int32 × cl_S) := ix x1 64 (some ((σ.1 (41 + 1) x1.toNatClampNeg), σ))
set_option maxHeartbeats 4000000 in
theorem wc_X11_block_47 (C : cl_C D p s m args meth c cX11_block 3 (some .int) RX11) {r : Int32} {a : Nat} {x1 : Int32} {σ0 σ σ' : cl_S} {T : Nat → Nat × Nat} {H : Heap} {locs : List Loc} {ls : Array Slot} {cells slots : Nat} (h : bc_X11_block_47 a x1 σ = some (r, σ')) (G : cl_G true D c0 ({ frames := 2, cells := σ0.2.2.2.2.2.1, slots := σ0.2.2.2.2.2.2, locals := 45 }) s σ0.2.2.2.1 T σ H locs cells slots) (ha : (T a).1 = 27) (hl : lv_has ls 3 [(0, .ref (c0 + a)), (1, .int x1)]) : W p l e ({ frames := 2, cells := σ0.2.2.2.2.2.1, slots := σ0.2.2.2.2.2.2, locals := 45 }) s m args below meth c H locs cells slots (MQ below (cl_Q true D c0 (some (.int r)) cl_no σ0 σ') args s (σ0.2.2.2.2.2.1 - σ'.2.2.2.2.2.1) (σ0.2.2.2.2.2.2 - σ'.2.2.2.2.2.2) (cl_A c0 σ0.2.2.2.1 s.heap.size)) (F0 m 47 ls []) := by
  unfold bc_X11_block_47 at h
  refine lv_aload_n C.1 C.2.1 dX11_block_47 rfl (lv_at hl 0 rfl) ?_
  refine cg_11_69 C G ha dX11_block_48 (fun t_1 => ?_)
  have t_1 : (T 41).1 = 19 := by rw [t_1]
  refine cg_11_317 C G t_1 dX11_block_51 (fun t_2 => ?_)
  refine lv_iload_n C.1 C.2.1 dX11_block_54 rfl (lv_at hl 1 rfl) ?_
  obtain ⟨hi, h_3⟩ := ix_some h
  refine cl_iald C G t_2 hi dX11_block_55 ?_
  exact cl_iret ⟨rfl, rfl⟩ rfl C G h_3 dX11_block_56
noncomputable def bc_X11_block_0 (a : Nat) (x1 : Int32) (x2 : Int32) (σ : cl_S) : Option (Int32 × cl_S) := (if x1 < 0 then some ((-1:Int32), σ) else (if x1 < (64:Int32) then (if x2 < 0 then some ((-2:Int32), σ) else (if x2 ≤ (1:Int32) then (if x2 = 0 then bc_X11_block_47 a x1 σ else ix x1 64 (vl (σ.2.2.1 (41 + 2) x1.toNatClampNeg) (fun r_8 => vl (σ.2.2.1 31 4) (fun r_13 => (if r_8 = r_13 then bc_X11_block_47 a x1 σ else ix x1 64 (vl (σ.2.2.1 (41 + 2) x1.toNatClampNeg) (fun r_21 => bd2 (fc_X8_comeIn 38 r_21 σ) (fun r_25 σ_24 => some (r_25, σ_24))))))))) else some ((-2:Int32), σ))) else some ((-1:Int32), σ)))
set_option maxHeartbeats 4000000 in
theorem wc_X11_block_0 (C : cl_C D p s m args meth c cX11_block 3 (some .int) RX11) {r : Int32} {a : Nat} {x1 : Int32} {x2 : Int32} {σ0 σ σ' : cl_S} {T : Nat → Nat × Nat} {H : Heap} {locs : List Loc} {ls : Array Slot} {cells slots : Nat} (h : bc_X11_block_0 a x1 x2 σ = some (r, σ')) (G : cl_G true D c0 ({ frames := 2, cells := σ0.2.2.2.2.2.1, slots := σ0.2.2.2.2.2.2, locals := 45 }) s σ0.2.2.2.1 T σ H locs cells slots) (ha : (T a).1 = 27) (hl : lv_has ls 3 [(0, .ref (c0 + a)), (1, .int x1), (2, .int x2)]) : W p l e ({ frames := 2, cells := σ0.2.2.2.2.2.1, slots := σ0.2.2.2.2.2.2, locals := 45 }) s m args below meth c H locs cells slots (MQ below (cl_Q true D c0 (some (.int r)) cl_no σ0 σ') args s (σ0.2.2.2.2.2.1 - σ'.2.2.2.2.2.1) (σ0.2.2.2.2.2.2 - σ'.2.2.2.2.2.2) (cl_A c0 σ0.2.2.2.1 s.heap.size)) (F0 m 0 ls []) := by
  unfold bc_X11_block_0 at h
  refine lv_iload_n C.1 C.2.1 dX11_block_0 rfl (lv_at hl 1 rfl) ?_
  refine lv_if_lt (tgt := 10) C.1 C.2.1 dX11_block_1 (by decide) (fun hc => ?_) (fun hc => ?_)
  · rw [if_pos hc] at h
    refine lv_iconst (v := (-1:Int32)) C.1 C.2.1 dX11_block_10 (by decide) ?_
    exact cl_iret ⟨rfl, rfl⟩ rfl C G h dX11_block_11
  · rw [if_neg hc] at h
    refine lv_iload_n C.1 C.2.1 dX11_block_4 rfl (lv_at hl 1 rfl) ?_
    refine lv_bipush (v := (64:Int32)) C.1 C.2.1 dX11_block_5 (by decide) ?_
    refine lv_icmp_lt (tgt := 12) C.1 C.2.1 dX11_block_7 (by decide) (fun hc => ?_) (fun hc => ?_)
    · rw [if_pos hc] at h
      refine lv_iload_n C.1 C.2.1 dX11_block_12 rfl (lv_at hl 2 rfl) ?_
      refine lv_if_lt (tgt := 21) C.1 C.2.1 dX11_block_13 (by decide) (fun hc => ?_) (fun hc => ?_)
      · rw [if_pos hc] at h
        refine lv_bipush (v := (-2:Int32)) C.1 C.2.1 dX11_block_21 (by decide) ?_
        exact cl_iret ⟨rfl, rfl⟩ rfl C G h dX11_block_23
      · rw [if_neg hc] at h
        refine lv_iload_n C.1 C.2.1 dX11_block_16 rfl (lv_at hl 2 rfl) ?_
        refine lv_iconst (v := (1:Int32)) C.1 C.2.1 dX11_block_17 (by decide) ?_
        refine lv_icmp_le (tgt := 24) C.1 C.2.1 dX11_block_18 (by decide) (fun hc => ?_) (fun hc => ?_)
        · rw [if_pos hc] at h
          refine lv_iload_n C.1 C.2.1 dX11_block_24 rfl (lv_at hl 2 rfl) ?_
          refine lv_if_eq (tgt := 47) C.1 C.2.1 dX11_block_25 (by decide) (fun hc => ?_) (fun hc => ?_)
          · rw [if_pos hc] at h
            exact wc_X11_block_47 C h G ha (lv_sub hl [0, 1] rfl)
          · rw [if_neg hc] at h
            refine lv_aload_n C.1 C.2.1 dX11_block_28 rfl (lv_at hl 0 rfl) ?_
            refine cg_11_69 C G ha dX11_block_29 (fun t_4 => ?_)
            have t_4 : (T 41).1 = 19 := by rw [t_4]
            refine cg_11_314 C G t_4 dX11_block_32 (fun t_5 => ?_)
            refine lv_iload_n C.1 C.2.1 dX11_block_35 rfl (lv_at hl 1 rfl) ?_
            obtain ⟨hi, h_6⟩ := ix_some h
            refine cl_aald C G t_5 (by decide) (by decide) rfl hi dX11_block_36 (fun t_7 => ?_)
            refine vt_r (K := 25) t_7 h_6 (fun r_8 t_9 h_10 => ?_)
            refine lv_aload_n C.1 C.2.1 dX11_block_37 rfl (lv_at hl 0 rfl) ?_
            refine cg_11_47 C G ha dX11_block_38 (fun t_11 => ?_)
            have t_11 : (T 31).1 = 26 := by rw [t_11]
            refine cg_11_62 C G t_11 dX11_block_41 (fun t_12 => ?_)
            refine vt_r (K := 25) t_12 h_10 (fun r_13 t_14 h_15 => ?_)
            refine cl_acmp_ne (rx := r_8) (ry := r_13) (tgt := 57) C.1 C.2.1 dX11_block_44 (by decide) (fun hc => ?_) (fun hc => ?_)
            · rw [if_neg hc] at h_15
              refine lv_aload_n C.1 C.2.1 dX11_block_57 rfl (lv_at hl 0 rfl) ?_
              refine cg_11_56 C G ha dX11_block_58 (fun t_16 => ?_)
              have t_16 : (T 38).1 = 24 := by rw [t_16]
              refine lv_aload_n C.1 C.2.1 dX11_block_61 rfl (lv_at hl 0 rfl) ?_
              refine cg_11_69 C G ha dX11_block_62 (fun t_17 => ?_)
              have t_17 : (T 41).1 = 19 := by rw [t_17]
              refine cg_11_314 C G t_17 dX11_block_65 (fun t_18 => ?_)
              refine lv_iload_n C.1 C.2.1 dX11_block_68 rfl (lv_at hl 1 rfl) ?_
              obtain ⟨hi, h_19⟩ := ix_some h_15
              refine cl_aald C G t_18 (by decide) (by decide) rfl hi dX11_block_69 (fun t_20 => ?_)
              refine vt_r (K := 25) t_20 h_19 (fun r_21 t_22 h_23 => ?_)
              obtain ⟨r_25, σ_24, hq, h_26⟩ := bd2_some h_23
              refine cl_callV (ci := 8) (rest := []) C G rfl t_16 cw_RX11_251 [cl_rf c0 r_21] _ (kc_X8_comeIn l D c0 (by rw [G.1]; exact t_16) hq (by rw [G.1]; exact t_22)) (Nat.le_of_ble_eq_true rfl) (Nat.le_of_ble_eq_true rfl) rfl rfl hl.1 (Nat.le_of_ble_eq_true rfl) dX11_block_70 (fun T_27 H locs cells slots t_28 hu G_29 => ?_)
              have ha := hu.kind ha (by decide)
              refine W.eq (g2 := F0 m 73 ls [.int r_25]) rfl ?_
              exact cl_iret ⟨rfl, rfl⟩ rfl C G_29 h_26 dX11_block_73
            · rw [if_pos hc] at h_15
              exact wc_X11_block_47 C h_15 G ha (lv_sub hl [0, 1] rfl)
        · rw [if_neg hc] at h
          refine lv_bipush (v := (-2:Int32)) C.1 C.2.1 dX11_block_21 (by decide) ?_
          exact cl_iret ⟨rfl, rfl⟩ rfl C G h dX11_block_23
    · rw [if_neg hc] at h
      refine lv_iconst (v := (-1:Int32)) C.1 C.2.1 dX11_block_10 (by decide) ?_
      exact cl_iret ⟨rfl, rfl⟩ rfl C G h dX11_block_11
noncomputable def fc_X11_block (a : Nat) (x1 : Int32) (x2 : Int32) (σ : cl_S) : Option (Int32 × cl_S) := bc_X11_block_0 a x1 x2 σ
theorem kc_X11_block (l : Launch) (D : cl_D) (c0 : Nat) {r : Int32} {a : Nat} {x1 : Int32} {x2 : Int32} {σ σ' : cl_S} (ha : (σ.2.2.2.1 a).1 = 27) (h : fc_X11_block a x1 x2 σ = some (r, σ')) : cl_Met true l D c0 yX11_block cX11_block 3 (some .int) 2 45 [.ref (c0 + a), .int x1, .int x2] σ (some (.int r)) cl_no σ' :=
  cl_of (by decide) (Nat.le_of_ble_eq_true rfl) (fun p e s m args below meth c ls C hn G hl => wc_X11_block_0 C h G ha hl)
abbrev cX11_put : ByteArray := prog_1_method_25_code
def yX11_put : MethodName := ⟨RX11, "put", "(III)I"⟩
theorem dX11_put_0 : decode cX11_put 0 = .ok (.iload_n 1, 1) := by decide +kernel
theorem dX11_put_1 : decode cX11_put 1 = .ok (.ifCond .lt 24, 3) := by decide +kernel
theorem dX11_put_4 : decode cX11_put 4 = .ok (.iload_n 1, 1) := by decide +kernel
theorem dX11_put_5 : decode cX11_put 5 = .ok (.bipush 64, 2) := by decide +kernel
theorem dX11_put_7 : decode cX11_put 7 = .ok (.if_icmp .ge 18, 3) := by decide +kernel
theorem dX11_put_10 : decode cX11_put 10 = .ok (.iload_n 3, 1) := by decide +kernel
theorem dX11_put_11 : decode cX11_put 11 = .ok (.ifCond .eq 16, 3) := by decide +kernel
theorem dX11_put_14 : decode cX11_put 14 = .ok (.aload_n 0, 1) := by decide +kernel
theorem dX11_put_15 : decode cX11_put 15 = .ok (.getfield 56, 3) := by decide +kernel
theorem dX11_put_18 : decode cX11_put 18 = .ok (.iload_n 3, 1) := by decide +kernel
theorem dX11_put_19 : decode cX11_put 19 = .ok (.invokevirtual 230, 3) := by decide +kernel
theorem dX11_put_22 : decode cX11_put 22 = .ok (.ifCond .ne 5, 3) := by decide +kernel
theorem dX11_put_25 : decode cX11_put 25 = .ok (.iconst (-1), 1) := by decide +kernel
theorem dX11_put_26 : decode cX11_put 26 = .ok (.ireturn, 1) := by decide +kernel
theorem dX11_put_27 : decode cX11_put 27 = .ok (.iload_n 3, 1) := by decide +kernel
theorem dX11_put_28 : decode cX11_put 28 = .ok (.ifCond .eq 11, 3) := by decide +kernel
theorem dX11_put_31 : decode cX11_put 31 = .ok (.iload_n 2, 1) := by decide +kernel
theorem dX11_put_32 : decode cX11_put 32 = .ok (.iconst 1, 1) := by decide +kernel
theorem dX11_put_33 : decode cX11_put 33 = .ok (.if_icmp .ge 6, 3) := by decide +kernel
theorem dX11_put_36 : decode cX11_put 36 = .ok (.bipush (-2), 2) := by decide +kernel
theorem dX11_put_38 : decode cX11_put 38 = .ok (.ireturn, 1) := by decide +kernel
theorem dX11_put_39 : decode cX11_put 39 = .ok (.aload_n 0, 1) := by decide +kernel
theorem dX11_put_40 : decode cX11_put 40 = .ok (.getfield 81, 3) := by decide +kernel
theorem dX11_put_43 : decode cX11_put 43 = .ok (.getfield 137, 3) := by decide +kernel
theorem dX11_put_46 : decode cX11_put 46 = .ok (.ifCond .eq 6, 3) := by decide +kernel
theorem dX11_put_49 : decode cX11_put 49 = .ok (.bipush (-3), 2) := by decide +kernel
theorem dX11_put_51 : decode cX11_put 51 = .ok (.ireturn, 1) := by decide +kernel
theorem dX11_put_52 : decode cX11_put 52 = .ok (.iload_n 3, 1) := by decide +kernel
theorem dX11_put_53 : decode cX11_put 53 = .ok (.ifCond .ne 14, 3) := by decide +kernel
theorem dX11_put_56 : decode cX11_put 56 = .ok (.aload_n 0, 1) := by decide +kernel
theorem dX11_put_57 : decode cX11_put 57 = .ok (.getfield 69, 3) := by decide +kernel
theorem dX11_put_60 : decode cX11_put 60 = .ok (.iload_n 1, 1) := by decide +kernel
theorem dX11_put_61 : decode cX11_put 61 = .ok (.invokevirtual 320, 3) := by decide +kernel
theorem dX11_put_64 : decode cX11_put 64 = .ok (.goto 20, 3) := by decide +kernel
theorem dX11_put_67 : decode cX11_put 67 = .ok (.aload_n 0, 1) := by decide +kernel
theorem dX11_put_68 : decode cX11_put 68 = .ok (.getfield 69, 3) := by decide +kernel
theorem dX11_put_71 : decode cX11_put 71 = .ok (.iload_n 1, 1) := by decide +kernel
theorem dX11_put_72 : decode cX11_put 72 = .ok (.iload_n 2, 1) := by decide +kernel
theorem dX11_put_73 : decode cX11_put 73 = .ok (.aload_n 0, 1) := by decide +kernel
theorem dX11_put_74 : decode cX11_put 74 = .ok (.getfield 56, 3) := by decide +kernel
theorem dX11_put_77 : decode cX11_put 77 = .ok (.iload_n 3, 1) := by decide +kernel
theorem dX11_put_78 : decode cX11_put 78 = .ok (.invokevirtual 233, 3) := by decide +kernel
theorem dX11_put_81 : decode cX11_put 81 = .ok (.invokevirtual 324, 3) := by decide +kernel
theorem dX11_put_84 : decode cX11_put 84 = .ok (.iconst 0, 1) := by decide +kernel
theorem dX11_put_85 : decode cX11_put 85 = .ok (.ireturn, 1) := by decide +kernel
theorem cc_X11_put : Cond.code yX11_put cX11_put 4 (some .int) ∈ rf_tb := rf_at 1384 (by decide +kernel) (by decide +kernel)
theorem cw_RX11_320 : cl_wV RX11 RX3 yX3_empty cX3_empty 2 none 320 1 := ⟨⟨rf_at 1385 (by decide +kernel) (by decide +kernel), rf_at 1308 (by decide +kernel) (by decide +kernel), rf_at 1309 (by decide +kernel) (by decide +kernel), cc_X3_empty, rf_at 12 (by decide +kernel) (by decide +kernel)⟩, ⟨by decide, by decide, by decide +kernel⟩⟩
theorem cw_RX11_324 : cl_wV RX11 RX3 yX3_fill cX3_fill 4 none 324 3 := ⟨⟨rf_at 1386 (by decide +kernel) (by decide +kernel), rf_at 1312 (by decide +kernel) (by decide +kernel), rf_at 1313 (by decide +kernel) (by decide +kernel), cc_X3_fill, rf_at 12 (by decide +kernel) (by decide +kernel)⟩, ⟨by decide, by decide, by decide +kernel⟩⟩
noncomputable def bc_X11_put_39 (a : Nat) (x1 : Int32) (x2 : Int32) (x3 : Int32) (σ : cl_S) : Option (Int32 × cl_S) := (if (σ.1 47 8) = 0 then (if x3 = 0 then bd1 (fc_X3_empty 41 x1 σ) (fun σ_16 => some ((0:Int32), σ_16)) else bd2 (fc_X8_at 38 x3 σ) (fun r_5 σ_4 => bd1 (fc_X3_fill 41 x1 x2 r_5 σ_4) (fun σ_10 => some ((0:Int32), σ_10)))) else some ((-3:Int32), σ))
set_option maxHeartbeats 4000000 in
theorem wc_X11_put_39 (C : cl_C D p s m args meth c cX11_put 4 (some .int) RX11) {r : Int32} {a : Nat} {x1 : Int32} {x2 : Int32} {x3 : Int32} {σ0 σ σ' : cl_S} {T : Nat → Nat × Nat} {H : Heap} {locs : List Loc} {ls : Array Slot} {cells slots : Nat} (h : bc_X11_put_39 a x1 x2 x3 σ = some (r, σ')) (G : cl_G true D c0 ({ frames := 2, cells := σ0.2.2.2.2.2.1, slots := σ0.2.2.2.2.2.2, locals := 44 }) s σ0.2.2.2.1 T σ H locs cells slots) (ha : (T a).1 = 27) (hl : lv_has ls 4 [(0, .ref (c0 + a)), (1, .int x1), (2, .int x2), (3, .int x3)]) : W p l e ({ frames := 2, cells := σ0.2.2.2.2.2.1, slots := σ0.2.2.2.2.2.2, locals := 44 }) s m args below meth c H locs cells slots (MQ below (cl_Q true D c0 (some (.int r)) cl_no σ0 σ') args s (σ0.2.2.2.2.2.1 - σ'.2.2.2.2.2.1) (σ0.2.2.2.2.2.2 - σ'.2.2.2.2.2.2) (cl_A c0 σ0.2.2.2.1 s.heap.size)) (F0 m 39 ls []) := by
  unfold bc_X11_put_39 at h
  refine lv_aload_n C.1 C.2.1 dX11_put_39 rfl (lv_at hl 0 rfl) ?_
  refine cg_11_81 C G ha dX11_put_40 (fun t_1 => ?_)
  have t_1 : (T 47).1 = 21 := by rw [t_1]
  refine cg_11_137 C G t_1 dX11_put_43 ?_
  refine lv_if_eq (tgt := 52) C.1 C.2.1 dX11_put_46 (by decide) (fun hc => ?_) (fun hc => ?_)
  · rw [if_pos hc] at h
    refine lv_iload_n C.1 C.2.1 dX11_put_52 rfl (lv_at hl 3 rfl) ?_
    refine lv_if_ne (tgt := 67) C.1 C.2.1 dX11_put_53 (by decide) (fun hc => ?_) (fun hc => ?_)
    · rw [if_neg hc] at h
      refine lv_aload_n C.1 C.2.1 dX11_put_67 rfl (lv_at hl 0 rfl) ?_
      refine cg_11_69 C G ha dX11_put_68 (fun t_2 => ?_)
      have t_2 : (T 41).1 = 19 := by rw [t_2]
      refine lv_iload_n C.1 C.2.1 dX11_put_71 rfl (lv_at hl 1 rfl) ?_
      refine lv_iload_n C.1 C.2.1 dX11_put_72 rfl (lv_at hl 2 rfl) ?_
      refine lv_aload_n C.1 C.2.1 dX11_put_73 rfl (lv_at hl 0 rfl) ?_
      refine cg_11_56 C G ha dX11_put_74 (fun t_3 => ?_)
      have t_3 : (T 38).1 = 24 := by rw [t_3]
      refine lv_iload_n C.1 C.2.1 dX11_put_77 rfl (lv_at hl 3 rfl) ?_
      obtain ⟨r_5, σ_4, hq, h_6⟩ := bd2_some h
      refine cl_callV (ci := 8) (rest := [.int x2, .int x1, .ref (c0 + 41)]) C G rfl t_3 cw_RX11_233 [.int x3] _ (kc_X8_at l D c0 (by rw [G.1]; exact t_3) hq) (Nat.le_of_ble_eq_true rfl) (Nat.le_of_ble_eq_true rfl) rfl rfl hl.1 (Nat.le_of_ble_eq_true rfl) dX11_put_78 (fun T_7 H locs cells slots t_8 hu G_9 => ?_)
      have ha := hu.kind ha (by decide)
      have t_2 := hu.kind t_2 (by decide)
      refine W.eq (g2 := F0 m 81 ls [cl_rf c0 r_5, .int x2, .int x1, .ref (c0 + 41)]) rfl ?_
      obtain ⟨σ_10, hq, h_11⟩ := bd1_some h_6
      refine cl_callV (ci := 3) (rest := []) C G_9 rfl t_2 cw_RX11_324 [.int x1, .int x2, cl_rf c0 r_5] _ (kc_X3_fill l D c0 (by rw [G_9.1]; exact t_2) hq (by rw [G_9.1]; exact t_8)) (Nat.le_of_ble_eq_true rfl) (Nat.le_of_ble_eq_true rfl) rfl rfl hl.1 (Nat.le_of_ble_eq_true rfl) dX11_put_81 (fun T_12 H locs cells slots t_13 hu G_14 => ?_)
      have ha := hu.kind ha (by decide)
      refine W.eq (g2 := F0 m 84 ls []) rfl ?_
      refine lv_iconst (v := (0:Int32)) C.1 C.2.1 dX11_put_84 (by decide) ?_
      exact cl_iret ⟨rfl, rfl⟩ rfl C G_14 h_11 dX11_put_85
    · rw [if_pos hc] at h
      refine lv_aload_n C.1 C.2.1 dX11_put_56 rfl (lv_at hl 0 rfl) ?_
      refine cg_11_69 C G ha dX11_put_57 (fun t_15 => ?_)
      have t_15 : (T 41).1 = 19 := by rw [t_15]
      refine lv_iload_n C.1 C.2.1 dX11_put_60 rfl (lv_at hl 1 rfl) ?_
      obtain ⟨σ_16, hq, h_17⟩ := bd1_some h
      refine cl_callV (ci := 3) (rest := []) C G rfl t_15 cw_RX11_320 [.int x1] _ (kc_X3_empty l D c0 (by rw [G.1]; exact t_15) hq) (Nat.le_of_ble_eq_true rfl) (Nat.le_of_ble_eq_true rfl) rfl rfl hl.1 (Nat.le_of_ble_eq_true rfl) dX11_put_61 (fun T_18 H locs cells slots t_19 hu G_20 => ?_)
      have ha := hu.kind ha (by decide)
      refine W.eq (g2 := F0 m 64 ls []) rfl ?_
      refine lv_goto (tgt := 84) C.1 C.2.1 dX11_put_64 (by decide) ?_
      refine lv_iconst (v := (0:Int32)) C.1 C.2.1 dX11_put_84 (by decide) ?_
      exact cl_iret ⟨rfl, rfl⟩ rfl C G_20 h_17 dX11_put_85
  · rw [if_neg hc] at h
    refine lv_bipush (v := (-3:Int32)) C.1 C.2.1 dX11_put_49 (by decide) ?_
    exact cl_iret ⟨rfl, rfl⟩ rfl C G h dX11_put_51
noncomputable def bc_X11_put_27 (a : Nat) (x1 : Int32) (x2 : Int32) (x3 : Int32) (σ : cl_S) : Option (Int32 × cl_S) := (if x3 = 0 then bc_X11_put_39 a x1 x2 x3 σ else (if (1:Int32) ≤ x2 then bc_X11_put_39 a x1 x2 x3 σ else some ((-2:Int32), σ)))
set_option maxHeartbeats 4000000 in
theorem wc_X11_put_27 (C : cl_C D p s m args meth c cX11_put 4 (some .int) RX11) {r : Int32} {a : Nat} {x1 : Int32} {x2 : Int32} {x3 : Int32} {σ0 σ σ' : cl_S} {T : Nat → Nat × Nat} {H : Heap} {locs : List Loc} {ls : Array Slot} {cells slots : Nat} (h : bc_X11_put_27 a x1 x2 x3 σ = some (r, σ')) (G : cl_G true D c0 ({ frames := 2, cells := σ0.2.2.2.2.2.1, slots := σ0.2.2.2.2.2.2, locals := 44 }) s σ0.2.2.2.1 T σ H locs cells slots) (ha : (T a).1 = 27) (hl : lv_has ls 4 [(0, .ref (c0 + a)), (1, .int x1), (2, .int x2), (3, .int x3)]) : W p l e ({ frames := 2, cells := σ0.2.2.2.2.2.1, slots := σ0.2.2.2.2.2.2, locals := 44 }) s m args below meth c H locs cells slots (MQ below (cl_Q true D c0 (some (.int r)) cl_no σ0 σ') args s (σ0.2.2.2.2.2.1 - σ'.2.2.2.2.2.1) (σ0.2.2.2.2.2.2 - σ'.2.2.2.2.2.2) (cl_A c0 σ0.2.2.2.1 s.heap.size)) (F0 m 27 ls []) := by
  unfold bc_X11_put_27 at h
  refine lv_iload_n C.1 C.2.1 dX11_put_27 rfl (lv_at hl 3 rfl) ?_
  refine lv_if_eq (tgt := 39) C.1 C.2.1 dX11_put_28 (by decide) (fun hc => ?_) (fun hc => ?_)
  · rw [if_pos hc] at h
    exact wc_X11_put_39 C h G ha (lv_sub hl [0, 1, 2, 3] rfl)
  · rw [if_neg hc] at h
    refine lv_iload_n C.1 C.2.1 dX11_put_31 rfl (lv_at hl 2 rfl) ?_
    refine lv_iconst (v := (1:Int32)) C.1 C.2.1 dX11_put_32 (by decide) ?_
    refine lv_icmp_ge (tgt := 39) C.1 C.2.1 dX11_put_33 (by decide) (fun hc => ?_) (fun hc => ?_)
    · rw [if_pos hc] at h
      exact wc_X11_put_39 C h G ha (lv_sub hl [0, 1, 2, 3] rfl)
    · rw [if_neg hc] at h
      refine lv_bipush (v := (-2:Int32)) C.1 C.2.1 dX11_put_36 (by decide) ?_
      exact cl_iret ⟨rfl, rfl⟩ rfl C G h dX11_put_38
noncomputable def bc_X11_put_0 (a : Nat) (x1 : Int32) (x2 : Int32) (x3 : Int32) (σ : cl_S) : Option (Int32 × cl_S) := (if x1 < 0 then some ((-1:Int32), σ) else (if (64:Int32) ≤ x1 then some ((-1:Int32), σ) else (if x3 = 0 then bc_X11_put_27 a x1 x2 x3 σ else bd2 (fc_X8_has 38 x3 σ) (fun r_23 σ_22 => (if r_23 = 0 then some ((-1:Int32), σ_22) else bc_X11_put_27 a x1 x2 x3 σ_22)))))
set_option maxHeartbeats 4000000 in
theorem wc_X11_put_0 (C : cl_C D p s m args meth c cX11_put 4 (some .int) RX11) {r : Int32} {a : Nat} {x1 : Int32} {x2 : Int32} {x3 : Int32} {σ0 σ σ' : cl_S} {T : Nat → Nat × Nat} {H : Heap} {locs : List Loc} {ls : Array Slot} {cells slots : Nat} (h : bc_X11_put_0 a x1 x2 x3 σ = some (r, σ')) (G : cl_G true D c0 ({ frames := 2, cells := σ0.2.2.2.2.2.1, slots := σ0.2.2.2.2.2.2, locals := 44 }) s σ0.2.2.2.1 T σ H locs cells slots) (ha : (T a).1 = 27) (hl : lv_has ls 4 [(0, .ref (c0 + a)), (1, .int x1), (2, .int x2), (3, .int x3)]) : W p l e ({ frames := 2, cells := σ0.2.2.2.2.2.1, slots := σ0.2.2.2.2.2.2, locals := 44 }) s m args below meth c H locs cells slots (MQ below (cl_Q true D c0 (some (.int r)) cl_no σ0 σ') args s (σ0.2.2.2.2.2.1 - σ'.2.2.2.2.2.1) (σ0.2.2.2.2.2.2 - σ'.2.2.2.2.2.2) (cl_A c0 σ0.2.2.2.1 s.heap.size)) (F0 m 0 ls []) := by
  unfold bc_X11_put_0 at h
  refine lv_iload_n C.1 C.2.1 dX11_put_0 rfl (lv_at hl 1 rfl) ?_
  refine lv_if_lt (tgt := 25) C.1 C.2.1 dX11_put_1 (by decide) (fun hc => ?_) (fun hc => ?_)
  · rw [if_pos hc] at h
    refine lv_iconst (v := (-1:Int32)) C.1 C.2.1 dX11_put_25 (by decide) ?_
    exact cl_iret ⟨rfl, rfl⟩ rfl C G h dX11_put_26
  · rw [if_neg hc] at h
    refine lv_iload_n C.1 C.2.1 dX11_put_4 rfl (lv_at hl 1 rfl) ?_
    refine lv_bipush (v := (64:Int32)) C.1 C.2.1 dX11_put_5 (by decide) ?_
    refine lv_icmp_ge (tgt := 25) C.1 C.2.1 dX11_put_7 (by decide) (fun hc => ?_) (fun hc => ?_)
    · rw [if_pos hc] at h
      refine lv_iconst (v := (-1:Int32)) C.1 C.2.1 dX11_put_25 (by decide) ?_
      exact cl_iret ⟨rfl, rfl⟩ rfl C G h dX11_put_26
    · rw [if_neg hc] at h
      refine lv_iload_n C.1 C.2.1 dX11_put_10 rfl (lv_at hl 3 rfl) ?_
      refine lv_if_eq (tgt := 27) C.1 C.2.1 dX11_put_11 (by decide) (fun hc => ?_) (fun hc => ?_)
      · rw [if_pos hc] at h
        exact wc_X11_put_27 C h G ha (lv_sub hl [0, 1, 2, 3] rfl)
      · rw [if_neg hc] at h
        refine lv_aload_n C.1 C.2.1 dX11_put_14 rfl (lv_at hl 0 rfl) ?_
        refine cg_11_56 C G ha dX11_put_15 (fun t_21 => ?_)
        have t_21 : (T 38).1 = 24 := by rw [t_21]
        refine lv_iload_n C.1 C.2.1 dX11_put_18 rfl (lv_at hl 3 rfl) ?_
        obtain ⟨r_23, σ_22, hq, h_24⟩ := bd2_some h
        refine cl_callV (ci := 8) (rest := []) C G rfl t_21 cw_RX11_230 [.int x3] _ (kc_X8_has l D c0 (by rw [G.1]; exact t_21) hq) (Nat.le_of_ble_eq_true rfl) (Nat.le_of_ble_eq_true rfl) rfl rfl hl.1 (Nat.le_of_ble_eq_true rfl) dX11_put_19 (fun T_25 H locs cells slots t_26 hu G_27 => ?_)
        have ha := hu.kind ha (by decide)
        refine W.eq (g2 := F0 m 22 ls [.int r_23]) rfl ?_
        refine lv_if_ne (tgt := 27) C.1 C.2.1 dX11_put_22 (by decide) (fun hc => ?_) (fun hc => ?_)
        · rw [if_neg hc] at h_24
          exact wc_X11_put_27 C h_24 G_27 ha (lv_sub hl [0, 1, 2, 3] rfl)
        · rw [if_pos hc] at h_24
          refine lv_iconst (v := (-1:Int32)) C.1 C.2.1 dX11_put_25 (by decide) ?_
          exact cl_iret ⟨rfl, rfl⟩ rfl C G_27 h_24 dX11_put_26
noncomputable def fc_X11_put (a : Nat) (x1 : Int32) (x2 : Int32) (x3 : Int32) (σ : cl_S) : Option (Int32 × cl_S) := bc_X11_put_0 a x1 x2 x3 σ
theorem kc_X11_put (l : Launch) (D : cl_D) (c0 : Nat) {r : Int32} {a : Nat} {x1 : Int32} {x2 : Int32} {x3 : Int32} {σ σ' : cl_S} (ha : (σ.2.2.2.1 a).1 = 27) (h : fc_X11_put a x1 x2 x3 σ = some (r, σ')) : cl_Met true l D c0 yX11_put cX11_put 4 (some .int) 2 44 [.ref (c0 + a), .int x1, .int x2, .int x3] σ (some (.int r)) cl_no σ' :=
  cl_of (by decide) (Nat.le_of_ble_eq_true rfl) (fun p e s m args below meth c ls C hn G hl => wc_X11_put_0 C h G ha hl)
abbrev cX11_makeOf : ByteArray := prog_1_method_27_code
def yX11_makeOf : MethodName := ⟨RX11, "makeOf", "(IIII)I"⟩
theorem dX11_makeOf_0 : decode cX11_makeOf 0 = .ok (.aload_n 0, 1) := by decide +kernel
theorem dX11_makeOf_1 : decode cX11_makeOf 1 = .ok (.getfield 56, 3) := by decide +kernel
theorem dX11_makeOf_4 : decode cX11_makeOf 4 = .ok (.iload_n 2, 1) := by decide +kernel
theorem dX11_makeOf_5 : decode cX11_makeOf 5 = .ok (.invokevirtual 230, 3) := by decide +kernel
theorem dX11_makeOf_8 : decode cX11_makeOf 8 = .ok (.ifCond .eq 26, 3) := by decide +kernel
theorem dX11_makeOf_11 : decode cX11_makeOf 11 = .ok (.aload_n 0, 1) := by decide +kernel
theorem dX11_makeOf_12 : decode cX11_makeOf 12 = .ok (.getfield 56, 3) := by decide +kernel
theorem dX11_makeOf_15 : decode cX11_makeOf 15 = .ok (.iload_n 3, 1) := by decide +kernel
theorem dX11_makeOf_16 : decode cX11_makeOf 16 = .ok (.invokevirtual 230, 3) := by decide +kernel
theorem dX11_makeOf_19 : decode cX11_makeOf 19 = .ok (.ifCond .eq 15, 3) := by decide +kernel
theorem dX11_makeOf_22 : decode cX11_makeOf 22 = .ok (.aload_n 0, 1) := by decide +kernel
theorem dX11_makeOf_23 : decode cX11_makeOf 23 = .ok (.getfield 56, 3) := by decide +kernel
theorem dX11_makeOf_26 : decode cX11_makeOf 26 = .ok (.iload 4, 2) := by decide +kernel
theorem dX11_makeOf_28 : decode cX11_makeOf 28 = .ok (.invokevirtual 230, 3) := by decide +kernel
theorem dX11_makeOf_31 : decode cX11_makeOf 31 = .ok (.ifCond .ne 5, 3) := by decide +kernel
theorem dX11_makeOf_34 : decode cX11_makeOf 34 = .ok (.iconst (-1), 1) := by decide +kernel
theorem dX11_makeOf_35 : decode cX11_makeOf 35 = .ok (.ireturn, 1) := by decide +kernel
theorem dX11_makeOf_36 : decode cX11_makeOf 36 = .ok (.iload_n 1, 1) := by decide +kernel
theorem dX11_makeOf_37 : decode cX11_makeOf 37 = .ok (.invokestatic 343, 3) := by decide +kernel
theorem dX11_makeOf_40 : decode cX11_makeOf 40 = .ok (.iconst 2, 1) := by decide +kernel
theorem dX11_makeOf_41 : decode cX11_makeOf 41 = .ok (.if_icmp .lt 14, 3) := by decide +kernel
theorem dX11_makeOf_44 : decode cX11_makeOf 44 = .ok (.aload_n 0, 1) := by decide +kernel
theorem dX11_makeOf_45 : decode cX11_makeOf 45 = .ok (.getfield 56, 3) := by decide +kernel
theorem dX11_makeOf_48 : decode cX11_makeOf 48 = .ok (.iload_n 3, 1) := by decide +kernel
theorem dX11_makeOf_49 : decode cX11_makeOf 49 = .ok (.invokevirtual 233, 3) := by decide +kernel
theorem dX11_makeOf_52 : decode cX11_makeOf 52 = .ok (.goto 10, 3) := by decide +kernel
theorem dX11_makeOf_55 : decode cX11_makeOf 55 = .ok (.aload_n 0, 1) := by decide +kernel
theorem dX11_makeOf_56 : decode cX11_makeOf 56 = .ok (.getfield 47, 3) := by decide +kernel
theorem dX11_makeOf_59 : decode cX11_makeOf 59 = .ok (.getfield 62, 3) := by decide +kernel
theorem dX11_makeOf_62 : decode cX11_makeOf 62 = .ok (.astore 5, 2) := by decide +kernel
theorem dX11_makeOf_64 : decode cX11_makeOf 64 = .ok (.iload_n 1, 1) := by decide +kernel
theorem dX11_makeOf_65 : decode cX11_makeOf 65 = .ok (.invokestatic 343, 3) := by decide +kernel
theorem dX11_makeOf_68 : decode cX11_makeOf 68 = .ok (.iconst 3, 1) := by decide +kernel
theorem dX11_makeOf_69 : decode cX11_makeOf 69 = .ok (.if_icmp .lt 15, 3) := by decide +kernel
theorem dX11_makeOf_72 : decode cX11_makeOf 72 = .ok (.aload_n 0, 1) := by decide +kernel
theorem dX11_makeOf_73 : decode cX11_makeOf 73 = .ok (.getfield 56, 3) := by decide +kernel
theorem dX11_makeOf_76 : decode cX11_makeOf 76 = .ok (.iload 4, 2) := by decide +kernel
theorem dX11_makeOf_78 : decode cX11_makeOf 78 = .ok (.invokevirtual 233, 3) := by decide +kernel
theorem dX11_makeOf_81 : decode cX11_makeOf 81 = .ok (.goto 10, 3) := by decide +kernel
theorem dX11_makeOf_84 : decode cX11_makeOf 84 = .ok (.aload_n 0, 1) := by decide +kernel
theorem dX11_makeOf_85 : decode cX11_makeOf 85 = .ok (.getfield 47, 3) := by decide +kernel
theorem dX11_makeOf_88 : decode cX11_makeOf 88 = .ok (.getfield 62, 3) := by decide +kernel
theorem dX11_makeOf_91 : decode cX11_makeOf 91 = .ok (.astore 6, 2) := by decide +kernel
theorem dX11_makeOf_93 : decode cX11_makeOf 93 = .ok (.aload_n 0, 1) := by decide +kernel
theorem dX11_makeOf_94 : decode cX11_makeOf 94 = .ok (.getfield 56, 3) := by decide +kernel
theorem dX11_makeOf_97 : decode cX11_makeOf 97 = .ok (.iload_n 1, 1) := by decide +kernel
theorem dX11_makeOf_98 : decode cX11_makeOf 98 = .ok (.iconst 0, 1) := by decide +kernel
theorem dX11_makeOf_99 : decode cX11_makeOf 99 = .ok (.aload_n 0, 1) := by decide +kernel
theorem dX11_makeOf_100 : decode cX11_makeOf 100 = .ok (.getfield 56, 3) := by decide +kernel
theorem dX11_makeOf_103 : decode cX11_makeOf 103 = .ok (.iload_n 2, 1) := by decide +kernel
theorem dX11_makeOf_104 : decode cX11_makeOf 104 = .ok (.invokevirtual 233, 3) := by decide +kernel
theorem dX11_makeOf_107 : decode cX11_makeOf 107 = .ok (.aload 5, 2) := by decide +kernel
theorem dX11_makeOf_109 : decode cX11_makeOf 109 = .ok (.aload 6, 2) := by decide +kernel
theorem dX11_makeOf_111 : decode cX11_makeOf 111 = .ok (.invokevirtual 327, 3) := by decide +kernel
theorem dX11_makeOf_114 : decode cX11_makeOf 114 = .ok (.ireturn, 1) := by decide +kernel
theorem cc_X11_makeOf : Cond.code yX11_makeOf cX11_makeOf 7 (some .int) ∈ rf_tb := rf_at 1397 (by decide +kernel) (by decide +kernel)
theorem cw_RX11_327 : cl_wV RX11 RX8 yX8_comeInMade cX8_comeInMade 7 (some .int) 327 5 := ⟨⟨rf_at 1391 (by decide +kernel) (by decide +kernel), rf_at 1237 (by decide +kernel) (by decide +kernel), rf_at 1238 (by decide +kernel) (by decide +kernel), cc_X8_comeInMade, rf_at 11 (by decide +kernel) (by decide +kernel)⟩, ⟨by decide, by decide, by decide +kernel⟩⟩
theorem cw_RX11_343 : cl_wS RX11 yX10_parts cX10_parts 1 (some .int) 343 1 := ⟨⟨rf_at 1398 (by decide +kernel) (by decide +kernel), rf_at 1248 (by decide +kernel) (by decide +kernel), cc_X10_parts, rf_at 9 (by decide +kernel) (by decide +kernel)⟩, ⟨by decide, by decide, by decide +kernel⟩⟩
noncomputable def bc_X11_makeOf_91 (a : Nat) (x1 : Int32) (x2 : Int32) (x5 : (Option Nat)) (v0 : (Option Nat)) (σ : cl_S) : Option (Int32 × cl_S) := bd2 (fc_X8_at 38 x2 σ) (fun r_49 σ_48 => bd2 (fc_X8_comeInMade 38 x1 (0:Int32) r_49 x5 v0 σ_48) (fun r_55 σ_54 => some (r_55, σ_54)))
set_option maxHeartbeats 4000000 in
theorem wc_X11_makeOf_91 (C : cl_C D p s m args meth c cX11_makeOf 7 (some .int) RX11) {r : Int32} {a : Nat} {x1 : Int32} {x2 : Int32} {x5 : (Option Nat)} {v0 : (Option Nat)} {σ0 σ σ' : cl_S} {T : Nat → Nat × Nat} {H : Heap} {locs : List Loc} {ls : Array Slot} {cells slots : Nat} (h : bc_X11_makeOf_91 a x1 x2 x5 v0 σ = some (r, σ')) (G : cl_G true D c0 ({ frames := 4, cells := σ0.2.2.2.2.2.1, slots := σ0.2.2.2.2.2.2, locals := 97 }) s σ0.2.2.2.1 T σ H locs cells slots) (ha : (T a).1 = 27) (f5 : cl_RT T x5 25) (g0 : cl_RT T v0 25) (hl : lv_has ls 7 [(0, .ref (c0 + a)), (1, .int x1), (2, .int x2), (5, cl_rf c0 x5)]) : W p l e ({ frames := 4, cells := σ0.2.2.2.2.2.1, slots := σ0.2.2.2.2.2.2, locals := 97 }) s m args below meth c H locs cells slots (MQ below (cl_Q true D c0 (some (.int r)) cl_no σ0 σ') args s (σ0.2.2.2.2.2.1 - σ'.2.2.2.2.2.1) (σ0.2.2.2.2.2.2 - σ'.2.2.2.2.2.2) (cl_A c0 σ0.2.2.2.1 s.heap.size)) (F0 m 91 ls [cl_rf c0 v0]) := by
  unfold bc_X11_makeOf_91 at h
  refine cl_astore (lv' := [(6, cl_rf c0 v0), (0, .ref (c0 + a)), (1, .int x1), (2, .int x2), (5, cl_rf c0 x5)]) C.1 C.2.1 dX11_makeOf_91 hl (by decide) (by first | rfl | (cases x5 <;> rfl)) (fun ls hl_45 => ?_)
  refine lv_aload_n C.1 C.2.1 dX11_makeOf_93 rfl (lv_at hl_45 1 rfl) ?_
  refine cg_11_56 C G ha dX11_makeOf_94 (fun t_46 => ?_)
  have t_46 : (T 38).1 = 24 := by rw [t_46]
  refine lv_iload_n C.1 C.2.1 dX11_makeOf_97 rfl (lv_at hl_45 2 rfl) ?_
  refine lv_iconst (v := (0:Int32)) C.1 C.2.1 dX11_makeOf_98 (by decide) ?_
  refine lv_aload_n C.1 C.2.1 dX11_makeOf_99 rfl (lv_at hl_45 1 rfl) ?_
  refine cg_11_56 C G ha dX11_makeOf_100 (fun t_47 => ?_)
  have t_47 : (T 38).1 = 24 := by rw [t_47]
  refine lv_iload_n C.1 C.2.1 dX11_makeOf_103 rfl (lv_at hl_45 3 rfl) ?_
  obtain ⟨r_49, σ_48, hq, h_50⟩ := bd2_some h
  refine cl_callV (ci := 8) (rest := [.int (0:Int32), .int x1, .ref (c0 + 38)]) C G rfl t_47 cw_RX11_233 [.int x2] _ (kc_X8_at l D c0 (by rw [G.1]; exact t_47) hq) (Nat.le_of_ble_eq_true rfl) (Nat.le_of_ble_eq_true rfl) rfl rfl hl_45.1 (Nat.le_of_ble_eq_true rfl) dX11_makeOf_104 (fun T_51 H locs cells slots t_52 hu G_53 => ?_)
  have g0 := g0.up hu (by decide)
  have ha := hu.kind ha (by decide)
  have f5 := f5.up hu (by decide)
  have t_46 := hu.kind t_46 (by decide)
  refine W.eq (g2 := F0 m 107 ls [cl_rf c0 r_49, .int (0:Int32), .int x1, .ref (c0 + 38)]) rfl ?_
  refine cl_aload C.1 C.2.1 dX11_makeOf_107 (lv_at hl_45 4 rfl) ?_
  refine cl_aload C.1 C.2.1 dX11_makeOf_109 (lv_at hl_45 0 rfl) ?_
  obtain ⟨r_55, σ_54, hq, h_56⟩ := bd2_some h_50
  refine cl_callV (ci := 8) (rest := []) C G_53 rfl t_46 cw_RX11_327 [.int x1, .int (0:Int32), cl_rf c0 r_49, cl_rf c0 x5, cl_rf c0 v0] _ (kc_X8_comeInMade l D c0 (by rw [G_53.1]; exact t_46) hq (by rw [G_53.1]; exact t_52) (by rw [G_53.1]; exact f5) (by rw [G_53.1]; exact g0)) (Nat.le_of_ble_eq_true rfl) (Nat.le_of_ble_eq_true rfl) rfl rfl hl_45.1 (Nat.le_of_ble_eq_true rfl) dX11_makeOf_111 (fun T_57 H locs cells slots t_58 hu G_59 => ?_)
  have g0 := g0.up hu (by decide)
  have ha := hu.kind ha (by decide)
  have f5 := f5.up hu (by decide)
  refine W.eq (g2 := F0 m 114 ls [.int r_55]) rfl ?_
  exact cl_iret ⟨rfl, rfl⟩ rfl C G_59 h_56 dX11_makeOf_114
noncomputable def bc_X11_makeOf_62 (a : Nat) (x1 : Int32) (x2 : Int32) (x4 : Int32) (v0 : (Option Nat)) (σ : cl_S) : Option (Int32 × cl_S) := bd2 (fc_X10_parts x1 σ) (fun r_35 σ_34 => (if r_35 < (3:Int32) then vl (σ_34.2.2.1 31 4) (fun r_42 => bc_X11_makeOf_91 a x1 x2 v0 r_42 σ_34) else bd2 (fc_X8_at 38 x4 σ_34) (fun r_62 σ_61 => bc_X11_makeOf_91 a x1 x2 v0 r_62 σ_61)))
set_option maxHeartbeats 4000000 in
theorem wc_X11_makeOf_62 (C : cl_C D p s m args meth c cX11_makeOf 7 (some .int) RX11) {r : Int32} {a : Nat} {x1 : Int32} {x2 : Int32} {x4 : Int32} {v0 : (Option Nat)} {σ0 σ σ' : cl_S} {T : Nat → Nat × Nat} {H : Heap} {locs : List Loc} {ls : Array Slot} {cells slots : Nat} (h : bc_X11_makeOf_62 a x1 x2 x4 v0 σ = some (r, σ')) (G : cl_G true D c0 ({ frames := 4, cells := σ0.2.2.2.2.2.1, slots := σ0.2.2.2.2.2.2, locals := 97 }) s σ0.2.2.2.1 T σ H locs cells slots) (ha : (T a).1 = 27) (g0 : cl_RT T v0 25) (hl : lv_has ls 7 [(0, .ref (c0 + a)), (1, .int x1), (2, .int x2), (4, .int x4)]) : W p l e ({ frames := 4, cells := σ0.2.2.2.2.2.1, slots := σ0.2.2.2.2.2.2, locals := 97 }) s m args below meth c H locs cells slots (MQ below (cl_Q true D c0 (some (.int r)) cl_no σ0 σ') args s (σ0.2.2.2.2.2.1 - σ'.2.2.2.2.2.1) (σ0.2.2.2.2.2.2 - σ'.2.2.2.2.2.2) (cl_A c0 σ0.2.2.2.1 s.heap.size)) (F0 m 62 ls [cl_rf c0 v0]) := by
  unfold bc_X11_makeOf_62 at h
  refine cl_astore (lv' := [(5, cl_rf c0 v0), (0, .ref (c0 + a)), (1, .int x1), (2, .int x2), (4, .int x4)]) C.1 C.2.1 dX11_makeOf_62 hl (by decide) rfl (fun ls hl_33 => ?_)
  refine lv_iload_n C.1 C.2.1 dX11_makeOf_64 rfl (lv_at hl_33 2 rfl) ?_
  obtain ⟨r_35, σ_34, hq, h_36⟩ := bd2_some h
  refine cl_callS (rest := []) C G cw_RX11_343 [.int x1] _ (kc_X10_parts l D c0 hq) (Nat.le_of_ble_eq_true rfl) (Nat.le_of_ble_eq_true rfl) rfl rfl hl_33.1 (Nat.le_of_ble_eq_true rfl) dX11_makeOf_65 (fun T_37 H locs cells slots t_38 hu G_39 => ?_)
  have g0 := g0.up hu (by decide)
  have ha := hu.kind ha (by decide)
  refine W.eq (g2 := F0 m 68 ls [.int r_35]) rfl ?_
  refine lv_iconst (v := (3:Int32)) C.1 C.2.1 dX11_makeOf_68 (by decide) ?_
  refine lv_icmp_lt (tgt := 84) C.1 C.2.1 dX11_makeOf_69 (by decide) (fun hc => ?_) (fun hc => ?_)
  · rw [if_pos hc] at h_36
    refine lv_aload_n C.1 C.2.1 dX11_makeOf_84 rfl (lv_at hl_33 1 rfl) ?_
    refine cg_11_47 C G_39 ha dX11_makeOf_85 (fun t_40 => ?_)
    have t_40 : (T_37 31).1 = 26 := by rw [t_40]
    refine cg_11_62 C G_39 t_40 dX11_makeOf_88 (fun t_41 => ?_)
    refine vt_r (K := 25) t_41 h_36 (fun r_42 t_43 h_44 => ?_)
    exact wc_X11_makeOf_91 C h_44 G_39 ha g0 t_43 (lv_sub hl_33 [1, 2, 3, 0] rfl)
  · rw [if_neg hc] at h_36
    refine lv_aload_n C.1 C.2.1 dX11_makeOf_72 rfl (lv_at hl_33 1 rfl) ?_
    refine cg_11_56 C G_39 ha dX11_makeOf_73 (fun t_60 => ?_)
    have t_60 : (T_37 38).1 = 24 := by rw [t_60]
    refine lv_iload C.1 C.2.1 dX11_makeOf_76 (lv_at hl_33 4 rfl) ?_
    obtain ⟨r_62, σ_61, hq, h_63⟩ := bd2_some h_36
    refine cl_callV (ci := 8) (rest := []) C G_39 rfl t_60 cw_RX11_233 [.int x4] _ (kc_X8_at l D c0 (by rw [G_39.1]; exact t_60) hq) (Nat.le_of_ble_eq_true rfl) (Nat.le_of_ble_eq_true rfl) rfl rfl hl_33.1 (Nat.le_of_ble_eq_true rfl) dX11_makeOf_78 (fun T_64 H locs cells slots t_65 hu G_66 => ?_)
    have g0 := g0.up hu (by decide)
    have ha := hu.kind ha (by decide)
    refine W.eq (g2 := F0 m 81 ls [cl_rf c0 r_62]) rfl ?_
    refine lv_goto (tgt := 91) C.1 C.2.1 dX11_makeOf_81 (by decide) ?_
    exact wc_X11_makeOf_91 C h_63 G_66 ha g0 t_65 (lv_sub hl_33 [1, 2, 3, 0] rfl)
noncomputable def bc_X11_makeOf_0 (a : Nat) (x1 : Int32) (x2 : Int32) (x3 : Int32) (x4 : Int32) (σ : cl_S) : Option (Int32 × cl_S) := bd2 (fc_X8_has 38 x2 σ) (fun r_3 σ_2 => (if r_3 = 0 then some ((-1:Int32), σ_2) else bd2 (fc_X8_has 38 x3 σ_2) (fun r_10 σ_9 => (if r_10 = 0 then some ((-1:Int32), σ_9) else bd2 (fc_X8_has 38 x4 σ_9) (fun r_17 σ_16 => (if r_17 = 0 then some ((-1:Int32), σ_16) else bd2 (fc_X10_parts x1 σ_16) (fun r_23 σ_22 => (if r_23 < (2:Int32) then vl (σ_22.2.2.1 31 4) (fun r_30 => bc_X11_makeOf_62 a x1 x2 x4 r_30 σ_22) else bd2 (fc_X8_at 38 x3 σ_22) (fun r_69 σ_68 => bc_X11_makeOf_62 a x1 x2 x4 r_69 σ_68)))))))))
set_option maxHeartbeats 4000000 in
theorem wc_X11_makeOf_0 (C : cl_C D p s m args meth c cX11_makeOf 7 (some .int) RX11) {r : Int32} {a : Nat} {x1 : Int32} {x2 : Int32} {x3 : Int32} {x4 : Int32} {σ0 σ σ' : cl_S} {T : Nat → Nat × Nat} {H : Heap} {locs : List Loc} {ls : Array Slot} {cells slots : Nat} (h : bc_X11_makeOf_0 a x1 x2 x3 x4 σ = some (r, σ')) (G : cl_G true D c0 ({ frames := 4, cells := σ0.2.2.2.2.2.1, slots := σ0.2.2.2.2.2.2, locals := 97 }) s σ0.2.2.2.1 T σ H locs cells slots) (ha : (T a).1 = 27) (hl : lv_has ls 7 [(0, .ref (c0 + a)), (1, .int x1), (2, .int x2), (3, .int x3), (4, .int x4)]) : W p l e ({ frames := 4, cells := σ0.2.2.2.2.2.1, slots := σ0.2.2.2.2.2.2, locals := 97 }) s m args below meth c H locs cells slots (MQ below (cl_Q true D c0 (some (.int r)) cl_no σ0 σ') args s (σ0.2.2.2.2.2.1 - σ'.2.2.2.2.2.1) (σ0.2.2.2.2.2.2 - σ'.2.2.2.2.2.2) (cl_A c0 σ0.2.2.2.1 s.heap.size)) (F0 m 0 ls []) := by
  unfold bc_X11_makeOf_0 at h
  refine lv_aload_n C.1 C.2.1 dX11_makeOf_0 rfl (lv_at hl 0 rfl) ?_
  refine cg_11_56 C G ha dX11_makeOf_1 (fun t_1 => ?_)
  have t_1 : (T 38).1 = 24 := by rw [t_1]
  refine lv_iload_n C.1 C.2.1 dX11_makeOf_4 rfl (lv_at hl 2 rfl) ?_
  obtain ⟨r_3, σ_2, hq, h_4⟩ := bd2_some h
  refine cl_callV (ci := 8) (rest := []) C G rfl t_1 cw_RX11_230 [.int x2] _ (kc_X8_has l D c0 (by rw [G.1]; exact t_1) hq) (Nat.le_of_ble_eq_true rfl) (Nat.le_of_ble_eq_true rfl) rfl rfl hl.1 (Nat.le_of_ble_eq_true rfl) dX11_makeOf_5 (fun T_5 H locs cells slots t_6 hu G_7 => ?_)
  have ha := hu.kind ha (by decide)
  refine W.eq (g2 := F0 m 8 ls [.int r_3]) rfl ?_
  refine lv_if_eq (tgt := 34) C.1 C.2.1 dX11_makeOf_8 (by decide) (fun hc => ?_) (fun hc => ?_)
  · rw [if_pos hc] at h_4
    refine lv_iconst (v := (-1:Int32)) C.1 C.2.1 dX11_makeOf_34 (by decide) ?_
    exact cl_iret ⟨rfl, rfl⟩ rfl C G_7 h_4 dX11_makeOf_35
  · rw [if_neg hc] at h_4
    refine lv_aload_n C.1 C.2.1 dX11_makeOf_11 rfl (lv_at hl 0 rfl) ?_
    refine cg_11_56 C G_7 ha dX11_makeOf_12 (fun t_8 => ?_)
    have t_8 : (T_5 38).1 = 24 := by rw [t_8]
    refine lv_iload_n C.1 C.2.1 dX11_makeOf_15 rfl (lv_at hl 3 rfl) ?_
    obtain ⟨r_10, σ_9, hq, h_11⟩ := bd2_some h_4
    refine cl_callV (ci := 8) (rest := []) C G_7 rfl t_8 cw_RX11_230 [.int x3] _ (kc_X8_has l D c0 (by rw [G_7.1]; exact t_8) hq) (Nat.le_of_ble_eq_true rfl) (Nat.le_of_ble_eq_true rfl) rfl rfl hl.1 (Nat.le_of_ble_eq_true rfl) dX11_makeOf_16 (fun T_12 H locs cells slots t_13 hu G_14 => ?_)
    have ha := hu.kind ha (by decide)
    refine W.eq (g2 := F0 m 19 ls [.int r_10]) rfl ?_
    refine lv_if_eq (tgt := 34) C.1 C.2.1 dX11_makeOf_19 (by decide) (fun hc => ?_) (fun hc => ?_)
    · rw [if_pos hc] at h_11
      refine lv_iconst (v := (-1:Int32)) C.1 C.2.1 dX11_makeOf_34 (by decide) ?_
      exact cl_iret ⟨rfl, rfl⟩ rfl C G_14 h_11 dX11_makeOf_35
    · rw [if_neg hc] at h_11
      refine lv_aload_n C.1 C.2.1 dX11_makeOf_22 rfl (lv_at hl 0 rfl) ?_
      refine cg_11_56 C G_14 ha dX11_makeOf_23 (fun t_15 => ?_)
      have t_15 : (T_12 38).1 = 24 := by rw [t_15]
      refine lv_iload C.1 C.2.1 dX11_makeOf_26 (lv_at hl 4 rfl) ?_
      obtain ⟨r_17, σ_16, hq, h_18⟩ := bd2_some h_11
      refine cl_callV (ci := 8) (rest := []) C G_14 rfl t_15 cw_RX11_230 [.int x4] _ (kc_X8_has l D c0 (by rw [G_14.1]; exact t_15) hq) (Nat.le_of_ble_eq_true rfl) (Nat.le_of_ble_eq_true rfl) rfl rfl hl.1 (Nat.le_of_ble_eq_true rfl) dX11_makeOf_28 (fun T_19 H locs cells slots t_20 hu G_21 => ?_)
      have ha := hu.kind ha (by decide)
      refine W.eq (g2 := F0 m 31 ls [.int r_17]) rfl ?_
      refine lv_if_ne (tgt := 36) C.1 C.2.1 dX11_makeOf_31 (by decide) (fun hc => ?_) (fun hc => ?_)
      · rw [if_neg hc] at h_18
        refine lv_iload_n C.1 C.2.1 dX11_makeOf_36 rfl (lv_at hl 1 rfl) ?_
        obtain ⟨r_23, σ_22, hq, h_24⟩ := bd2_some h_18
        refine cl_callS (rest := []) C G_21 cw_RX11_343 [.int x1] _ (kc_X10_parts l D c0 hq) (Nat.le_of_ble_eq_true rfl) (Nat.le_of_ble_eq_true rfl) rfl rfl hl.1 (Nat.le_of_ble_eq_true rfl) dX11_makeOf_37 (fun T_25 H locs cells slots t_26 hu G_27 => ?_)
        have ha := hu.kind ha (by decide)
        refine W.eq (g2 := F0 m 40 ls [.int r_23]) rfl ?_
        refine lv_iconst (v := (2:Int32)) C.1 C.2.1 dX11_makeOf_40 (by decide) ?_
        refine lv_icmp_lt (tgt := 55) C.1 C.2.1 dX11_makeOf_41 (by decide) (fun hc => ?_) (fun hc => ?_)
        · rw [if_pos hc] at h_24
          refine lv_aload_n C.1 C.2.1 dX11_makeOf_55 rfl (lv_at hl 0 rfl) ?_
          refine cg_11_47 C G_27 ha dX11_makeOf_56 (fun t_28 => ?_)
          have t_28 : (T_25 31).1 = 26 := by rw [t_28]
          refine cg_11_62 C G_27 t_28 dX11_makeOf_59 (fun t_29 => ?_)
          refine vt_r (K := 25) t_29 h_24 (fun r_30 t_31 h_32 => ?_)
          exact wc_X11_makeOf_62 C h_32 G_27 ha t_31 (lv_sub hl [0, 1, 2, 4] rfl)
        · rw [if_neg hc] at h_24
          refine lv_aload_n C.1 C.2.1 dX11_makeOf_44 rfl (lv_at hl 0 rfl) ?_
          refine cg_11_56 C G_27 ha dX11_makeOf_45 (fun t_67 => ?_)
          have t_67 : (T_25 38).1 = 24 := by rw [t_67]
          refine lv_iload_n C.1 C.2.1 dX11_makeOf_48 rfl (lv_at hl 3 rfl) ?_
          obtain ⟨r_69, σ_68, hq, h_70⟩ := bd2_some h_24
          refine cl_callV (ci := 8) (rest := []) C G_27 rfl t_67 cw_RX11_233 [.int x3] _ (kc_X8_at l D c0 (by rw [G_27.1]; exact t_67) hq) (Nat.le_of_ble_eq_true rfl) (Nat.le_of_ble_eq_true rfl) rfl rfl hl.1 (Nat.le_of_ble_eq_true rfl) dX11_makeOf_49 (fun T_71 H locs cells slots t_72 hu G_73 => ?_)
          have ha := hu.kind ha (by decide)
          refine W.eq (g2 := F0 m 52 ls [cl_rf c0 r_69]) rfl ?_
          refine lv_goto (tgt := 62) C.1 C.2.1 dX11_makeOf_52 (by decide) ?_
          exact wc_X11_makeOf_62 C h_70 G_73 ha t_72 (lv_sub hl [0, 1, 2, 4] rfl)
      · rw [if_pos hc] at h_18
        refine lv_iconst (v := (-1:Int32)) C.1 C.2.1 dX11_makeOf_34 (by decide) ?_
        exact cl_iret ⟨rfl, rfl⟩ rfl C G_21 h_18 dX11_makeOf_35
noncomputable def fc_X11_makeOf (a : Nat) (x1 : Int32) (x2 : Int32) (x3 : Int32) (x4 : Int32) (σ : cl_S) : Option (Int32 × cl_S) := bc_X11_makeOf_0 a x1 x2 x3 x4 σ
theorem kc_X11_makeOf (l : Launch) (D : cl_D) (c0 : Nat) {r : Int32} {a : Nat} {x1 : Int32} {x2 : Int32} {x3 : Int32} {x4 : Int32} {σ σ' : cl_S} (ha : (σ.2.2.2.1 a).1 = 27) (h : fc_X11_makeOf a x1 x2 x3 x4 σ = some (r, σ')) : cl_Met true l D c0 yX11_makeOf cX11_makeOf 7 (some .int) 4 97 [.ref (c0 + a), .int x1, .int x2, .int x3, .int x4] σ (some (.int r)) cl_no σ' :=
  cl_of (by decide) (Nat.le_of_ble_eq_true rfl) (fun p e s m args below meth c ls C hn G hl => wc_X11_makeOf_0 C h G ha hl)
end CQ15
